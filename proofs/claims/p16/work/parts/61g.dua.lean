def pop (u : Nat) : Nat := u % 2 + u / 2 % 2 + u / 4 % 2
def g_bit (u : Nat) : zCt := (258, [.inl (zN u)], [], [], [.inl (some (.inl (zN (pop u))), [])], 1)
theorem g_bit_ok : ∀ u ∈ List.range 8, z_ctH [] (g_bit u) := z_tab_ok g_bit [] z_hds_ok 0 1 _ (by decide +kernel)
theorem pop_3 {u : Nat} : pop u ≤ 3 := by
  unfold pop
  omega
theorem b_bit {nS d u : Nat} {M : aM} {x : Int32} (hx : x = Int32.ofNat u) (hu : u < 8) : aC nS (d + 1) 258 [vI x] M (fun v M' => v = some (vI (Int32.ofNat (pop u))) ∧ M = M') (fun _ _ => False) := by
  subst hx
  have h3 := pop_3 (u := u)
  exact zN_use (nS := nS) (d := d + 1) (M := M) (g_bit_ok _ (List.mem_range.mpr hu)) (r := pop u) (by omega) rfl rfl (Nat.le_add_left 1 d) (as := [vI (Int32.ofNat u)]) (h_Iv (zN_i (n := u) (by omega)) trivial) z_MT0 h_MG0
theorem x_and {a b : Nat} : Int32.ofNat a &&& Int32.ofNat b = Int32.ofNat (a &&& b) := by
  apply Int32.toBitVec_inj.mp
  rw [Int32.toBitVec_and]
  show BitVec.ofNat 32 a &&& BitVec.ofNat 32 b = BitVec.ofNat 32 (a &&& b)
  rw [BitVec.ofNat_and]
theorem x_an8 {a b : Nat} (hb : b < 8) : a &&& b < 8 := Nat.and_lt_two_pow (n := 3) a hb
/-- a dual, up to a turn -/
def dl (W : Nat → Int32) (t : Nat) : Nat → Int32
  | 0 => 0
  | s + 1 => dl W t s + (bif Nat.beq (pop (s &&& t) % 2) 0 then W s else - W s)
def rbt (S T : Int32) : Int32 := 0 + (((S >>> ((0 : Int32) &&& 31)) &&& (T >>> ((0 : Int32) &&& 31))) &&& 1) + (((S >>> (((0 : Int32) + 1) &&& 31)) &&& (T >>> (((0 : Int32) + 1) &&& 31))) &&& 1) + (((S >>> (((0 : Int32) + 1 + 1) &&& 31)) &&& (T >>> (((0 : Int32) + 1 + 1) &&& 31))) &&& 1)
theorem rb_ok0 : (List.range 8).all (fun s => (List.range 8).all (fun t => decide (rbt (Int32.ofNat s) (Int32.ofNat t) - rbt (Int32.ofNat s) (Int32.ofNat t) / 2 * 2 = 0) == Nat.beq (pop (s &&& t) % 2) 0)) = true := by decide +kernel
theorem rb_ok {s t : Nat} (hs : s < 8) (ht : t < 8) : decide (rbt (Int32.ofNat s) (Int32.ofNat t) - rbt (Int32.ofNat s) (Int32.ofNat t) / 2 * 2 = 0) = Nat.beq (pop (s &&& t) % 2) 0 := eq_of_beq (List.all_eq_true.mp (List.all_eq_true.mp rb_ok0 s (List.mem_range.mpr hs)) t (List.mem_range.mpr ht))
theorem b_dualOf {nS d k o t : Nat} {M : aM} {x : Int32} {W : Nat → Int32} (hF : gF 0 M k o) (hw : ∀ s, s < 8 → M.1 13 0 s = W s) (hx : x = Int32.ofNat t) (ht : t < o) : aC nS (d + 3) 128 [vR 24 0, vI x] M (fun v M' => v = some (vI (dl W t o)) ∧ M = M') (fun _ _ => False) := by
  have hq := hF.1.1
  obtain ⟨o2, o8, k3⟩ := gP_o hq
  subst hx
  refine aC_mk rfl rfl ?_
  intro K hK _
  have lp : ∀ (m s : Nat) (x y : Int32), o - s = m → s ≤ o → x = dl W t s → y = Int32.ofNat s → K 4 [some (vR 24 0), some (vI (Int32.ofNat t)), some (vI x), some (vI y)] [] M := by
    intro m
    induction m with
    | zero =>
      intro s x y hm hs hx hy
      subst hx
      subst hy
      refine hK _ _ _ _ (hK _ _ _ _ (hK _ _ _ _ (hK _ _ _ _ (⟨_, b_order, rfl, fun v9 M9 g9 => ?_⟩))))
      obtain ⟨rfl, rfl⟩ := g9
      rw [hF.1.2.2]
      refine hK _ _ _ _ (⟨fun h => ?_, fun h => ?_⟩)
      · exact hK _ _ _ _ (hK _ _ _ _ (⟨by rw [show s = o by omega], rfl⟩))
      · exact absurd (x_nge (x := s) (y := o) rfl rfl (by omega) (by omega) h) (by omega)
    | succ m ih =>
      intro s x y hm hs hx hy
      subst hx
      subst hy
      have hso : s < o := by omega
      have p3 := pop_3 (u := s &&& t)
      have e9 : dl W t (s + 1) = dl W t s + (bif Nat.beq (pop (s &&& t) % 2) 0 then W s else - W s) := rfl
      refine hK _ _ _ _ (hK _ _ _ _ (hK _ _ _ _ (hK _ _ _ _ (⟨_, b_order, rfl, fun v9 M9 g9 => ?_⟩))))
      obtain ⟨rfl, rfl⟩ := g9
      rw [hF.1.2.2]
      refine hK _ _ _ _ (⟨fun h => ?_, fun h => ?_⟩)
      · exact absurd (x_ge (x := s) (y := o) rfl rfl (by omega) (by omega) h) (by omega)
      · refine hK _ _ _ _ (hK _ _ _ _ (hK _ _ _ _ (hK _ _ _ _ (hK _ _ _ _ (⟨_, b_bit x_and (x_an8 (show t < 8 by omega)), rfl, fun v19 M19 g19 => ?_⟩)))))
        obtain ⟨rfl, rfl⟩ := g19
        refine hK _ _ _ _ (hK _ _ _ _ (⟨by decide, ?_⟩))
        rw [show Int32.ofNat (pop (s &&& t)) - Int32.ofNat (pop (s &&& t)) / 2 * 2 = Int32.ofNat (pop (s &&& t) % 2) from x_rem (by omega) (by decide)]
        refine hK _ _ _ _ (⟨fun q => ?_, fun q => ?_⟩)
        · refine hK _ _ _ _ (hK _ _ _ _ (hK _ _ _ _ (hK _ _ _ _ (⟨_, b_weight (show s < 8 by omega), rfl, fun v43 M43 g43 => ?_⟩))))
          obtain ⟨rfl, rfl⟩ := g43
          rw [hw s (by omega)]
          refine hK _ _ _ _ (hK _ _ _ _ (hK _ _ _ _ (hK _ _ _ _ (hK _ _ _ _ (?_)))))
          exact ih (s + 1) _ _ (by omega) (by omega) (by rw [e9, x_nbq (show ¬ pop (s &&& t) % 2 = 0 from fun z => q (by rw [z]; rfl))]; rfl) hI_s
        · refine hK _ _ _ _ (hK _ _ _ _ (hK _ _ _ _ (hK _ _ _ _ (⟨_, b_weight (show s < 8 by omega), rfl, fun v32 M32 g32 => ?_⟩))))
          obtain ⟨rfl, rfl⟩ := g32
          rw [hw s (by omega)]
          refine hK _ _ _ _ (hK _ _ _ _ (hK _ _ _ _ (hK _ _ _ _ (hK _ _ _ _ (?_)))))
          exact ih (s + 1) _ _ (by omega) (by omega) (by rw [e9, x_beq (x_eq (y := 0) rfl rfl (by omega) (by decide) q)]; rfl) hI_s
  refine hK _ _ _ _ (hK _ _ _ _ (hK _ _ _ _ (hK _ _ _ _ (?_))))
  exact lp _ 0 _ _ rfl (Nat.zero_le _) rfl rfl
theorem r_dualOf {nS d k o t : Nat} {M : aM} {W : Nat → Int32} (hg : gM M k o) (hw : ∀ s, s < 8 → M.1 37 0 (10 + s) = W s) (ht : t < o) : aC nS (d + 1) 251 [vR 36 0, vI (Int32.ofNat t)] M (fun v M' => v = some (vI (dl W t o)) ∧ M = M') (fun _ _ => False) := by
  have hq := hg.1
  obtain ⟨o2, o8, k3⟩ := gP_o hq
  refine aC_mk rfl rfl ?_
  intro K hK _
  have it : ∀ (T n S B kk : Int32), ¬ 3 ≤ kk → K 20 [some (vR 36 0), some (vI T), some (vI n), some (vI S), some (vI (B + (((S >>> (kk &&& 31)) &&& (T >>> (kk &&& 31))) &&& 1))), some (vI (kk + 1))] [] M → K 20 [some (vR 36 0), some (vI T), some (vI n), some (vI S), some (vI B), some (vI kk)] [] M := by
    intro T n S B kk h3 hk
    refine hK _ _ _ _ (hK _ _ _ _ (hK _ _ _ _ (⟨fun h => absurd h h3, fun _ => ?_⟩)))
    exact hK _ _ _ _ (hK _ _ _ _ (hK _ _ _ _ (hK _ _ _ _ (hK _ _ _ _ (hK _ _ _ _ (hK _ _ _ _ (hK _ _ _ _ (hK _ _ _ _ (hK _ _ _ _ (hK _ _ _ _ (hK _ _ _ _ (hK _ _ _ _ (hK _ _ _ _ (hk))))))))))))))
  have fin : ∀ (s : Nat) (n B : Int32), s < o → B = rbt (Int32.ofNat s) (Int32.ofNat t) → (Nat.beq (pop (s &&& t) % 2) 0 = true → ∀ B : Int32, K 56 [some (vR 36 0), some (vI (Int32.ofNat t)), some (vI n), some (vI (Int32.ofNat s)), some (vI B), some (vI ((0 : Int32) + 1 + 1 + 1))] [vI n] M) → (Nat.beq (pop (s &&& t) % 2) 0 = false → ∀ B : Int32, K 68 [some (vR 36 0), some (vI (Int32.ofNat t)), some (vI n), some (vI (Int32.ofNat s)), some (vI B), some (vI ((0 : Int32) + 1 + 1 + 1))] [vI n] M) → K 20 [some (vR 36 0), some (vI (Int32.ofNat t)), some (vI n), some (vI (Int32.ofNat s)), some (vI B), some (vI ((0 : Int32) + 1 + 1 + 1))] [] M := by
    intro s n B hs hB h1 h2
    have e8 := rb_ok (show s < 8 by omega) (show t < 8 by omega)
    rw [← hB] at e8
    refine hK _ _ _ _ (hK _ _ _ _ (hK _ _ _ _ (⟨fun _ => ?_, fun h => absurd (by decide) h⟩)))
    refine hK _ _ _ _ (hK _ _ _ _ (hK _ _ _ _ (hK _ _ _ _ (⟨by decide, ?_⟩))))
    refine hK _ _ _ _ (⟨fun q => ?_, fun q => ?_⟩)
    · refine h2 ?_ _
      rw [← e8]
      exact decide_eq_false q
    · refine h1 ?_ _
      rw [← e8]
      exact decide_eq_true q
  have lp : ∀ (m s : Nat) (x y : Int32) (l4 l5 : Option aV), o - s = m → s ≤ o → x = dl W t s → y = Int32.ofNat s → K 4 [some (vR 36 0), some (vI (Int32.ofNat t)), some (vI x), some (vI y), l4, l5] [] M := by
    intro m
    induction m with
    | zero =>
      intro s x y l4 l5 hm hs hx hy
      subst hx
      subst hy
      refine hK _ _ _ _ (hK _ _ _ _ (hK _ _ _ _ (hK _ _ _ _ (hK _ _ _ _ (⟨x_vp (a := 2) rfl (by decide) (by decide), ?_⟩)))))
      rw [x_cl (j := 2) (a := 2) rfl (by decide), hg.2.2]
      refine hK _ _ _ _ (⟨fun h => ?_, fun h => ?_⟩)
      · exact hK _ _ _ _ (hK _ _ _ _ (⟨by rw [show s = o by omega], rfl⟩))
      · exact absurd (x_nge (x := s) (y := o) rfl rfl (by omega) (by omega) h) (by omega)
    | succ m ih =>
      intro s x y l4 l5 hm hs hx hy
      subst hx
      subst hy
      have hso : s < o := by omega
      have e9 : dl W t (s + 1) = dl W t s + (bif Nat.beq (pop (s &&& t) % 2) 0 then W s else - W s) := rfl
      refine hK _ _ _ _ (hK _ _ _ _ (hK _ _ _ _ (hK _ _ _ _ (hK _ _ _ _ (⟨x_vp (a := 2) rfl (by decide) (by decide), ?_⟩)))))
      rw [x_cl (j := 2) (a := 2) rfl (by decide), hg.2.2]
      refine hK _ _ _ _ (⟨fun h => ?_, fun h => ?_⟩)
      · exact absurd (x_ge (x := s) (y := o) rfl rfl (by omega) (by omega) h) (by omega)
      · refine hK _ _ _ _ (hK _ _ _ _ (hK _ _ _ _ (hK _ _ _ _ (?_))))
        refine it _ _ _ _ _ (by decide) (it _ _ _ _ _ (by decide) (it _ _ _ _ _ (by decide) ?_))
        refine fin s _ _ hso rfl ?_ ?_
        · intro hp B
          refine hK _ _ _ _ (hK _ _ _ _ (hK _ _ _ _ (hK _ _ _ _ (hK _ _ _ _ (hK _ _ _ _ (⟨x_vp (a := 10 + s) (hI_ad (a := 10)) (by omega) (by decide), ?_⟩))))))
          rw [x_cl (j := 10 + Int32.ofNat s) (a := 10 + s) (hI_ad (a := 10)) (by omega), hw s (by omega)]
          refine hK _ _ _ _ (hK _ _ _ _ (hK _ _ _ _ (hK _ _ _ _ (hK _ _ _ _ (?_)))))
          exact ih (s + 1) _ _ _ _ (by omega) (by omega) (by rw [e9, hp]; rfl) hI_s
        · intro hp B
          refine hK _ _ _ _ (hK _ _ _ _ (hK _ _ _ _ (hK _ _ _ _ (hK _ _ _ _ (hK _ _ _ _ (⟨x_vp (a := 10 + s) (hI_ad (a := 10)) (by omega) (by decide), ?_⟩))))))
          rw [x_cl (j := 10 + Int32.ofNat s) (a := 10 + s) (hI_ad (a := 10)) (by omega), hw s (by omega)]
          refine hK _ _ _ _ (hK _ _ _ _ (hK _ _ _ _ (hK _ _ _ _ (hK _ _ _ _ (?_)))))
          exact ih (s + 1) _ _ _ _ (by omega) (by omega) (by rw [e9, hp]; rfl) hI_s
  refine hK _ _ _ _ (hK _ _ _ _ (hK _ _ _ _ (hK _ _ _ _ (?_))))
  exact lp _ 0 _ _ _ _ rfl (Nat.zero_le _) rfl rfl
theorem b_isOfHalves {nS d i k : Nat} {M : aM} (hk : M.1 5 i 0 = Int32.ofNat k) (k3 : k ≤ 3) : aC nS (d + 1) 66 [vR 5 i] M (fun v M' => ((k = 3 ∧ v = some (vI 1)) ∨ (¬ k = 3 ∧ v = some (vI 0))) ∧ M = M') (fun _ _ => False) := by
  refine aC_mk rfl rfl ?_
  intro K hK _
  refine hK _ _ _ _ (hK _ _ _ _ (hK _ _ _ _ (hK _ _ _ _ (⟨fun q => ?_, fun q => ?_⟩))))
  · exact hK _ _ _ _ (hK _ _ _ _ (⟨Or.inl rfl, Or.inr ⟨fun z => q (by rw [hk, z]; rfl), rfl⟩, rfl⟩))
  · exact hK _ _ _ _ (hK _ _ _ _ (hK _ _ _ _ (⟨Or.inr rfl, Or.inl ⟨x_eq (y := 3) hk rfl (by omega) (by decide) q, rfl⟩, rfl⟩)))
theorem c_dualX {nS : Nat} {M : aM} {a1 : Int32} {e : xB} (hB : cB 0 M e) : aC nS 60 172 [vR 0 0, vI a1] M (fun v M' => (∃ t, t < e.1.2 ∧ a1 = Int32.ofNat t ∧ e.1.1 = 3 ∧ v = some (vI (dl e.2.2.1 t e.1.2))) ∧ M = M') (fun x M' => ((x = 2 ∧ ¬ okT e.1.2 a1) ∨ (x = 4 ∧ okT e.1.2 a1 ∧ ¬ e.1.1 = 3)) ∧ M' = M) := by
  obtain ⟨ho, o2, o8, -⟩ := cB_h hB
  have hF := hB.1
  have k3 : e.1.1 ≤ 3 := (gP_o hF.1.1).2.2
  refine aC_mk rfl rfl ?_
  intro K hK _
  refine hK _ _ _ _ (hK _ _ _ _ (hK _ _ _ _ (⟨_, b_group, rfl, fun v4 M4 g4 => ?_⟩)))
  obtain ⟨rfl, rfl⟩ := g4
  refine hK _ _ _ _ (hK _ _ _ _ (⟨_, b_has (d := 58) ho o8, rfl, fun v8 M8 g8 => ?_⟩))
  obtain ⟨g8, rfl⟩ := g8
  rcases g8 with ⟨k1, rfl⟩ | ⟨k1, rfl⟩
  · refine hK _ _ _ _ (⟨fun q => ?_, fun q => ?_⟩)
    · refine hK _ _ _ _ (hK _ _ _ _ (hK _ _ _ _ (⟨_, b_group, rfl, fun v28 M28 g28 => ?_⟩)))
      obtain ⟨rfl, rfl⟩ := g28
      refine hK _ _ _ _ (⟨_, b_isOfHalves (d := 58) hF.1.2.1 k3, rfl, fun v31 M31 g31 => ?_⟩)
      obtain ⟨g31, rfl⟩ := g31
      rcases g31 with ⟨k2, rfl⟩ | ⟨k2, rfl⟩
      · refine hK _ _ _ _ (⟨fun q => ?_, fun q => ?_⟩)
        · obtain ⟨t, ht, rfl⟩ := k1
          refine hK _ _ _ _ (hK _ _ _ _ (hK _ _ _ _ (hK _ _ _ _ (⟨_, b_dualOf (d := 56) hF hB.2.2.2.1 rfl ht, rfl, fun v53 M53 g53 => ?_⟩))))
          obtain ⟨rfl, rfl⟩ := g53
          exact hK _ _ _ _ (⟨⟨t, ht, rfl, k2, rfl⟩, rfl⟩)
        · exact absurd q (by decide)
      · refine hK _ _ _ _ (⟨fun q => ?_, fun q => ?_⟩)
        · exact absurd rfl q
        · exact hK _ _ _ _ (⟨rfl, Or.inr ⟨rfl, k1, k2⟩, rfl⟩)
    · exact absurd q (by decide)
  · refine hK _ _ _ _ (⟨fun q => ?_, fun q => ?_⟩)
    · exact absurd rfl q
    · exact hK _ _ _ _ (⟨rfl, Or.inl ⟨rfl, k1⟩, rfl⟩)
theorem r_dualX {nS : Nat} {M : aM} {a1 : Int32} {e : xB} (hB : rB 37 M e) : aC nS 60 252 [vR 36 0, vI a1] M (fun v M' => (¬ okT e.1.2 a1 ∧ v = some (vI 0) ∧ M' = a_pI M 36 0 0 1) ∨ (okT e.1.2 a1 ∧ ¬ e.1.1 = 3 ∧ v = some (vI 0) ∧ M' = a_pI M 36 0 0 2) ∨ (∃ t, t < e.1.2 ∧ a1 = Int32.ofNat t ∧ e.1.1 = 3 ∧ v = some (vI (dl e.2.2.1 t e.1.2)) ∧ M' = a_pI M 36 0 0 0)) (fun _ _ => False) := by
  obtain ⟨ho, o2, o8, -⟩ := rB_h hB
  have hg := gM_p (x := 0) (rB_g hB)
  have k3 : e.1.1 ≤ 3 := (gP_o hB.1).2.2
  have hw : ∀ t, t < 8 → (a_pI M 36 0 0 0).1 37 0 (10 + t) = e.2.2.1 t := (rB_p hB).2.2.2.1
  refine aC_mk rfl rfl ?_
  intro K hK _
  refine hK _ _ _ _ (hK _ _ _ _ (hK _ _ _ _ (hK _ _ _ _ (⟨_, r_isTurn (d := 57) ho o2 o8, rfl, fun v3 M3 g3 => ?_⟩))))
  obtain ⟨g3, rfl⟩ := g3
  rcases g3 with ⟨k1, rfl⟩ | ⟨k1, rfl⟩
  · refine hK _ _ _ _ (⟨fun q => ?_, fun q => ?_⟩)
    · refine hK _ _ _ _ (hK _ _ _ _ (hK _ _ _ _ (hK _ _ _ _ (⟨x_vp (a := 1) rfl (by decide) (by decide), ?_⟩))))
      rw [x_cl (j := 1) (a := 1) rfl (by decide), hB.2.2.1.1]
      refine hK _ _ _ _ (hK _ _ _ _ (⟨fun q => ?_, fun q => ?_⟩))
      · have k2 : e.1.1 = 3 := x_eq (y := 3) rfl rfl (by omega) (by decide) q
        obtain ⟨t, ht, rfl⟩ := k1
        refine hK _ _ _ _ (hK _ _ _ _ (hK _ _ _ _ (hK _ _ _ _ (hK _ _ _ _ (⟨fun h => ?_, fun h => ?_⟩)))))
        · refine hK _ _ _ _ (hK _ _ _ _ (hK _ _ _ _ (⟨_, r_dualOf (d := 58) hg hw ht, rfl, fun v42 M42 g42 => ?_⟩)))
          obtain ⟨rfl, rfl⟩ := g42
          exact hK _ _ _ _ (Or.inr (Or.inr ⟨t, ht, rfl, k2, rfl, rfl⟩))
        · exact absurd (by first | (rw [x_pe]; decide) | rw [x_pe]) h
      · refine hK _ _ _ _ (hK _ _ _ _ (hK _ _ _ _ (hK _ _ _ _ (hK _ _ _ _ (hK _ _ _ _ (⟨fun h => ?_, fun h => ?_⟩))))))
        · exact absurd h (by first | (rw [x_pe]; decide) | rw [x_pe])
        · exact hK _ _ _ _ (hK _ _ _ _ (Or.inr (Or.inl ⟨k1, fun z => q (by rw [z]; rfl), rfl, rfl⟩)))
    · exact absurd q (by decide)
  · refine hK _ _ _ _ (⟨fun q => ?_, fun q => ?_⟩)
    · exact absurd rfl q
    · refine hK _ _ _ _ (hK _ _ _ _ (hK _ _ _ _ (hK _ _ _ _ (hK _ _ _ _ (hK _ _ _ _ (⟨fun h => ?_, fun h => ?_⟩))))))
      · exact absurd h (by first | (rw [x_pe]; decide) | rw [x_pe])
      · exact hK _ _ _ _ (hK _ _ _ _ (Or.inl ⟨k1, rfl, rfl⟩))
/-- what a product over all squares comes to, from v on -/
def px1 (f : Nat → Nat → Int64) (y : Nat) (v : Int64) : Nat → Int64
  | 0 => v
  | x + 1 => px1 f y v x * f x y
def py1 (f : Nat → Nat → Int64) (w : Nat) (v : Int64) : Nat → Int64
  | 0 => v
  | y + 1 => px1 f y (py1 f w v y) w
def sl (g : Nat → Int64) : Nat → Int64
  | 0 => 0
  | t + 1 => sl g t + g t
theorem px1_c {f : Nat → Nat → Int64} {y : Nat} {c v : Int64} : ∀ x, px1 f y (c * v) x = c * px1 f y v x
  | 0 => rfl
  | x + 1 => by
    show px1 f y (c * v) x * f x y = c * (px1 f y v x * f x y)
    rw [px1_c x, Int64.mul_assoc]
theorem py1_c {f : Nat → Nat → Int64} {w : Nat} {c v : Int64} : ∀ y, py1 f w (c * v) y = c * py1 f w v y
  | 0 => rfl
  | y + 1 => by
    show px1 f y (py1 f w (c * v) y) w = c * px1 f y (py1 f w v y) w
    rw [py1_c y, px1_c]
theorem sl_c {g g2 : Nat → Int64} {c : Int64} (h : ∀ t, g2 t = c * g t) : ∀ n, sl g2 n = c * sl g n
  | 0 => by
    show (0 : Int64) = c * 0
    rw [Int64.mul_zero]
  | n + 1 => by
    show sl g2 n + g2 n = c * (sl g n + g n)
    rw [sl_c h n, h n, Int64.mul_add]
/-- a square's part in the sum of duals -/
def dq (e : xB) (t x y : Nat) : Int64 := if e.2.2.2.1 (y * 4 + x) = 1 then (if t = 0 then Int32.ofNat e.1.2 else 0).toInt64 else (dl e.2.2.1 t e.1.2).toInt64
def dsm (e : xB) : Int64 := (Int32.ofNat e.1.2).toInt64 * sl (fun t => py1 (dq e t) e.2.1.1 1 e.2.1.2.1) e.1.2
theorem dsm_r (e : xB) : sl (fun t => py1 (dq e t) e.2.1.1 (Int32.ofNat e.1.2).toInt64 e.2.1.2.1) e.1.2 = dsm e := sl_c (fun t => by
  have h := py1_c (f := dq e t) (w := e.2.1.1) (c := (Int32.ofNat e.1.2).toInt64) (v := 1) e.2.1.2.1
  rw [Int64.mul_one] at h
  exact h) e.1.2
theorem b_isHole {nS d i j : Nat} {M : aM} {x : Int32} (hx : x = Int32.ofNat j) (hj : j < 16) : aC nS (d + 2) 31 [vR 4 i, vI x] M (fun v M' => ((M.1 14 i j = 1 ∧ v = some (vI 1)) ∨ (¬ M.1 14 i j = 1 ∧ v = some (vI 0))) ∧ M = M') (fun _ _ => False) := by
  subst hx
  refine aC_mk rfl rfl ?_
  intro K hK _
  refine hK _ _ _ _ (hK _ _ _ _ (hK _ _ _ _ (hK _ _ _ _ (⟨_, g_at14 rfl hj, rfl, fun v5 M5 g5 => ?_⟩))))
  obtain ⟨rfl, rfl⟩ := g5
  refine hK _ _ _ _ (hK _ _ _ _ (⟨fun q => ?_, fun q => ?_⟩))
  · exact hK _ _ _ _ (hK _ _ _ _ (⟨Or.inl rfl, Or.inr ⟨q, rfl⟩, rfl⟩))
  · exact hK _ _ _ _ (hK _ _ _ _ (hK _ _ _ _ (⟨Or.inr rfl, Or.inl ⟨q, rfl⟩, rfl⟩)))
theorem r_isHole {nS d a b : Nat} {M : aM} {H : Nat → Int32} (hH : rH (M.1 37 0 6) H) (ha : a < 3) (hb : b < 3) : aC nS (d + 1) 193 [vR 36 0, vI (Int32.ofNat a), vI (Int32.ofNat b)] M (fun v M' => ((H (b * 4 + a) = 1 ∧ v = some (vI 1)) ∨ (¬ H (b * 4 + a) = 1 ∧ v = some (vI 0))) ∧ M = M') (fun _ _ => False) := by
  obtain ⟨c, hc, h6, h1, -⟩ := hH
  have e9 : (Int32.ofNat c >>> ((3 * Int32.ofNat b + Int32.ofNat a) &&& 31)) &&& 1 = H (b * 4 + a) := by
    rw [show (3 : Int32) * Int32.ofNat b = Int32.ofNat (3 * b) from x_mul (a := 3) (by decide) (by omega), hI_ad]
    exact (x_bit hc (by omega)).trans (h1 a b ha hb).symm
  refine aC_mk rfl rfl ?_
  intro K hK _
  refine hK _ _ _ _ (hK _ _ _ _ (hK _ _ _ _ (hK _ _ _ _ (⟨x_vp (a := 6) rfl (by decide) (by decide), ?_⟩))))
  rw [x_cl (j := 6) (a := 6) rfl (by decide), h6]
  refine hK _ _ _ _ (hK _ _ _ _ (hK _ _ _ _ (hK _ _ _ _ (hK _ _ _ _ (hK _ _ _ _ (hK _ _ _ _ (hK _ _ _ _ (hK _ _ _ _ (hK _ _ _ _ (⟨fun q => ?_, fun q => ?_⟩))))))))))
  · exact hK _ _ _ _ (hK _ _ _ _ (⟨Or.inl rfl, Or.inr ⟨fun z => q (e9.trans z), rfl⟩, rfl⟩))
  · exact hK _ _ _ _ (hK _ _ _ _ (hK _ _ _ _ (⟨Or.inr rfl, Or.inl ⟨e9.symm.trans q, rfl⟩, rfl⟩)))
theorem b_ofDuals {nS d : Nat} {M : aM} {e : xB} (hB : cB 0 M e) : aC nS (d + 4) 129 [vR 24 0] M (fun v M' => v = some (vL (dsm e)) ∧ M = M') (fun _ _ => False) := by
  obtain ⟨ho, o2, o8, hS, w1, w3, h1, h3, s2⟩ := cB_h hB
  have hF := hB.1
  refine aC_mk rfl rfl ?_
  intro K hK _
  have xl : ∀ (t y : Nat) (S : Int64), t < e.1.2 → y < e.2.1.2.1 → ∀ (v0 : Int64), (∀ (v : Int64) (l7 l8 l9 : Option aV), v = px1 (dq e t) y v0 e.2.1.1 → K 113 [some (vR 24 0), some (vL S), none, some (vI (Int32.ofNat t)), some (vL v), none, some (vI (Int32.ofNat y)), l7, l8, l9] [] M) → ∀ (m x : Nat) (v : Int64) (z : Int32) (l8 l9 : Option aV), e.2.1.1 - x = m → x ≤ e.2.1.1 → v = px1 (dq e t) y v0 x → z = Int32.ofNat x → K 36 [some (vR 24 0), some (vL S), none, some (vI (Int32.ofNat t)), some (vL v), none, some (vI (Int32.ofNat y)), some (vI z), l8, l9] [] M := by
    intro t y S ht hy v0 out m
    induction m with
    | zero =>
      intro x v z l8 l9 hm hx hv hz
      subst hv
      subst hz
      refine hK _ _ _ _ (hK _ _ _ _ (hK _ _ _ _ (hK _ _ _ _ (⟨_, b_wide, rfl, fun v42 M42 g42 => ?_⟩))))
      obtain ⟨rfl, rfl⟩ := g42
      rw [hS.1]
      refine hK _ _ _ _ (⟨fun h => ?_, fun h => ?_⟩)
      · exact out _ _ _ _ (by rw [show x = e.2.1.1 by omega])
      · exact absurd (x_nge (x := x) (y := e.2.1.1) rfl rfl (by omega) (by omega) h) (by omega)
    | succ m ih =>
      intro x v z l8 l9 hm hx hv hz
      subst hv
      subst hz
      have e9 : px1 (dq e t) y v0 (x + 1) = px1 (dq e t) y v0 x * dq e t x y := rfl
      refine hK _ _ _ _ (hK _ _ _ _ (hK _ _ _ _ (hK _ _ _ _ (⟨_, b_wide, rfl, fun v42 M42 g42 => ?_⟩))))
      obtain ⟨rfl, rfl⟩ := g42
      rw [hS.1]
      refine hK _ _ _ _ (⟨fun h => ?_, fun h => ?_⟩)
      · exact absurd (x_ge (x := x) (y := e.2.1.1) rfl rfl (by omega) (by omega) h) (by omega)
      · refine hK _ _ _ _ (hK _ _ _ _ (hK _ _ _ _ (hK _ _ _ _ (hK _ _ _ _ (hK _ _ _ _ (hK _ _ _ _ (⟨_, b_squareAt hS w3 h3, rfl, fun v60 M60 g60 => ?_⟩)))))))
        obtain ⟨g60, rfl⟩ := g60
        rcases g60 with ⟨x9, y9, hx9, hy9, ex, ey, rfl⟩ | ⟨no, -⟩
        · have ex := x_inj (by omega) (by omega) ex
          have ey := x_inj (by omega) (by omega) ey
          subst ex
          subst ey
          refine hK _ _ _ _ (⟨_, b_isHole rfl (show y * 4 + x < 16 by omega), rfl, fun v63 M63 g63 => ?_⟩)
          obtain ⟨g63, rfl⟩ := g63
          rw [hB.2.2.2.2.1 (y * 4 + x) (by omega)] at g63
          have tl : ∀ (l9 : Int32), l9 = (if t = 0 then Int32.ofNat e.1.2 else 0) → K 85 [some (vR 24 0), some (vL S), none, some (vI (Int32.ofNat t)), some (vL (px1 (dq e t) y v0 x)), none, some (vI (Int32.ofNat y)), some (vI (Int32.ofNat x)), some (vI (if e.2.2.2.1 (y * 4 + x) = 1 then 1 else 0)), some (vI l9)] [] M := by
            intro l9 h9
            subst h9
            by_cases hh : e.2.2.2.1 (y * 4 + x) = 1
            · rw [if_pos hh]
              refine hK _ _ _ _ (hK _ _ _ _ (hK _ _ _ _ (⟨fun q => ?_, fun q => ?_⟩)))
              · exact absurd q (by decide)
              · refine hK _ _ _ _ (hK _ _ _ _ (hK _ _ _ _ (hK _ _ _ _ (hK _ _ _ _ (hK _ _ _ _ (hK _ _ _ _ (?_)))))))
                exact ih (x + 1) _ _ _ _ (by omega) (by omega) (by rw [e9, show dq e t x y = (if t = 0 then Int32.ofNat e.1.2 else 0).toInt64 from if_pos hh]) hI_s
            · rw [if_neg hh]
              refine hK _ _ _ _ (hK _ _ _ _ (hK _ _ _ _ (⟨fun q => ?_, fun q => ?_⟩)))
              · refine hK _ _ _ _ (hK _ _ _ _ (hK _ _ _ _ (⟨_, b_dualOf hF hB.2.2.2.1 rfl ht, rfl, fun v100 M100 g100 => ?_⟩)))
                obtain ⟨rfl, rfl⟩ := g100
                refine hK _ _ _ _ (hK _ _ _ _ (hK _ _ _ _ (hK _ _ _ _ (hK _ _ _ _ (?_)))))
                exact ih (x + 1) _ _ _ _ (by omega) (by omega) (by rw [e9, show dq e t x y = (dl e.2.2.1 t e.1.2).toInt64 from if_neg hh]) hI_s
              · exact absurd rfl q
          have t2 : ∀ u : Int32, u = (if e.2.2.2.1 (y * 4 + x) = 1 then 1 else 0) → ∀ l8 l9 : Option aV, K 66 [some (vR 24 0), some (vL S), none, some (vI (Int32.ofNat t)), some (vL (px1 (dq e t) y v0 x)), none, some (vI (Int32.ofNat y)), some (vI (Int32.ofNat x)), l8, l9] [vI u] M := by
            intro u hu l8 l9
            subst hu
            by_cases h0 : t = 0
            · refine hK _ _ _ _ (hK _ _ _ _ (hK _ _ _ _ (⟨fun q => ?_, fun q => ?_⟩)))
              · exact absurd (show Int32.ofNat t = 0 by rw [h0]; rfl) q
              · refine hK _ _ _ _ (hK _ _ _ _ (hK _ _ _ _ (⟨_, b_order, rfl, fun v76 M76 g76 => ?_⟩)))
                obtain ⟨rfl, rfl⟩ := g76
                rw [ho]
                refine hK _ _ _ _ (hK _ _ _ _ (?_))
                exact tl _ (if_pos h0).symm
            · refine hK _ _ _ _ (hK _ _ _ _ (hK _ _ _ _ (⟨fun q => ?_, fun q => ?_⟩)))
              · refine hK _ _ _ _ (hK _ _ _ _ (?_))
                exact tl _ (if_neg h0).symm
              · exact absurd (x_eq (y := 0) rfl rfl (by omega) (by decide) q) h0
          rcases g63 with ⟨z1, rfl⟩ | ⟨z1, rfl⟩
          · exact t2 _ (if_pos z1).symm _ _
          · exact t2 _ (if_neg z1).symm _ _
        · exact absurd ⟨x, y, by omega, hy, rfl, rfl⟩ no
  have yl : ∀ (t : Nat) (S : Int64), t < e.1.2 → (∀ (v : Int64) (l6 l7 l8 l9 : Option aV), v = py1 (dq e t) e.2.1.1 1 e.2.1.2.1 → K 119 [some (vR 24 0), some (vL S), none, some (vI (Int32.ofNat t)), some (vL v), none, l6, l7, l8, l9] [] M) → ∀ (m y : Nat) (v : Int64) (z : Int32) (l7 l8 l9 : Option aV), e.2.1.2.1 - y = m → y ≤ e.2.1.2.1 → v = py1 (dq e t) e.2.1.1 1 y → z = Int32.ofNat y → K 21 [some (vR 24 0), some (vL S), none, some (vI (Int32.ofNat t)), some (vL v), none, some (vI z), l7, l8, l9] [] M := by
    intro t S ht out m
    induction m with
    | zero =>
      intro y v z l7 l8 l9 hm hy hv hz
      subst hv
      subst hz
      refine hK _ _ _ _ (hK _ _ _ _ (hK _ _ _ _ (hK _ _ _ _ (⟨_, b_high, rfl, fun v27 M27 g27 => ?_⟩))))
      obtain ⟨rfl, rfl⟩ := g27
      rw [hS.2.1]
      refine hK _ _ _ _ (⟨fun h => ?_, fun h => ?_⟩)
      · exact out _ _ _ _ _ (by rw [show y = e.2.1.2.1 by omega])
      · exact absurd (x_nge (x := y) (y := e.2.1.2.1) rfl rfl (by omega) (by omega) h) (by omega)
    | succ m ih =>
      intro y v z l7 l8 l9 hm hy hv hz
      subst hv
      subst hz
      refine hK _ _ _ _ (hK _ _ _ _ (hK _ _ _ _ (hK _ _ _ _ (⟨_, b_high, rfl, fun v27 M27 g27 => ?_⟩))))
      obtain ⟨rfl, rfl⟩ := g27
      rw [hS.2.1]
      refine hK _ _ _ _ (⟨fun h => ?_, fun h => ?_⟩)
      · exact absurd (x_ge (x := y) (y := e.2.1.2.1) rfl rfl (by omega) (by omega) h) (by omega)
      · refine hK _ _ _ _ (hK _ _ _ _ (?_))
        refine xl t y S ht (by omega) (py1 (dq e t) e.2.1.1 1 y) (fun v l7 l8 l9 hv => ?_) _ 0 _ _ _ _ rfl (Nat.zero_le _) rfl rfl
        subst hv
        refine hK _ _ _ _ (hK _ _ _ _ (?_))
        exact ih (y + 1) _ _ _ _ _ (by omega) (by omega) rfl hI_s
  have lp : ∀ (m t : Nat) (S : Int64) (z : Int32) (l4 l5 l6 l7 l8 l9 : Option aV), e.1.2 - t = m → t ≤ e.1.2 → S = sl (fun t => py1 (dq e t) e.2.1.1 1 e.2.1.2.1) t → z = Int32.ofNat t → K 4 [some (vR 24 0), some (vL S), none, some (vI z), l4, l5, l6, l7, l8, l9] [] M := by
    intro m
    induction m with
    | zero =>
      intro t S z l4 l5 l6 l7 l8 l9 hm ht hv hz
      subst hv
      subst hz
      refine hK _ _ _ _ (hK _ _ _ _ (hK _ _ _ _ (hK _ _ _ _ (⟨_, b_order, rfl, fun v9 M9 g9 => ?_⟩))))
      obtain ⟨rfl, rfl⟩ := g9
      rw [ho]
      refine hK _ _ _ _ (⟨fun h => ?_, fun h => ?_⟩)
      · refine hK _ _ _ _ (hK _ _ _ _ (hK _ _ _ _ (⟨_, b_order, rfl, fun v134 M134 g134 => ?_⟩)))
        obtain ⟨rfl, rfl⟩ := g134
        rw [ho]
        exact hK _ _ _ _ (hK _ _ _ _ (hK _ _ _ _ (hK _ _ _ _ (⟨by rw [show t = e.1.2 by omega]; rfl, rfl⟩))))
      · exact absurd (x_nge (x := t) (y := e.1.2) rfl rfl (by omega) (by omega) h) (by omega)
    | succ m ih =>
      intro t S z l4 l5 l6 l7 l8 l9 hm ht hv hz
      subst hv
      subst hz
      refine hK _ _ _ _ (hK _ _ _ _ (hK _ _ _ _ (hK _ _ _ _ (⟨_, b_order, rfl, fun v9 M9 g9 => ?_⟩))))
      obtain ⟨rfl, rfl⟩ := g9
      rw [ho]
      refine hK _ _ _ _ (⟨fun h => ?_, fun h => ?_⟩)
      · exact absurd (x_ge (x := t) (y := e.1.2) rfl rfl (by omega) (by omega) h) (by omega)
      · refine hK _ _ _ _ (hK _ _ _ _ (hK _ _ _ _ (hK _ _ _ _ (?_))))
        refine yl t _ (by omega) (fun v l6 l7 l8 l9 hv => ?_) _ 0 _ _ _ _ _ rfl (Nat.zero_le _) rfl rfl
        subst hv
        refine hK _ _ _ _ (hK _ _ _ _ (hK _ _ _ _ (hK _ _ _ _ (hK _ _ _ _ (hK _ _ _ _ (?_))))))
        exact ih (t + 1) _ _ _ _ _ _ _ _ (by omega) (by omega) rfl hI_s
  refine hK _ _ _ _ (hK _ _ _ _ (hK _ _ _ _ (hK _ _ _ _ (?_))))
  exact lp _ 0 _ _ _ _ _ _ _ _ rfl (Nat.zero_le _) rfl rfl
theorem c_dualSumX {nS : Nat} {M : aM} {e : xB} (hB : cB 0 M e) : aC nS 60 173 [vR 0 0] M (fun v M' => ((e.1.1 = 3 ∧ e.2.1.2.2 = 2) ∧ v = some (vL (dsm e))) ∧ M = M') (fun x M' => (x = 4 ∧ ¬ (e.1.1 = 3 ∧ e.2.1.2.2 = 2)) ∧ M' = M) := by
  obtain ⟨ho, o2, o8, hS, w1, w3, h1, h3, s2⟩ := cB_h hB
  have hF := hB.1
  have k3 : e.1.1 ≤ 3 := (gP_o hF.1.1).2.2
  refine aC_mk rfl rfl ?_
  intro K hK _
  refine hK _ _ _ _ (hK _ _ _ _ (hK _ _ _ _ (⟨_, b_group, rfl, fun v4 M4 g4 => ?_⟩)))
  obtain ⟨rfl, rfl⟩ := g4
  refine hK _ _ _ _ (⟨_, b_isOfHalves (d := 58) hF.1.2.1 k3, rfl, fun v7 M7 g7 => ?_⟩)
  obtain ⟨g7, rfl⟩ := g7
  rcases g7 with ⟨k1, rfl⟩ | ⟨k1, rfl⟩
  · refine hK _ _ _ _ (⟨fun q => ?_, fun q => ?_⟩)
    · exact absurd q (by decide)
    · refine hK _ _ _ _ (hK _ _ _ _ (hK _ _ _ _ (⟨_, b_isClosed (d := 58) hS.2.2.1 s2, rfl, fun v17 M17 g17 => ?_⟩)))
      obtain ⟨g17, rfl⟩ := g17
      rcases g17 with ⟨k2, rfl⟩ | ⟨k2, rfl⟩
      · refine hK _ _ _ _ (⟨fun q => ?_, fun q => ?_⟩)
        · refine hK _ _ _ _ (hK _ _ _ _ (hK _ _ _ _ (⟨_, b_ofDuals (d := 55) hB, rfl, fun v38 M38 g38 => ?_⟩)))
          obtain ⟨rfl, rfl⟩ := g38
          exact hK _ _ _ _ (⟨⟨⟨k1, k2⟩, rfl⟩, rfl⟩)
        · exact absurd q (by decide)
      · refine hK _ _ _ _ (⟨fun q => ?_, fun q => ?_⟩)
        · exact absurd rfl q
        · exact hK _ _ _ _ (⟨rfl, ⟨rfl, fun z => k2 z.2⟩, rfl⟩)
  · refine hK _ _ _ _ (⟨fun q => ?_, fun q => ?_⟩)
    · exact hK _ _ _ _ (⟨rfl, ⟨rfl, fun z => k1 z.1⟩, rfl⟩)
    · exact absurd rfl q
theorem r_dualSumX {nS : Nat} {M : aM} {e : xB} (hB : rB 37 M e) : aC nS 60 253 [vR 36 0] M (fun v M' => (¬ (e.1.1 = 3 ∧ e.2.1.2.2 = 2) ∧ v = some (vL 0) ∧ M' = a_pI M 36 0 0 1) ∨ ((e.1.1 = 3 ∧ e.2.1.2.2 = 2) ∧ v = some (vL (dsm e)) ∧ M' = a_pI M 36 0 0 0)) (fun _ _ => False) := by
  have hB2 := rB_p (x := 0) hB
  obtain ⟨ho, o2, o8, hs, w1, w3, h1, h3, s2⟩ := rB_h hB2
  obtain ⟨-, -, -, hs0, -⟩ := rB_h hB
  have hg := gM_p (x := 0) (rB_g hB)
  have k3 : e.1.1 ≤ 3 := (gP_o hB.1).2.2
  have hw := hB2.2.2.2.1
  have hH := hB2.2.2.2.2
  refine aC_mk rfl rfl ?_
  intro K hK _
  have t1 : ¬ (e.1.1 = 3 ∧ e.2.1.2.2 = 2) → K 21 [some (vR 36 0), none, none, none, none, none, none, none] [vR 36 0] M := by
    intro no
    refine hK _ _ _ _ (hK _ _ _ _ (hK _ _ _ _ (hK _ _ _ _ (hK _ _ _ _ (hK _ _ _ _ (⟨fun h => ?_, fun h => ?_⟩))))))
    · exact absurd h (by first | (rw [x_pe]; decide) | rw [x_pe])
    · exact hK _ _ _ _ (hK _ _ _ _ (Or.inl ⟨no, rfl, rfl⟩))
  have xl : ∀ (t y : Nat) (S : Int64), t < e.1.2 → y < e.2.1.2.1 → ∀ (v0 : Int64), (∀ (v : Int64) (l7 : Option aV), v = px1 (dq e t) y v0 e.2.1.1 → K 134 [some (vR 36 0), some (vL S), none, some (vI (Int32.ofNat t)), some (vL v), none, some (vI (Int32.ofNat y)), l7] [] (a_pI M 36 0 0 0)) → ∀ (m x : Nat) (v : Int64) (z : Int32), e.2.1.1 - x = m → x ≤ e.2.1.1 → v = px1 (dq e t) y v0 x → z = Int32.ofNat x → K 78 [some (vR 36 0), some (vL S), none, some (vI (Int32.ofNat t)), some (vL v), none, some (vI (Int32.ofNat y)), some (vI z)] [] (a_pI M 36 0 0 0) := by
    intro t y S ht hy v0 out m
    induction m with
    | zero =>
      intro x v z hm hx hv hz
      subst hv
      subst hz
      refine hK _ _ _ _ (hK _ _ _ _ (hK _ _ _ _ (hK _ _ _ _ (hK _ _ _ _ (⟨x_vp (a := 3) rfl (by decide) (by decide), ?_⟩)))))
      rw [x_cl (j := 3) (a := 3) rfl (by decide), hs.1]
      refine hK _ _ _ _ (⟨fun h => ?_, fun h => ?_⟩)
      · exact out _ _ (by rw [show x = e.2.1.1 by omega])
      · exact absurd (x_nge (x := x) (y := e.2.1.1) rfl rfl (by omega) (by omega) h) (by omega)
    | succ m ih =>
      intro x v z hm hx hv hz
      subst hv
      subst hz
      have e9 : px1 (dq e t) y v0 (x + 1) = px1 (dq e t) y v0 x * dq e t x y := rfl
      refine hK _ _ _ _ (hK _ _ _ _ (hK _ _ _ _ (hK _ _ _ _ (hK _ _ _ _ (⟨x_vp (a := 3) rfl (by decide) (by decide), ?_⟩)))))
      rw [x_cl (j := 3) (a := 3) rfl (by decide), hs.1]
      refine hK _ _ _ _ (⟨fun h => ?_, fun h => ?_⟩)
      · exact absurd (x_ge (x := x) (y := e.2.1.1) rfl rfl (by omega) (by omega) h) (by omega)
      · refine hK _ _ _ _ (hK _ _ _ _ (hK _ _ _ _ (hK _ _ _ _ (hK _ _ _ _ (⟨_, r_isHole (d := 58) hH (show x < 3 by omega) (show y < 3 by omega), rfl, fun v96 M96 g96 => ?_⟩)))))
        obtain ⟨g96, rfl⟩ := g96
        rcases g96 with ⟨hh, rfl⟩ | ⟨hh, rfl⟩
        · have e8 : dq e t x y = (if t = 0 then Int32.ofNat e.1.2 else 0).toInt64 := if_pos hh
          refine hK _ _ _ _ (⟨fun q => ?_, fun q => ?_⟩)
          · exact absurd q (by decide)
          · by_cases h0 : t = 0
            · rw [if_pos h0] at e8
              refine hK _ _ _ _ (hK _ _ _ _ (⟨fun q => ?_, fun q => ?_⟩))
              · exact absurd (show Int32.ofNat t = 0 by rw [h0]; rfl) q
              · refine hK _ _ _ _ (hK _ _ _ _ (hK _ _ _ _ (hK _ _ _ _ (⟨x_vp (a := 2) rfl (by decide) (by decide), ?_⟩))))
                rw [x_cl (j := 2) (a := 2) rfl (by decide), hg.2.2]
                refine hK _ _ _ _ (hK _ _ _ _ (hK _ _ _ _ (hK _ _ _ _ (hK _ _ _ _ (hK _ _ _ _ (?_))))))
                exact ih (x + 1) _ _ (by omega) (by omega) (by rw [e9, e8]) hI_s
            · rw [if_neg h0] at e8
              refine hK _ _ _ _ (hK _ _ _ _ (⟨fun q => ?_, fun q => ?_⟩))
              · refine hK _ _ _ _ (hK _ _ _ _ (hK _ _ _ _ (hK _ _ _ _ (hK _ _ _ _ (hK _ _ _ _ (hK _ _ _ _ (?_)))))))
                exact ih (x + 1) _ _ (by omega) (by omega) (by rw [e9, e8]) hI_s
              · exact absurd (x_eq (y := 0) rfl rfl (by omega) (by decide) q) h0
        · have e8 : dq e t x y = (dl e.2.2.1 t e.1.2).toInt64 := if_neg hh
          refine hK _ _ _ _ (⟨fun q => ?_, fun q => ?_⟩)
          · refine hK _ _ _ _ (hK _ _ _ _ (hK _ _ _ _ (⟨_, r_dualOf (d := 58) hg hw ht, rfl, fun v121 M121 g121 => ?_⟩)))
            obtain ⟨rfl, rfl⟩ := g121
            refine hK _ _ _ _ (hK _ _ _ _ (hK _ _ _ _ (hK _ _ _ _ (hK _ _ _ _ (?_)))))
            exact ih (x + 1) _ _ (by omega) (by omega) (by rw [e9, e8]) hI_s
          · exact absurd rfl q
  have yl : ∀ (t : Nat) (S : Int64), t < e.1.2 → (∀ (v : Int64) (l6 l7 : Option aV), v = py1 (dq e t) e.2.1.1 (Int32.ofNat e.1.2).toInt64 e.2.1.2.1 → K 140 [some (vR 36 0), some (vL S), none, some (vI (Int32.ofNat t)), some (vL v), none, l6, l7] [] (a_pI M 36 0 0 0)) → ∀ (m y : Nat) (v : Int64) (z : Int32) (l7 : Option aV), e.2.1.2.1 - y = m → y ≤ e.2.1.2.1 → v = py1 (dq e t) e.2.1.1 (Int32.ofNat e.1.2).toInt64 y → z = Int32.ofNat y → K 64 [some (vR 36 0), some (vL S), none, some (vI (Int32.ofNat t)), some (vL v), none, some (vI z), l7] [] (a_pI M 36 0 0 0) := by
    intro t S ht out m
    induction m with
    | zero =>
      intro y v z l7 hm hy hv hz
      subst hv
      subst hz
      refine hK _ _ _ _ (hK _ _ _ _ (hK _ _ _ _ (hK _ _ _ _ (hK _ _ _ _ (⟨x_vp (a := 4) rfl (by decide) (by decide), ?_⟩)))))
      rw [x_cl (j := 4) (a := 4) rfl (by decide), hs.2.1]
      refine hK _ _ _ _ (⟨fun h => ?_, fun h => ?_⟩)
      · exact out _ _ _ (by rw [show y = e.2.1.2.1 by omega])
      · exact absurd (x_nge (x := y) (y := e.2.1.2.1) rfl rfl (by omega) (by omega) h) (by omega)
    | succ m ih =>
      intro y v z l7 hm hy hv hz
      subst hv
      subst hz
      refine hK _ _ _ _ (hK _ _ _ _ (hK _ _ _ _ (hK _ _ _ _ (hK _ _ _ _ (⟨x_vp (a := 4) rfl (by decide) (by decide), ?_⟩)))))
      rw [x_cl (j := 4) (a := 4) rfl (by decide), hs.2.1]
      refine hK _ _ _ _ (⟨fun h => ?_, fun h => ?_⟩)
      · exact absurd (x_ge (x := y) (y := e.2.1.2.1) rfl rfl (by omega) (by omega) h) (by omega)
      · refine hK _ _ _ _ (hK _ _ _ _ (?_))
        refine xl t y S ht (by omega) (py1 (dq e t) e.2.1.1 (Int32.ofNat e.1.2).toInt64 y) (fun v l7 hv => ?_) _ 0 _ _ rfl (Nat.zero_le _) rfl rfl
        subst hv
        refine hK _ _ _ _ (hK _ _ _ _ (?_))
        exact ih (y + 1) _ _ _ (by omega) (by omega) rfl hI_s
  have lp : ∀ (m t : Nat) (S : Int64) (z : Int32) (l4 l5 l6 l7 : Option aV), (e.1.1 = 3 ∧ e.2.1.2.2 = 2) → e.1.2 - t = m → t ≤ e.1.2 → S = sl (fun t => py1 (dq e t) e.2.1.1 (Int32.ofNat e.1.2).toInt64 e.2.1.2.1) t → z = Int32.ofNat t → K 42 [some (vR 36 0), some (vL S), none, some (vI z), l4, l5, l6, l7] [] (a_pI M 36 0 0 0) := by
    intro m
    induction m with
    | zero =>
      intro t S z l4 l5 l6 l7 yes hm ht hv hz
      subst hv
      subst hz
      refine hK _ _ _ _ (hK _ _ _ _ (hK _ _ _ _ (hK _ _ _ _ (hK _ _ _ _ (⟨x_vp (a := 2) rfl (by decide) (by decide), ?_⟩)))))
      rw [x_cl (j := 2) (a := 2) rfl (by decide), hg.2.2]
      refine hK _ _ _ _ (⟨fun h => ?_, fun h => ?_⟩)
      · exact hK _ _ _ _ (hK _ _ _ _ (Or.inr ⟨yes, by rw [show t = e.1.2 by omega, dsm_r], rfl⟩))
      · exact absurd (x_nge (x := t) (y := e.1.2) rfl rfl (by omega) (by omega) h) (by omega)
    | succ m ih =>
      intro t S z l4 l5 l6 l7 yes hm ht hv hz
      subst hv
      subst hz
      refine hK _ _ _ _ (hK _ _ _ _ (hK _ _ _ _ (hK _ _ _ _ (hK _ _ _ _ (⟨x_vp (a := 2) rfl (by decide) (by decide), ?_⟩)))))
      rw [x_cl (j := 2) (a := 2) rfl (by decide), hg.2.2]
      refine hK _ _ _ _ (⟨fun h => ?_, fun h => ?_⟩)
      · exact absurd (x_ge (x := t) (y := e.1.2) rfl rfl (by omega) (by omega) h) (by omega)
      · refine hK _ _ _ _ (hK _ _ _ _ (hK _ _ _ _ (hK _ _ _ _ (⟨x_vp (a := 2) rfl (by decide) (by decide), ?_⟩))))
        rw [x_cl (j := 2) (a := 2) rfl (by decide), hg.2.2]
        refine hK _ _ _ _ (hK _ _ _ _ (hK _ _ _ _ (hK _ _ _ _ (?_))))
        refine yl t _ (by omega) (fun v l6 l7 hv => ?_) _ 0 _ _ _ rfl (Nat.zero_le _) rfl rfl
        subst hv
        refine hK _ _ _ _ (hK _ _ _ _ (hK _ _ _ _ (hK _ _ _ _ (hK _ _ _ _ (hK _ _ _ _ (?_))))))
        exact ih (t + 1) _ _ _ _ _ _ yes (by omega) (by omega) rfl hI_s
  refine hK _ _ _ _ (hK _ _ _ _ (hK _ _ _ _ (hK _ _ _ _ (hK _ _ _ _ (⟨x_vp (a := 1) rfl (by decide) (by decide), ?_⟩)))))
  rw [x_cl (j := 1) (a := 1) rfl (by decide), hB.2.2.1.1]
  refine hK _ _ _ _ (hK _ _ _ _ (⟨fun q => ?_, fun q => ?_⟩))
  · exact t1 (fun z => q (by rw [z.1]; rfl))
  · have k1 : e.1.1 = 3 := x_eq (y := 3) rfl rfl (by omega) (by decide) q
    refine hK _ _ _ _ (hK _ _ _ _ (hK _ _ _ _ (hK _ _ _ _ (⟨x_vp (a := 5) rfl (by decide) (by decide), ?_⟩))))
    rw [x_cl (j := 5) (a := 5) rfl (by decide), hs0.2.2]
    refine hK _ _ _ _ (hK _ _ _ _ (⟨fun q => ?_, fun q => ?_⟩))
    · have k2 : e.2.1.2.2 = 2 := x_eq (y := 2) rfl rfl (by omega) (by decide) q
      refine hK _ _ _ _ (hK _ _ _ _ (hK _ _ _ _ (hK _ _ _ _ (hK _ _ _ _ (⟨fun h => ?_, fun h => ?_⟩)))))
      · refine hK _ _ _ _ (hK _ _ _ _ (hK _ _ _ _ (hK _ _ _ _ (?_))))
        exact lp _ 0 _ _ _ _ _ _ ⟨k1, k2⟩ rfl (Nat.zero_le _) rfl rfl
      · exact absurd (by first | (rw [x_pe]; decide) | rw [x_pe]) h
    · exact t1 (fun z => q (by rw [z.2]; rfl))
