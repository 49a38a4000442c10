theorem lR_f {q b : Nat} {M M' : aM} {w h s : Nat} {S : Nat → Int32} (hL : lR q b M w h s S) (hM : ∀ j, M'.1 q 0 j = M.1 q 0 j) : lR q b M' w h s S := fun l a c => (hM _).trans (hL l a c)
/-- cells that a change by hand writes -/
def PX : xF := fun k _ j => (Nat.beq k 36 && Nat.beq j 0) || (Nat.beq k 37 && ((Nat.ble 7 j && Nat.ble j 8) || Nat.ble 20 j))
def PL2 : xF := fun k _ j => Nat.beq k 37 && (Nat.ble 20 j && Nat.ble j 43)
theorem PL2_t {i j : Nat} (h1 : 20 ≤ j) (h2 : j ≤ 43) : PL2 37 i j = true := by
  show (Nat.beq 37 37 && (Nat.ble 20 j && Nat.ble j 43)) = true
  rw [Nat.ble_eq_true_of_le h1, Nat.ble_eq_true_of_le h2]
  rfl
theorem PL2_lo {k i j : Nat} (h : ¬ (20 ≤ j ∧ j ≤ 43)) : PL2 k i j = false := by
  show (Nat.beq k 37 && (Nat.ble 20 j && Nat.ble j 43)) = false
  by_cases h9 : 20 ≤ j
  · rw [x_nble (show ¬ j ≤ 43 by omega), Bool.and_false, Bool.and_false]
  · rw [x_nble h9, Bool.false_and, Bool.and_false]
theorem PX_f {k i j : Nat} (h : PX k i j = false) : ¬ (k = 36 ∧ j = 0) ∧ PU k i j = false ∧ PL2 k i j = false := by
  have h : ((Nat.beq k 36 && Nat.beq j 0) || (Nat.beq k 37 && ((Nat.ble 7 j && Nat.ble j 8) || Nat.ble 20 j))) = false := h
  rw [Bool.or_eq_false_iff] at h
  obtain ⟨ha, hb⟩ := h
  refine ⟨fun z => ?_, ?_, ?_⟩
  · rw [z.1, z.2] at ha
    cases ha
  · show (Nat.beq k 37 && ((Nat.ble 7 j && Nat.ble j 8) || Nat.ble 50 j)) = false
    cases hk : Nat.beq k 37 with
    | false => rfl
    | true =>
      rw [hk, Bool.true_and, Bool.or_eq_false_iff] at hb
      rw [hb.1, Bool.true_and, Bool.false_or]
      cases h50 : Nat.ble 50 j with
      | false => rfl
      | true =>
        have := Nat.le_of_ble_eq_true h50
        have e := hb.2
        rw [Nat.ble_eq_true_of_le (show 20 ≤ j by omega)] at e
        cases e
  · show (Nat.beq k 37 && (Nat.ble 20 j && Nat.ble j 43)) = false
    cases hk : Nat.beq k 37 with
    | false => rfl
    | true =>
      rw [hk, Bool.true_and, Bool.or_eq_false_iff] at hb
      rw [hb.2]
      rfl
def RU (M M' : aM) (n : Nat) : Prop := (M'.1 37 0 8 = Int32.ofNat (hN n) ∧ M'.1 37 0 7 = Int32.ofNat (hN n)) ∧ (∀ u, u < 48 * min n 19 → M'.1 37 0 (50 + u) = M.1 37 0 (50 + 48 * (n - 19) + u)) ∧ (∀ c, c < 24 → M'.1 37 0 (50 + 48 * min n 19 + c) = M.1 37 0 (20 + c)) ∧ ∀ c, c < 24 → M'.1 37 0 (74 + 48 * min n 19 + c) = M'.1 37 0 (20 + c)
theorem RU_mk {n : Nat} {M M1 M2 M' : aM} (f1 : fr PU (a_pI M 36 0 0 0) M1) (c1 : ∀ u, u < 48 * min n 19 → M1.1 37 0 (50 + u) = (a_pI M 36 0 0 0).1 37 0 (50 + 48 * (n - 19) + u)) (d1 : ∀ c, c < 24 → M1.1 37 0 (50 + 48 * min n 19 + c) = (a_pI M 36 0 0 0).1 37 0 (20 + c)) (f2 : fr PL2 M1 M2) (f3 : fr PU M2 M') (h8 : M'.1 37 0 8 = Int32.ofNat (min n 19 + 1)) (h7 : M'.1 37 0 7 = Int32.ofNat (min n 19 + 1)) (c3 : ∀ u, u < 48 * min n 19 + 24 → M'.1 37 0 (50 + u) = M2.1 37 0 (50 + u)) (d3 : ∀ c, c < 24 → M'.1 37 0 (74 + 48 * min n 19 + c) = M2.1 37 0 (20 + c)) : RU M M' n ∧ fr PX M M' ∧ M'.1 36 0 0 = 0 ∧ ∀ c, c < 24 → M'.1 37 0 (20 + c) = M2.1 37 0 (20 + c) := by
  have t : ∀ c, c < 24 → M'.1 37 0 (20 + c) = M2.1 37 0 (20 + c) := fun c hc => f3.1 37 0 (20 + c) (PU_no (by omega) (by omega) (by omega))
  refine ⟨⟨⟨h8, h7⟩, fun u hu => ?_, fun c hc => ?_, fun c hc => (d3 c hc).trans (t c hc).symm⟩, ⟨fun k i j hP => ?_, f3.2.trans (f2.2.trans f1.2)⟩, ?_, t⟩
  · rw [c3 u (by omega), f2.1 37 0 (50 + u) (PL2_lo (by omega)), c1 u hu]
    exact x_pn (fun z => absurd z.1 (by decide))
  · rw [show 50 + 48 * min n 19 + c = 50 + (48 * min n 19 + c) by omega, c3 _ (by omega), f2.1 37 0 _ (PL2_lo (by omega)), ← show 50 + 48 * min n 19 + c = 50 + (48 * min n 19 + c) by omega, d1 c hc]
    exact x_pn (fun z => absurd z.1 (by decide))
  · obtain ⟨p1, p2, p3⟩ := PX_f hP
    exact (f3.1 k i j p2).trans ((f2.1 k i j p3).trans ((f1.1 k i j p2).trans (x_pn (fun z => p1 ⟨z.1, z.2.2⟩))))
  · exact (f3.1 36 0 0 rfl).trans ((f2.1 36 0 0 rfl).trans ((f1.1 36 0 0 rfl).trans x_pe))
theorem r_lineX {nS m : Nat} {M : aM} {x y z : Int32} {e : xB} (hB : rB 37 M e) (hL : lR 37 20 M e.2.1.1 e.2.1.2.1 e.2.1.2.2 e.2.2.2.2) (hm : m ≤ 1) (hz : z = Int32.ofNat m) : aC nS 60 215 [vR 36 0, vI x, vI y, vI z] M (fun v M' => (¬ okL e.2.1.1 e.2.1.2.1 e.2.1.2.2 x y m ∧ v = some (vI 0) ∧ M' = a_pI M 36 0 0 1) ∨ (∃ a b, a ≤ e.2.1.1 ∧ b ≤ e.2.1.2.1 ∧ x = Int32.ofNat a ∧ y = Int32.ofNat b ∧ xlv e.2.1.1 e.2.1.2.1 e.2.1.2.2 a b m = true ∧ v = some (vI (e.2.2.2.2 (xln e.2.1.1 e.2.1.2.1 e.2.1.2.2 a b m))) ∧ M' = a_pI M 36 0 0 0)) (fun _ _ => False) := by
  obtain ⟨ho, o2, o8, hS, w1, w3, h1, h3, s2⟩ := rB_h hB
  obtain ⟨-, -, -, hS0, -⟩ := rB_h (rB_p (x := 0) hB)
  refine aC_mk rfl rfl ?_
  intro K hK _
  refine hK _ _ _ _ (hK _ _ _ _ (hK _ _ _ _ (hK _ _ _ _ (hK _ _ _ _ (hK _ _ _ _ (⟨_, r_lineOf (d := 56) hS w1 w3 h1 h3 s2 hm hz, rfl, fun v5 M5 g5 => ?_⟩))))))
  obtain ⟨g5, rfl⟩ := g5
  rcases okL_of w3 h3 g5 with ⟨a, b, ha, hb, hx, hy, hl9, rfl⟩ | ⟨hno, rfl⟩
  · have l24 := rln_lt (s := e.2.1.2.2) w1 w3 h1 h3 s2 hm ha hb hl9
    refine hK _ _ _ _ (hK _ _ _ _ (⟨fun q => ?_, fun q => ?_⟩))
    · refine hK _ _ _ _ (hK _ _ _ _ (hK _ _ _ _ (hK _ _ _ _ (hK _ _ _ _ (⟨fun h => ?_, fun h => ?_⟩)))))
      · refine hK _ _ _ _ (hK _ _ _ _ (hK _ _ _ _ (hK _ _ _ _ (hK _ _ _ _ (⟨_, r_heldN (d := 55) hS0 w1 w3 h1 h3 s2 ha hb hm hx hy hz hl9, rfl, fun v33 M33 g33 => ?_⟩)))))
        obtain ⟨rfl, rfl⟩ := g33
        rw [lR_n (lR_f hL (fun j => x_pn (fun z => absurd z.1 (by decide)))) w1 w3 h1 h3 s2 ha hb hm hl9]
        exact hK _ _ _ _ (Or.inr ⟨a, b, ha, hb, hx, hy, hl9, rfl, rfl⟩)
      · exact absurd (by first | (rw [x_pe]; decide) | rw [x_pe]) h
    · exact absurd q (x_m1 (by omega))
  · refine hK _ _ _ _ (hK _ _ _ _ (⟨fun q => ?_, fun q => ?_⟩))
    · exact absurd rfl q
    · refine hK _ _ _ _ (hK _ _ _ _ (hK _ _ _ _ (hK _ _ _ _ (hK _ _ _ _ (hK _ _ _ _ (⟨fun h => ?_, fun h => ?_⟩))))))
      · exact absurd h (by first | (rw [x_pe]; decide) | rw [x_pe])
      · exact hK _ _ _ _ (hK _ _ _ _ (Or.inl ⟨hno, rfl, rfl⟩))
theorem r_roundX {nS : Nat} {M : aM} {x y : Int32} {e : xB} (hB : rB 37 M e) (hO : lO e.2.1.1 e.2.1.2.1 e.2.1.2.2 e.1.2 e.2.2.2.2) (hL : lR 37 20 M e.2.1.1 e.2.1.2.1 e.2.1.2.2 e.2.2.2.2) : aC nS 60 219 [vR 36 0, vI x, vI y] M (fun v M' => ((¬ ∃ a b : Nat, a < e.2.1.1 ∧ b < e.2.1.2.1 ∧ x = Int32.ofNat a ∧ y = Int32.ofNat b) ∧ v = some (vI 0) ∧ M' = a_pI M 36 0 0 1) ∨ (∃ a b, a < e.2.1.1 ∧ b < e.2.1.2.1 ∧ x = Int32.ofNat a ∧ y = Int32.ofNat b ∧ v = some (vI (Int32.ofNat (rdv e.1.1 e.1.2 (fun l => xn (e.2.2.2.2 l)) e.2.1.1 e.2.1.2.1 e.2.1.2.2 a b))) ∧ M' = a_pI M 36 0 0 0)) (fun _ _ => False) := by
  obtain ⟨ho, o2, o8, hS, w1, w3, h1, h3, s2⟩ := rB_h hB
  obtain ⟨-, -, -, hS0, -⟩ := rB_h (rB_p (x := 0) hB)
  have hg := gM_p (x := 0) (rB_g hB)
  refine aC_mk rfl rfl ?_
  intro K hK _
  refine hK _ _ _ _ (hK _ _ _ _ (hK _ _ _ _ (hK _ _ _ _ (hK _ _ _ _ (⟨_, r_isSquare (d := 57) hS w1 w3 h1 h3, rfl, fun v4 M4 g4 => ?_⟩)))))
  obtain ⟨g4, rfl⟩ := g4
  rcases g4 with ⟨⟨a, b, ha, hb, hx, hy⟩, rfl⟩ | ⟨hno, rfl⟩
  · refine hK _ _ _ _ (⟨fun q => ?_, fun q => ?_⟩)
    · refine hK _ _ _ _ (hK _ _ _ _ (hK _ _ _ _ (hK _ _ _ _ (hK _ _ _ _ (⟨fun h => ?_, fun h => ?_⟩)))))
      · refine hK _ _ _ _ (hK _ _ _ _ (hK _ _ _ _ (hK _ _ _ _ (⟨_, r_roundOf (d := 54) hS0 w1 w3 h1 h3 s2 hg hO (lR_f hL (fun j => x_pn (fun z => absurd z.1 (by decide)))) ha hb hx hy, rfl, fun v30 M30 g30 => ?_⟩))))
        obtain ⟨rfl, rfl⟩ := g30
        exact hK _ _ _ _ (Or.inr ⟨a, b, ha, hb, hx, hy, rfl, rfl⟩)
      · exact absurd (by first | (rw [x_pe]; decide) | rw [x_pe]) h
    · exact absurd q (by decide)
  · refine hK _ _ _ _ (⟨fun q => ?_, fun q => ?_⟩)
    · exact absurd rfl q
    · refine hK _ _ _ _ (hK _ _ _ _ (hK _ _ _ _ (hK _ _ _ _ (hK _ _ _ _ (hK _ _ _ _ (⟨fun h => ?_, fun h => ?_⟩))))))
      · exact absurd h (by first | (rw [x_pe]; decide) | rw [x_pe])
      · exact hK _ _ _ _ (hK _ _ _ _ (Or.inl ⟨hno, rfl, rfl⟩))
theorem r_setL {nS n m : Nat} {M : aM} {x y z t : Int32} {e : xB} (hB : rB 37 M e) (hL : lR 37 20 M e.2.1.1 e.2.1.2.1 e.2.1.2.2 e.2.2.2.2) (hm : m ≤ 1) (hz : z = Int32.ofNat m) (hn : n ≤ 20) (hd : M.1 37 0 8 = Int32.ofNat n) : aC nS 60 218 [vR 36 0, vI x, vI y, vI z, vI t] M (fun v M' => (¬ (okL e.2.1.1 e.2.1.2.1 e.2.1.2.2 x y m ∧ okT e.1.2 t) ∧ v = some (vI 0) ∧ M' = a_pI M 36 0 0 1) ∨ (∃ a b u, a ≤ e.2.1.1 ∧ b ≤ e.2.1.2.1 ∧ u < e.1.2 ∧ x = Int32.ofNat a ∧ y = Int32.ofNat b ∧ t = Int32.ofNat u ∧ xlv e.2.1.1 e.2.1.2.1 e.2.1.2.2 a b m = true ∧ v = some (vI (e.2.2.2.2 (xln e.2.1.1 e.2.1.2.1 e.2.1.2.2 a b m))) ∧ RU M M' n ∧ fr PX M M' ∧ M'.1 36 0 0 = 0 ∧ ∀ c, c < 24 → M'.1 37 0 (20 + c) = if c = rln e.2.1.1 e.2.1.2.1 e.2.1.2.2 a b m then t else M.1 37 0 (20 + c))) (fun _ _ => False) := by
  obtain ⟨ho, o2, o8, hS, w1, w3, h1, h3, s2⟩ := rB_h hB
  obtain ⟨-, -, -, hS0, -⟩ := rB_h (rB_p (x := 0) hB)
  refine aC_mk rfl rfl ?_
  intro K hK _
  have bad : ¬ (okL e.2.1.1 e.2.1.2.1 e.2.1.2.2 x y m ∧ okT e.1.2 t) → K 21 [some (vR 36 0), some (vI x), some (vI y), some (vI z), some (vI t), none] [vR 36 0] M := by
    intro hno
    refine hK _ _ _ _ (hK _ _ _ _ (hK _ _ _ _ (hK _ _ _ _ (hK _ _ _ _ (hK _ _ _ _ (⟨fun h => ?_, fun h => ?_⟩))))))
    · exact absurd h (by first | (rw [x_pe]; decide) | rw [x_pe])
    · exact hK _ _ _ _ (hK _ _ _ _ (Or.inl ⟨hno, rfl, rfl⟩))
  refine hK _ _ _ _ (hK _ _ _ _ (hK _ _ _ _ (hK _ _ _ _ (hK _ _ _ _ (hK _ _ _ _ (⟨_, r_lineOf (d := 56) hS w1 w3 h1 h3 s2 hm hz, rfl, fun v5 M5 g5 => ?_⟩))))))
  obtain ⟨g5, rfl⟩ := g5
  rcases okL_of w3 h3 g5 with ⟨a, b, ha, hb, hx, hy, hl9, rfl⟩ | ⟨hno, rfl⟩
  · have l24 := rln_lt (s := e.2.1.2.2) w1 w3 h1 h3 s2 hm ha hb hl9
    refine hK _ _ _ _ (hK _ _ _ _ (⟨fun q => ?_, fun q => ?_⟩))
    · exact absurd q (x_m1 (by omega))
    · refine hK _ _ _ _ (hK _ _ _ _ (hK _ _ _ _ (⟨_, r_isTurn (d := 57) ho o2 o8, rfl, fun v15 M15 g15 => ?_⟩)))
      obtain ⟨g15, rfl⟩ := g15
      rcases g15 with ⟨⟨u, hu, ht⟩, rfl⟩ | ⟨nokt, rfl⟩
      · refine hK _ _ _ _ (⟨fun q => ?_, fun q => ?_⟩)
        · refine hK _ _ _ _ (hK _ _ _ _ (hK _ _ _ _ (hK _ _ _ _ (hK _ _ _ _ (⟨fun h => ?_, fun h => ?_⟩)))))
          · refine hK _ _ _ _ (hK _ _ _ _ (hK _ _ _ _ (hK _ _ _ _ (hK _ _ _ _ (⟨_, r_heldN (d := 55) hS0 w1 w3 h1 h3 s2 ha hb hm hx hy hz hl9, rfl, fun v42 M42 g42 => ?_⟩)))))
            obtain ⟨rfl, rfl⟩ := g42
            rw [lR_n (lR_f hL (fun j => x_pn (fun z => absurd z.1 (by decide)))) w1 w3 h1 h3 s2 ha hb hm hl9]
            refine hK _ _ _ _ (hK _ _ _ _ (hK _ _ _ _ (⟨_, r_rem (d := 58) hn ((x_pn (fun z => absurd z.1 (by decide))).trans hd), rfl, fun v48 M48 g48 => ?_⟩)))
            obtain ⟨rfl, f1, e8, c1, d1⟩ := g48
            have hS1 : rS M48 e.2.1.1 e.2.1.2.1 e.2.1.2.2 := ⟨(f1.1 37 0 3 rfl).trans hS0.1, (f1.1 37 0 4 rfl).trans hS0.2.1, (f1.1 37 0 5 rfl).trans hS0.2.2⟩
            refine hK _ _ _ _ (hK _ _ _ _ (hK _ _ _ _ (hK _ _ _ _ (hK _ _ _ _ (hK _ _ _ _ (hK _ _ _ _ (hK _ _ _ _ (⟨_, r_lineOf (d := 56) hS1 w1 w3 h1 h3 s2 hm hz, rfl, fun v61 M61 g61 => ?_⟩))))))))
            obtain ⟨g61, rfl⟩ := g61
            rcases okL_of w3 h3 g61 with ⟨a2, b2, ha2, hb2, hx2, hy2, -, rfl⟩ | ⟨hno, rfl⟩
            case inr => exact absurd (okL_y ha hb hx hy hl9) hno
            rw [← x_inj (x := a) (y := a2) (by omega) (by omega) (hx.symm.trans hx2), ← x_inj (x := b) (y := b2) (by omega) (by omega) (hy.symm.trans hy2)]
            have e20 : (20 : Int32) + Int32.ofNat (rln e.2.1.1 e.2.1.2.1 e.2.1.2.2 a b m) = Int32.ofNat (20 + rln e.2.1.1 e.2.1.2.1 e.2.1.2.2 a b m) := hI_ad (a := 20)
            refine hK _ _ _ _ (hK _ _ _ _ (hK _ _ _ _ (⟨x_vp (a := 20 + rln e.2.1.1 e.2.1.2.1 e.2.1.2.2 a b m) e20 (by omega) (by decide), ?_⟩)))
            rw [x_cl e20 (by omega)]
            refine hK _ _ _ _ (hK _ _ _ _ (⟨_, r_done (d := 58) (n := min n 19) (by omega) ((x_pn (fun z => by have := z.2.2; omega)).trans e8), rfl, fun v69 M69 g69 => ?_⟩))
            obtain ⟨rfl, f3, q8, q7, c3, d3⟩ := g69
            obtain ⟨r1, r2, r3, r4⟩ := RU_mk f1 c1 d1 (fr_p fr_r (PL2_t (by omega) (by omega))) f3 q8 q7 c3 d3
            refine hK _ _ _ _ (hK _ _ _ _ (Or.inr ⟨a, b, u, ha, hb, hu, hx, hy, ht, hl9, rfl, r1, r2, r3, fun c hc => ?_⟩))
            rw [r4 c hc]
            by_cases he : c = rln e.2.1.1 e.2.1.2.1 e.2.1.2.2 a b m
            · rw [if_pos he, he]
              exact x_pe
            · rw [if_neg he, x_pn (fun z => he (by have := z.2.2; omega)), f1.1 37 0 (20 + c) (PU_no (by omega) (by omega) (by omega))]
              exact x_pn (fun z => absurd z.1 (by decide))
          · exact absurd (by first | (rw [x_pe]; decide) | rw [x_pe]) h
        · exact absurd q (by decide)
      · refine hK _ _ _ _ (⟨fun q => ?_, fun q => ?_⟩)
        · exact absurd rfl q
        · exact bad (fun z => nokt z.2)
  · refine hK _ _ _ _ (hK _ _ _ _ (⟨fun q => ?_, fun q => ?_⟩))
    · exact bad (fun z => hno z.1)
    · exact absurd rfl q
/-- the same of the reference's numbers -/
def rfw (k o w h s rc u c : Nat) (v : Int32) : Nat := rf k o (Nat.beq (ren w h s c 0) rc) (Nat.beq (ren w h s c 1) rc) u (xn v)
def rfe (k o w h s rc u : Nat) (W : Nat → Int32) (c : Nat) : Bool := !(Nat.beq (rfw k o w h s rc u c (W c)) (xn (W c)))
theorem ren_lt {w h s l t : Nat} (w1 : 1 ≤ w) (w3 : w ≤ 3) (h1 : 1 ≤ h) (h3 : h ≤ 3) : ren w h s l t ≤ 15 := by
  unfold ren
  by_cases hq : l < w * xrows h s
  · rw [if_pos hq]
    exact rco_lt w1 w3 h1 h3
  · rw [if_neg hq]
    exact rco_lt w1 w3 h1 h3
theorem rfe_n {k o w h s a b u : Nat} {W S : Nat → Int32} (w1 : 1 ≤ w) (w3 : w ≤ 3) (h1 : 1 ≤ h) (h3 : h ≤ 3) (s2 : s ≤ 2) (ha : a ≤ w) (hb : b ≤ h) (hW : ∀ l, l < 32 → hl w h s l = true → W (lm w h s l) = S l) : cnt (rfe k o w h s (rco w h s a b) u W) (lmy w h s) = cnt (rfd k o w h s (xco w h s a b) u S) 32 := by
  rw [← cnt_pe w1 w3 h1 h3 s2]
  refine cnt_e 32 (fun l hl9 => ?_)
  unfold rfd rfe rfw
  cases hv : hl w h s l with
  | false => rw [Bool.and_false, Bool.false_and]
  | true =>
    obtain ⟨e1, e2⟩ := l_ends w1 w3 h1 h3 s2 hl9 hv ha hb
    rw [Bool.and_true, Bool.true_and, hW l hl9 hv, e1, e2]
theorem r_frameL {nS n : Nat} {M : aM} {x y t : Int32} {e : xB} (hB : rB 37 M e) (hO : lO e.2.1.1 e.2.1.2.1 e.2.1.2.2 e.1.2 e.2.2.2.2) (hL : lR 37 20 M e.2.1.1 e.2.1.2.1 e.2.1.2.2 e.2.2.2.2) (hn : n ≤ 20) (hd : M.1 37 0 8 = Int32.ofNat n) : aC nS 60 220 [vR 36 0, vI x, vI y, vI t] M (fun v M' => (¬ (xP x y e.2.1.1 e.2.1.2.1 ∧ okT e.1.2 t) ∧ v = some (vI 0) ∧ M' = a_pI M 36 0 0 1) ∨ (∃ a b u, a ≤ e.2.1.1 ∧ b ≤ e.2.1.2.1 ∧ u < e.1.2 ∧ x = Int32.ofNat a ∧ y = Int32.ofNat b ∧ t = Int32.ofNat u ∧ v = some (vI (Int32.ofNat (cnt (rfd e.1.1 e.1.2 e.2.1.1 e.2.1.2.1 e.2.1.2.2 (xco e.2.1.1 e.2.1.2.1 e.2.1.2.2 a b) u e.2.2.2.2) 32))) ∧ RU M M' n ∧ fr PX M M' ∧ M'.1 36 0 0 = 0 ∧ ∀ l, l < 32 → hl e.2.1.1 e.2.1.2.1 e.2.1.2.2 l = true → M'.1 37 0 (20 + lm e.2.1.1 e.2.1.2.1 e.2.1.2.2 l) = rfv e.1.1 e.1.2 e.2.1.1 e.2.1.2.1 e.2.1.2.2 (xco e.2.1.1 e.2.1.2.1 e.2.1.2.2 a b) u l (e.2.2.2.2 l))) (fun _ _ => False) := by
  obtain ⟨ho, o2, o8, hS, w1, w3, h1, h3, s2⟩ := rB_h hB
  have my := lmy_le (s := e.2.1.2.2) w1 w3 h1 h3 s2
  refine aC_mk rfl rfl ?_
  intro K hK _
  have bad : ¬ (xP x y e.2.1.1 e.2.1.2.1 ∧ okT e.1.2 t) → K 18 [some (vR 36 0), some (vI x), some (vI y), some (vI t), none, none, none, none] [vR 36 0] M := by
    intro hno
    refine hK _ _ _ _ (hK _ _ _ _ (hK _ _ _ _ (hK _ _ _ _ (hK _ _ _ _ (hK _ _ _ _ (⟨fun h => ?_, fun h => ?_⟩))))))
    · exact absurd h (by first | (rw [x_pe]; decide) | rw [x_pe])
    · exact hK _ _ _ _ (hK _ _ _ _ (Or.inl ⟨hno, rfl, rfl⟩))
  refine hK _ _ _ _ (hK _ _ _ _ (hK _ _ _ _ (hK _ _ _ _ (hK _ _ _ _ (⟨_, r_isCorner (d := 57) hS, rfl, fun v4 M4 g4 => ?_⟩)))))
  obtain ⟨g4, rfl⟩ := g4
  rcases g4 with ⟨okx, rfl⟩ | ⟨hno, rfl⟩
  case inr =>
    refine hK _ _ _ _ (⟨fun q => ?_, fun q => ?_⟩)
    · exact bad (fun z => hno z.1)
    · exact absurd rfl q
  refine hK _ _ _ _ (⟨fun q => absurd q (by decide), fun _ => ?_⟩)
  refine hK _ _ _ _ (hK _ _ _ _ (hK _ _ _ _ (⟨_, r_isTurn (d := 57) ho o2 o8, rfl, fun v12 M12 g12 => ?_⟩)))
  obtain ⟨g12, rfl⟩ := g12
  rcases g12 with ⟨okt, rfl⟩ | ⟨nokt, rfl⟩
  case inr =>
    refine hK _ _ _ _ (⟨fun q => ?_, fun q => ?_⟩)
    · exact absurd rfl q
    · exact bad (fun z => nokt z.2)
  refine hK _ _ _ _ (⟨fun _ => ?_, fun q => absurd q (by decide)⟩)
  refine hK _ _ _ _ (hK _ _ _ _ (hK _ _ _ _ (hK _ _ _ _ (hK _ _ _ _ (⟨fun _ => ?_, fun h => absurd (by first | (rw [x_pe]; decide) | rw [x_pe]) h⟩)))))
  obtain ⟨a, b, ha, hb, hx, hy⟩ := xP_n (by omega) (by omega) okx
  obtain ⟨u, hu, ht⟩ := okt
  subst ht
  refine hK _ _ _ _ (hK _ _ _ _ (⟨_, r_rem (d := 58) hn ((x_pn (fun z => absurd z.1 (by decide))).trans hd), rfl, fun v36 M36 g36 => ?_⟩))
  obtain ⟨rfl, f1, e8, c1, d1⟩ := g36
  have f0 : ∀ j, j < 50 → j ≠ 7 → j ≠ 8 → M36.1 37 0 j = M.1 37 0 j := fun j p7 p8 p9 => (f1.1 37 0 j (PU_no p7 p8 p9)).trans (x_pn (fun z => absurd z.1 (by decide)))
  have hS1 : rS M36 e.2.1.1 e.2.1.2.1 e.2.1.2.2 := ⟨(f0 3 (by decide) (by decide) (by decide)).trans hS.1, (f0 4 (by decide) (by decide) (by decide)).trans hS.2.1, (f0 5 (by decide) (by decide) (by decide)).trans hS.2.2⟩
  have hg1 : gM M36 e.1.1 e.1.2 := ⟨(rB_g hB).1, (f0 1 (by decide) (by decide) (by decide)).trans (rB_g hB).2.1, (f0 2 (by decide) (by decide) (by decide)).trans (rB_g hB).2.2⟩
  have hL1 : ∀ l, l < 32 → hl e.2.1.1 e.2.1.2.1 e.2.1.2.2 l = true → M36.1 37 0 (20 + lm e.2.1.1 e.2.1.2.1 e.2.1.2.2 l) = e.2.2.2.2 l := fun l p q => (f0 _ (by have := lm_lt w1 w3 h1 h3 s2 p q; omega) (by omega) (by omega)).trans (hL l p q)
  have hW : ∀ c, c < lmy e.2.1.1 e.2.1.2.1 e.2.1.2.2 → okT e.1.2 (M36.1 37 0 (20 + c)) := fun c hc => by
    obtain ⟨l, p, q, r⟩ := lm_sur w1 w3 h1 h3 s2 hc
    rw [← r, hL1 l p q]
    exact hO l p q
  refine hK _ _ _ _ (hK _ _ _ _ (hK _ _ _ _ (hK _ _ _ _ (⟨_, r_cornerOf (d := 57) hS1 w1 w3 h1 h3 s2 hx hy (by omega) (by omega), rfl, fun v42 M42 g42 => ?_⟩))))
  obtain ⟨rfl, rfl⟩ := g42
  have hrc := rco_lt (s := e.2.1.2.2) (x := a) (y := b) w1 w3 h1 h3
  have rce := rfe_n (k := e.1.1) (o := e.1.2) (u := u) (W := fun c => M36.1 37 0 (20 + c)) (S := e.2.2.2.2) w1 w3 h1 h3 s2 ha hb hL1
  have rvl : ∀ l, l < 32 → hl e.2.1.1 e.2.1.2.1 e.2.1.2.2 l = true → Int32.ofNat (rfw e.1.1 e.1.2 e.2.1.1 e.2.1.2.1 e.2.1.2.2 (rco e.2.1.1 e.2.1.2.1 e.2.1.2.2 a b) u (lm e.2.1.1 e.2.1.2.1 e.2.1.2.2 l) (M36.1 37 0 (20 + lm e.2.1.1 e.2.1.2.1 e.2.1.2.2 l))) = rfv e.1.1 e.1.2 e.2.1.1 e.2.1.2.1 e.2.1.2.2 (xco e.2.1.1 e.2.1.2.1 e.2.1.2.2 a b) u l (e.2.2.2.2 l) := fun l p q => by
    obtain ⟨e1, e2⟩ := l_ends w1 w3 h1 h3 s2 p q ha hb
    rw [hL1 l p q]
    unfold rfw rfv
    rw [e1, e2]
  generalize rco e.2.1.1 e.2.1.2.1 e.2.1.2.2 a b = rc at hrc rce rvl ⊢
  have lp : ∀ (m j : Nat) (y9 ch : Int32) (l7 : Option aV) (M1 : aM), lmy e.2.1.1 e.2.1.2.1 e.2.1.2.2 - j = m → j ≤ lmy e.2.1.1 e.2.1.2.1 e.2.1.2.2 → y9 = Int32.ofNat j → ch = Int32.ofNat (cnt (rfe e.1.1 e.1.2 e.2.1.1 e.2.1.2.1 e.2.1.2.2 rc u (fun c => M36.1 37 0 (20 + c))) j) → fr PL2 M36 M1 → (∀ c, c < 24 → M1.1 37 0 (20 + c) = if c < j then Int32.ofNat (rfw e.1.1 e.1.2 e.2.1.1 e.2.1.2.1 e.2.1.2.2 rc u c (M36.1 37 0 (20 + c))) else M36.1 37 0 (20 + c)) → K 53 [some (vR 36 0), some (vI x), some (vI y), some (vI (Int32.ofNat u)), some (vI (Int32.ofNat rc)), some (vI ch), some (vI y9), l7] [] M1 := by
    intro m
    induction m with
    | zero =>
      intro j y9 ch l7 M1 hm hj hy9 hch hf hC
      subst hy9
      subst hch
      have hS2 : rS M1 e.2.1.1 e.2.1.2.1 e.2.1.2.2 := ⟨(hf.1 37 0 3 rfl).trans hS1.1, (hf.1 37 0 4 rfl).trans hS1.2.1, (hf.1 37 0 5 rfl).trans hS1.2.2⟩
      refine hK _ _ _ _ (hK _ _ _ _ (hK _ _ _ _ (⟨_, r_lineMy (d := 57) hS2 w1 w3 h1 h3 s2, rfl, fun v56 M56 g56 => ?_⟩)))
      obtain ⟨rfl, rfl⟩ := g56
      refine hK _ _ _ _ (⟨fun h => ?_, fun h => ?_⟩)
      · refine hK _ _ _ _ (hK _ _ _ _ (⟨_, r_done (d := 58) (n := min n 19) (by omega) ((hf.1 37 0 8 rfl).trans e8), rfl, fun v164 M164 g164 => ?_⟩))
        obtain ⟨rfl, f3, q8, q7, c3, d3⟩ := g164
        obtain ⟨r1, r2, r3, r4⟩ := RU_mk f1 c1 d1 hf f3 q8 q7 c3 d3
        rw [show j = lmy e.2.1.1 e.2.1.2.1 e.2.1.2.2 by omega, rce]
        refine hK _ _ _ _ (hK _ _ _ _ (Or.inr ⟨a, b, u, ha, hb, hu, hx, hy, rfl, rfl, r1, r2, r3, fun l p q => ?_⟩))
        have p9 := lm_lt w1 w3 h1 h3 s2 p q
        rw [r4 _ (by omega), hC _ (by omega), if_pos (by omega)]
        exact rvl l p q
      · exact absurd (x_nge (x := j) (y := lmy e.2.1.1 e.2.1.2.1 e.2.1.2.2) rfl rfl (by omega) (by omega) h) (by omega)
    | succ m ih =>
      intro j y9 ch l7 M1 hm hj hy9 hch hf hC
      subst hy9
      subst hch
      have hS2 : rS M1 e.2.1.1 e.2.1.2.1 e.2.1.2.2 := ⟨(hf.1 37 0 3 rfl).trans hS1.1, (hf.1 37 0 4 rfl).trans hS1.2.1, (hf.1 37 0 5 rfl).trans hS1.2.2⟩
      have hg2 : gM M1 e.1.1 e.1.2 := ⟨hg1.1, (hf.1 37 0 1 rfl).trans hg1.2.1, (hf.1 37 0 2 rfl).trans hg1.2.2⟩
      have cn : ∀ {q : Bool}, rfe e.1.1 e.1.2 e.2.1.1 e.2.1.2.1 e.2.1.2.2 rc u (fun c => M36.1 37 0 (20 + c)) j = q → cnt (rfe e.1.1 e.1.2 e.2.1.1 e.2.1.2.1 e.2.1.2.2 rc u (fun c => M36.1 37 0 (20 + c))) (j + 1) = cnt (rfe e.1.1 e.1.2 e.2.1.1 e.2.1.2.1 e.2.1.2.2 rc u (fun c => M36.1 37 0 (20 + c))) j + (bif q then 1 else 0) := fun e9 => by rw [← e9]; rfl
      refine hK _ _ _ _ (hK _ _ _ _ (hK _ _ _ _ (⟨_, r_lineMy (d := 57) hS2 w1 w3 h1 h3 s2, rfl, fun v56 M56 g56 => ?_⟩)))
      obtain ⟨rfl, rfl⟩ := g56
      refine hK _ _ _ _ (⟨fun h => ?_, fun h => ?_⟩)
      · exact absurd (x_ge (x := j) (y := lmy e.2.1.1 e.2.1.2.1 e.2.1.2.2) rfl rfl (by omega) (by omega) h) (by omega)
      · have hjl : j < lmy e.2.1.1 e.2.1.2.1 e.2.1.2.2 := by omega
        obtain ⟨ea, hv⟩ := okT_n o8 (hW j hjl)
        have hM1 : M1.1 37 0 (20 + j) = Int32.ofNat (xn (M36.1 37 0 (20 + j))) := by rw [hC j (by omega), if_neg (Nat.lt_irrefl j)]; exact ea
        have e20 : (20 : Int32) + Int32.ofNat j = Int32.ofNat (20 + j) := hI_ad (a := 20)
        have el0 := ren_lt (s := e.2.1.2.2) (l := j) (t := 0) w1 w3 h1 h3
        have el1 := ren_lt (s := e.2.1.2.2) (l := j) (t := 1) w1 w3 h1 h3
        refine hK _ _ _ _ (hK _ _ _ _ (hK _ _ _ _ (hK _ _ _ _ (hK _ _ _ _ (hK _ _ _ _ (⟨x_vp (a := 20 + j) e20 (by omega) (by decide), ?_⟩))))))
        rw [x_cl e20 (by omega), hM1]
        have rd0 : rfe e.1.1 e.1.2 e.2.1.1 e.2.1.2.1 e.2.1.2.2 rc u (fun c => M36.1 37 0 (20 + c)) j = !(Nat.beq (rfw e.1.1 e.1.2 e.2.1.1 e.2.1.2.1 e.2.1.2.2 rc u j (M36.1 37 0 (20 + j))) (xn (M36.1 37 0 (20 + j)))) := rfl
        have rw0 : rfw e.1.1 e.1.2 e.2.1.1 e.2.1.2.1 e.2.1.2.2 rc u j (M36.1 37 0 (20 + j)) = rf e.1.1 e.1.2 (Nat.beq (ren e.2.1.1 e.2.1.2.1 e.2.1.2.2 j 0) rc) (Nat.beq (ren e.2.1.1 e.2.1.2.1 e.2.1.2.2 j 1) rc) u (xn (M36.1 37 0 (20 + j))) := rfl
        generalize he : xn (M36.1 37 0 (20 + j)) = v at hv rd0 rw0 hM1
        have fin : ∀ v2, v2 = rf e.1.1 e.1.2 (Nat.beq (ren e.2.1.1 e.2.1.2.1 e.2.1.2.2 j 0) rc) (Nat.beq (ren e.2.1.1 e.2.1.2.1 e.2.1.2.2 j 1) rc) u v → K 120 [some (vR 36 0), some (vI x), some (vI y), some (vI (Int32.ofNat u)), some (vI (Int32.ofNat rc)), some (vI (Int32.ofNat (cnt (rfe e.1.1 e.1.2 e.2.1.1 e.2.1.2.1 e.2.1.2.2 rc u (fun c => M36.1 37 0 (20 + c))) j))), some (vI (Int32.ofNat j)), some (vI (Int32.ofNat v2))] [] M1 := by
          intro v2 e2
          have v2o : v2 < e.1.2 := by rw [e2]; exact rf_lt hg1.1 hu hv
          have fr2 : fr PL2 M36 (a_pI M1 37 0 (20 + j) (Int32.ofNat v2)) := fr_p hf (PL2_t (by omega) (by omega))
          have C2 : ∀ c, c < 24 → (a_pI M1 37 0 (20 + j) (Int32.ofNat v2)).1 37 0 (20 + c) = if c < j + 1 then Int32.ofNat (rfw e.1.1 e.1.2 e.2.1.1 e.2.1.2.1 e.2.1.2.2 rc u c (M36.1 37 0 (20 + c))) else M36.1 37 0 (20 + c) := fun c hc => by
            by_cases h7 : c = j
            · rw [h7, x_pe, if_pos (Nat.lt_succ_self j), rw0, e2]
            · rw [x_pn (fun z => h7 (by have := z.2.2; omega)), hC c hc]
              by_cases h8 : c < j
              · rw [if_pos h8, if_pos (show c < j + 1 by omega)]
              · rw [if_neg h8, if_neg (show ¬ c < j + 1 by omega)]
          rw [rw0, ← e2] at rd0
          refine hK _ _ _ _ (hK _ _ _ _ (hK _ _ _ _ (hK _ _ _ _ (hK _ _ _ _ (hK _ _ _ _ (hK _ _ _ _ (hK _ _ _ _ (⟨x_vp (a := 20 + j) e20 (by omega) (by decide), ?_⟩))))))))
          rw [x_cl e20 (by omega), hM1]
          refine hK _ _ _ _ (⟨fun q => ?_, fun q => ?_⟩)
          · refine hK _ _ _ _ (hK _ _ _ _ (hK _ _ _ _ (hK _ _ _ _ (hK _ _ _ _ (hK _ _ _ _ (hK _ _ _ _ (hK _ _ _ _ (hK _ _ _ _ (hK _ _ _ _ (⟨x_vp (a := 20 + j) e20 (by omega) (by decide), ?_⟩))))))))))
            rw [x_cl e20 (by omega)]
            refine hK _ _ _ _ (hK _ _ _ _ (?_))
            refine ih (j + 1) _ _ _ _ (by omega) (by omega) hI_s ?_ fr2 C2
            rw [cn (q := true) (by rw [rd0, x_nbeq (fun z => q (by rw [z]))]; rfl)]
            exact hI_s
          · refine hK _ _ _ _ (hK _ _ _ _ (hK _ _ _ _ (hK _ _ _ _ (hK _ _ _ _ (hK _ _ _ _ (hK _ _ _ _ (hK _ _ _ _ (hK _ _ _ _ (hK _ _ _ _ (hK _ _ _ _ (⟨x_vp (a := 20 + j) e20 (by omega) (by decide), ?_⟩)))))))))))
            rw [x_cl e20 (by omega)]
            refine hK _ _ _ _ (hK _ _ _ _ (?_))
            refine ih (j + 1) _ _ _ _ (by omega) (by omega) hI_s ?_ fr2 C2
            rw [cn (q := false) (by rw [rd0, x_beq (x_inj (by omega) (by omega) q)]; rfl)]
            exact Int32.add_zero _
        have two : ∀ v1, v1 = (bif Nat.beq (ren e.2.1.1 e.2.1.2.1 e.2.1.2.2 j 0) rc then rt e.1.1 e.1.2 u v else v) → K 95 [some (vR 36 0), some (vI x), some (vI y), some (vI (Int32.ofNat u)), some (vI (Int32.ofNat rc)), some (vI (Int32.ofNat (cnt (rfe e.1.1 e.1.2 e.2.1.1 e.2.1.2.1 e.2.1.2.2 rc u (fun c => M36.1 37 0 (20 + c))) j))), some (vI (Int32.ofNat j)), some (vI (Int32.ofNat v1))] [] M1 := by
          intro v1 e1
          have v1o : v1 < e.1.2 := by
            rw [e1]
            cases Nat.beq (ren e.2.1.1 e.2.1.2.1 e.2.1.2.2 j 0) rc with
            | true => exact rt_lt hg1.1 hu hv
            | false => exact hv
          refine hK _ _ _ _ (hK _ _ _ _ (hK _ _ _ _ (hK _ _ _ _ (⟨_, r_endOf (d := 56) hS2 w1 w3 h1 h3 s2 rfl (by omega) (t := 1) rfl (by decide), rfl, fun v99 M99 g99 => ?_⟩))))
          obtain ⟨rfl, rfl⟩ := g99
          refine hK _ _ _ _ (hK _ _ _ _ (⟨fun q => ?_, fun q => ?_⟩))
          · refine fin v1 ?_
            unfold rf
            rw [x_nbeq (fun z => q (by rw [z])), e1]
            rfl
          · refine hK _ _ _ _ (hK _ _ _ _ (hK _ _ _ _ (hK _ _ _ _ (hK _ _ _ _ (⟨_, g_against (d := 57) hg2 hu, rfl, fun v112 M112 g112 => ?_⟩)))))
            obtain ⟨rfl, rfl⟩ := g112
            refine hK _ _ _ _ (⟨_, g_times (d := 58) hg2 v1o (ag_lt hg1.1 hu), rfl, fun v115 M115 g115 => ?_⟩)
            obtain ⟨rfl, rfl⟩ := g115
            refine hK _ _ _ _ (?_)
            refine fin _ ?_
            unfold rf
            rw [x_beq (x_inj (x := ren e.2.1.1 e.2.1.2.1 e.2.1.2.2 j 1) (y := rc) (by omega) (by omega) q), ← e1]
            rfl
        refine hK _ _ _ _ (hK _ _ _ _ (hK _ _ _ _ (hK _ _ _ _ (hK _ _ _ _ (⟨_, r_endOf (d := 56) hS2 w1 w3 h1 h3 s2 rfl (by omega) (t := 0) rfl (by decide), rfl, fun v78 M78 g78 => ?_⟩)))))
        obtain ⟨rfl, rfl⟩ := g78
        refine hK _ _ _ _ (hK _ _ _ _ (⟨fun q => ?_, fun q => ?_⟩))
        · refine two v ?_
          rw [x_nbeq (fun z => q (by rw [z]))]
          rfl
        · refine hK _ _ _ _ (hK _ _ _ _ (hK _ _ _ _ (hK _ _ _ _ (⟨_, g_times (d := 58) hg2 hu hv, rfl, fun v90 M90 g90 => ?_⟩))))
          obtain ⟨rfl, rfl⟩ := g90
          refine hK _ _ _ _ (?_)
          refine two _ ?_
          rw [x_beq (x_inj (x := ren e.2.1.1 e.2.1.2.1 e.2.1.2.2 j 0) (y := rc) (by omega) (by omega) q)]
          rfl
  refine hK _ _ _ _ (hK _ _ _ _ (hK _ _ _ _ (hK _ _ _ _ (hK _ _ _ _ (?_)))))
  exact lp _ 0 _ _ _ M36 rfl (Nat.zero_le _) rfl rfl fr_r (fun c hc => by rw [if_neg (Nat.not_lt_zero c)])
