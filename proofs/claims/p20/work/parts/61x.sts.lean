/-- bits of a number below 512 -/
def pop9 (u : Nat) : Nat := u % 2 + u / 2 % 2 + u / 4 % 2 + u / 8 % 2 + u / 16 % 2 + u / 32 % 2 + u / 64 % 2 + u / 128 % 2 + u / 256 % 2
def g_bt9 (u : Nat) : zCt := (258, [.inl (zN u)], [], [], [.inl (some (.inl (zN (pop9 u))), [])], 1)
theorem g_bt9_ok : ∀ u ∈ List.range 512, z_ctH [] (g_bt9 u) := z_tab_ok g_bt9 [] z_hds_ok 0 1 _ (by decide +kernel)
theorem pop9_9 {u : Nat} : pop9 u ≤ 9 := by
  unfold pop9
  omega
theorem b_bt9 {nS d u : Nat} {M : aM} {x : Int32} (hx : x = Int32.ofNat u) (hu : u < 512) : aC nS (d + 1) 258 [vI x] M (fun v M' => v = some (vI (Int32.ofNat (pop9 u))) ∧ M = M') (fun _ _ => False) := by
  subst hx
  have h3 := pop9_9 (u := u)
  exact zN_use (nS := nS) (d := d + 1) (M := M) (g_bt9_ok _ (List.mem_range.mpr hu)) (r := pop9 u) (by omega) rfl rfl (Nat.le_add_left 1 d) (as := [vI (Int32.ofNat u)]) (h_Iv (zN_i (n := u) (by omega)) trivial) z_MT0 h_MG0
theorem cho_pop {n k : Nat} (hn : n ≤ 9) (hk : k ≤ 9) : cnt (fun s => Nat.beq (pop9 s) k) (2 ^ n) = cho n k := by
  have h := List.all_eq_true.mp (List.all_eq_true.mp (show (List.range 10).all (fun n => (List.range 10).all (fun k => Nat.beq (cnt (fun s => Nat.beq (pop9 s) k) (2 ^ n)) (cho n k))) = true by decide +kernel) n (List.mem_range.mpr (by omega))) k (List.mem_range.mpr (by omega))
  exact Nat.eq_of_beq_eq_true h
theorem x_l1 {n : Nat} : Int64.ofNat n + 1 = Int64.ofNat (n + 1) := (Int64.ofNat_add n 1).symm
theorem l_choices {nS d n s : Nat} {M : aM} {x y : Int32} (hx : x = Int32.ofNat n) (hy : y = Int32.ofNat s) (hn : n ≤ 9) (hs : s ≤ 9) : aC nS (d + 2) 122 [vI x, vI y] M (fun v M' => v = some (vL (Int64.ofNat (cho n s))) ∧ M = M') (fun _ _ => False) := by
  subst hx
  subst hy
  have p2 : 2 ^ n ≤ 512 := Nat.le_trans (Nat.pow_le_pow_right (by decide) hn) (show 2 ^ 9 ≤ 512 by decide)
  have sh : (1 : Int32) <<< (Int32.ofNat n &&& 31) = Int32.ofNat (2 ^ n) := by
    rcases (by omega : n = 0 ∨ n = 1 ∨ n = 2 ∨ n = 3 ∨ n = 4 ∨ n = 5 ∨ n = 6 ∨ n = 7 ∨ n = 8 ∨ n = 9) with rfl | rfl | rfl | rfl | rfl | rfl | rfl | rfl | rfl | rfl <;> decide
  refine aC_mk rfl rfl ?_
  intro K hK _
  have lp : ∀ (m i : Nat) (z : Int32) (A : Int64), 2 ^ n - i = m → i ≤ 2 ^ n → z = Int32.ofNat i → A = Int64.ofNat (cnt (fun u => Nat.beq (pop9 u) s) i) → K 5 [some (vI (Int32.ofNat n)), some (vI (Int32.ofNat s)), some (vL A), none, some (vI z)] [] M := by
    intro m
    induction m with
    | zero =>
      intro i z A hm hi hz hA
      subst hz
      subst hA
      refine hK _ _ _ _ (hK _ _ _ _ (hK _ _ _ _ (hK _ _ _ _ (hK _ _ _ _ (⟨fun h9 => ?_, fun h9 => ?_⟩))))) <;> rw [sh] at h9
      · exact hK _ _ _ _ (hK _ _ _ _ (⟨by rw [show i = 2 ^ n by omega, cho_pop hn hs], rfl⟩))
      · exact absurd (x_nge (x := i) (y := 2 ^ n) rfl rfl (by omega) (by omega) h9) (by omega)
    | succ m ih =>
      intro i z A hm hi hz hA
      subst hz
      subst hA
      refine hK _ _ _ _ (hK _ _ _ _ (hK _ _ _ _ (hK _ _ _ _ (hK _ _ _ _ (⟨fun h9 => ?_, fun h9 => ?_⟩))))) <;> rw [sh] at h9
      · exact absurd (x_ge (x := i) (y := 2 ^ n) rfl rfl (by omega) (by omega) h9) (by omega)
      · refine hK _ _ _ _ (hK _ _ _ _ (hK _ _ _ _ (⟨_, b_bt9 (d := d) rfl (show i < 512 by omega), rfl, fun v16 M16 g16 => ?_⟩)))
        obtain ⟨rfl, rfl⟩ := g16
        have h3 := pop9_9 (u := i)
        refine hK _ _ _ _ (hK _ _ _ _ (⟨fun q => ?_, fun q => ?_⟩))
        · refine hK _ _ _ _ (hK _ _ _ _ (hK _ _ _ _ (hK _ _ _ _ (hK _ _ _ _ (?_)))))
          rw [Int64.add_zero]
          refine ih (i + 1) _ _ (by omega) (by omega) hI_s ?_
          show _ = Int64.ofNat (cnt (fun u => Nat.beq (pop9 u) s) i + (bif Nat.beq (pop9 i) s then 1 else 0))
          rw [x_nbeq (fun z => q (by rw [z]))]
          rfl
        · refine hK _ _ _ _ (hK _ _ _ _ (hK _ _ _ _ (hK _ _ _ _ (hK _ _ _ _ (hK _ _ _ _ (?_))))))
          rw [x_l1]
          refine ih (i + 1) _ _ (by omega) (by omega) hI_s ?_
          show _ = Int64.ofNat (cnt (fun u => Nat.beq (pop9 u) s) i + (bif Nat.beq (pop9 i) s then 1 else 0))
          rw [x_beq (x_inj (by omega) (by omega) q)]
          rfl
  refine hK _ _ _ _ (hK _ _ _ _ (hK _ _ _ _ (hK _ _ _ _ (?_))))
  exact lp _ 0 _ _ rfl (Nat.zero_le _) rfl rfl
theorem l_takeSame {nS d k o : Nat} {M : aM} {a b : Int64} (hF : gF 0 M k o) : aC nS (d + 2) 117 [vR 24 0, vL a, vL b] M (fun v M' => v = none ∧ M'.1 = M.1 ∧ (∀ t, t < o → M'.2 27 0 t = if t = 0 then a else b) ∧ ∀ k i j, ¬ k = 27 → M'.2 k i j = M.2 k i j) (fun _ _ => False) := by
  obtain ⟨o2, o8, k3⟩ := gP_o hF.1.1
  refine aC_mk rfl rfl ?_
  intro K hK _
  have lp : ∀ (m t : Nat) (z : Int32) (M1 : aM), o - t = m → t ≤ o → z = Int32.ofNat t → M1.1 = M.1 → (∀ u, u < t → M1.2 27 0 u = if u = 0 then a else b) → (∀ k i j, ¬ k = 27 → M1.2 k i j = M.2 k i j) → K 3 [some (vR 24 0), some (vL a), none, some (vL b), none, some (vI z)] [] M1 := by
    intro m
    induction m with
    | zero =>
      intro t z M1 hm ht hz h1 h2 h3
      subst hz
      refine hK _ _ _ _ (hK _ _ _ _ (hK _ _ _ _ (hK _ _ _ _ (⟨_, b_order, rfl, fun v9 M9 g9 => ?_⟩))))
      obtain ⟨rfl, rfl⟩ := g9
      rw [h1, hF.1.2.2]
      refine hK _ _ _ _ (⟨fun h9 => ?_, fun h9 => ?_⟩)
      · exact hK _ _ _ _ (⟨rfl, h1, fun u hu => h2 u (by omega), h3⟩)
      · exact absurd (x_nge (x := t) (y := o) rfl rfl (by omega) (by omega) h9) (by omega)
    | succ m ih =>
      intro t z M1 hm ht hz h1 h2 h3
      subst hz
      refine hK _ _ _ _ (hK _ _ _ _ (hK _ _ _ _ (hK _ _ _ _ (⟨_, b_order, rfl, fun v9 M9 g9 => ?_⟩))))
      obtain ⟨rfl, rfl⟩ := g9
      rw [h1, hF.1.2.2]
      refine hK _ _ _ _ (⟨fun h9 => ?_, fun h9 => ?_⟩)
      · exact absurd (x_ge (x := t) (y := o) rfl rfl (by omega) (by omega) h9) (by omega)
      · have fin : ∀ v : Int64, v = (if t = 0 then a else b) → K 31 [some (vR 24 0), some (vL a), none, some (vL b), none, some (vI (Int32.ofNat t))] [vL v, vI (Int32.ofNat t), vR 27 0] M1 := by
          intro v hv
          refine hK _ _ _ _ (⟨_, l_put (d := d) (Or.inr (Or.inr rfl)) rfl (show t < 8 by omega), rfl, fun v31 M31 g31 => ?_⟩)
          obtain ⟨rfl, rfl⟩ := g31
          refine hK _ _ _ _ (hK _ _ _ _ (?_))
          refine ih (t + 1) _ _ (by omega) (by omega) hI_s h1 (fun u hu => ?_) (fun k i j hk => (x_Ln (fun z => hk z.1)).trans (h3 k i j hk))
          by_cases he : u = t
          · rw [he, ← hv]
            exact x_Le
          · exact (x_Ln (fun z => he z.2.2)).trans (h2 u (by omega))
        refine hK _ _ _ _ (hK _ _ _ _ (hK _ _ _ _ (hK _ _ _ _ (hK _ _ _ _ (⟨fun q => ?_, fun q => ?_⟩)))))
        · refine hK _ _ _ _ (?_)
          exact fin b (by rw [if_neg (fun z => q (by rw [z]; rfl))])
        · refine hK _ _ _ _ (hK _ _ _ _ (?_))
          exact fin a (by rw [if_pos (x_inj (x := t) (y := 0) (by omega) (by decide) q)])
  refine hK _ _ _ _ (hK _ _ _ _ (?_))
  exact lp _ 0 _ M rfl (Nat.zero_le _) rfl rfl (fun u hu => absurd hu (Nat.not_lt_zero _)) (fun _ _ _ _ => rfl)
/-- holes of the board, counted -/
def h01 (H : Nat → Int32) (j : Nat) : Nat := if H j = 1 then 1 else 0
theorem hsum_n {H : Nat → Int32} (h : ∀ j, j < 16 → H j = 0 ∨ H j = 1) : hsum H 16 = Int32.ofNat (h01 H 0 + h01 H 1 + h01 H 2 + h01 H 3 + h01 H 4 + h01 H 5 + h01 H 6 + h01 H 7 + h01 H 8 + h01 H 9 + h01 H 10 + h01 H 11 + h01 H 12 + h01 H 13 + h01 H 14 + h01 H 15) := by
  have e : ∀ j, j < 16 → H j = Int32.ofNat (h01 H j) := fun j hj => by
    unfold h01
    rcases h j hj with h9 | h9
    · rw [if_neg (by rw [h9]; decide), h9]
      rfl
    · rw [if_pos h9, h9]
      rfl
  show (0 : Int32) + H 0 + H 1 + H 2 + H 3 + H 4 + H 5 + H 6 + H 7 + H 8 + H 9 + H 10 + H 11 + H 12 + H 13 + H 14 + H 15 = _
  rw [e 0 (by decide), e 1 (by decide), e 2 (by decide), e 3 (by decide), e 4 (by decide), e 5 (by decide), e 6 (by decide), e 7 (by decide), e 8 (by decide), e 9 (by decide), e 10 (by decide), e 11 (by decide), e 12 (by decide), e 13 (by decide), e 14 (by decide), e 15 (by decide), show (0 : Int32) = Int32.ofNat 0 from rfl]
  simp only [hI_ad, Nat.zero_add]
theorem h01_0 {e : xB} {j : Nat} (h : hW e) (hj : j < 16) (hn : ¬ (j % 4 < e.2.1.1 ∧ j / 4 < e.2.1.2.1)) : h01 e.2.2.2.1 j = 0 := if_neg (fun z => hn (h.2 j hj z))
theorem hcy_n {e : xB} (hk : okB e) (h : hW e) : h01 e.2.2.2.1 0 + h01 e.2.2.2.1 1 + h01 e.2.2.2.1 2 + h01 e.2.2.2.1 3 + h01 e.2.2.2.1 4 + h01 e.2.2.2.1 5 + h01 e.2.2.2.1 6 + h01 e.2.2.2.1 7 + h01 e.2.2.2.1 8 + h01 e.2.2.2.1 9 + h01 e.2.2.2.1 10 + h01 e.2.2.2.1 11 + h01 e.2.2.2.1 12 + h01 e.2.2.2.1 13 + h01 e.2.2.2.1 14 + h01 e.2.2.2.1 15 = hcy e e.2.1.2.1 := by
  obtain ⟨w1, w3, h1, h3, -⟩ := hk
  have z := fun j (hj : j < 16) (hn : ¬ (j % 4 < e.2.1.1 ∧ j / 4 < e.2.1.2.1)) => h01_0 h hj hn
  have ex : ∀ y x a, hcx e y (x + 1) a = hcx e y x a + h01 e.2.2.2.1 (y * 4 + x) := fun _ _ _ => rfl
  have e0 : ∀ y a, hcx e y 0 a = a := fun _ _ => rfl
  have ey : ∀ y, hcy e (y + 1) = hcx e y e.2.1.1 (hcy e y) := fun _ => rfl
  have ey0 : hcy e 0 = 0 := rfl
  rcases (show e.2.1.1 = 1 ∨ e.2.1.1 = 2 ∨ e.2.1.1 = 3 by omega) with hw | hw | hw <;> rcases (show e.2.1.2.1 = 1 ∨ e.2.1.2.1 = 2 ∨ e.2.1.2.1 = 3 by omega) with hh | hh | hh <;> rw [hw, hh] at z
  · have q0 : True := trivial
    have z1 := z 1 (by decide) (by decide)
    have z2 := z 2 (by decide) (by decide)
    have z3 := z 3 (by decide) (by decide)
    have z4 := z 4 (by decide) (by decide)
    have z5 := z 5 (by decide) (by decide)
    have z6 := z 6 (by decide) (by decide)
    have z7 := z 7 (by decide) (by decide)
    have z8 := z 8 (by decide) (by decide)
    have z9 := z 9 (by decide) (by decide)
    have z10 := z 10 (by decide) (by decide)
    have z11 := z 11 (by decide) (by decide)
    have z12 := z 12 (by decide) (by decide)
    have z13 := z 13 (by decide) (by decide)
    have z14 := z 14 (by decide) (by decide)
    have z15 := z 15 (by decide) (by decide)
    rw [hh]
    simp only [ey, ey0, hw, ex, e0]
    simp only [show 0 * 4 + 0 = 0 from rfl]
    omega
  · have q0 : True := trivial
    have z1 := z 1 (by decide) (by decide)
    have z2 := z 2 (by decide) (by decide)
    have z3 := z 3 (by decide) (by decide)
    have z5 := z 5 (by decide) (by decide)
    have z6 := z 6 (by decide) (by decide)
    have z7 := z 7 (by decide) (by decide)
    have z8 := z 8 (by decide) (by decide)
    have z9 := z 9 (by decide) (by decide)
    have z10 := z 10 (by decide) (by decide)
    have z11 := z 11 (by decide) (by decide)
    have z12 := z 12 (by decide) (by decide)
    have z13 := z 13 (by decide) (by decide)
    have z14 := z 14 (by decide) (by decide)
    have z15 := z 15 (by decide) (by decide)
    rw [hh]
    simp only [ey, ey0, hw, ex, e0]
    simp only [show 0 * 4 + 0 = 0 from rfl, show 1 * 4 + 0 = 4 from rfl]
    omega
  · have q0 : True := trivial
    have z1 := z 1 (by decide) (by decide)
    have z2 := z 2 (by decide) (by decide)
    have z3 := z 3 (by decide) (by decide)
    have z5 := z 5 (by decide) (by decide)
    have z6 := z 6 (by decide) (by decide)
    have z7 := z 7 (by decide) (by decide)
    have z9 := z 9 (by decide) (by decide)
    have z10 := z 10 (by decide) (by decide)
    have z11 := z 11 (by decide) (by decide)
    have z12 := z 12 (by decide) (by decide)
    have z13 := z 13 (by decide) (by decide)
    have z14 := z 14 (by decide) (by decide)
    have z15 := z 15 (by decide) (by decide)
    rw [hh]
    simp only [ey, ey0, hw, ex, e0]
    simp only [show 0 * 4 + 0 = 0 from rfl, show 1 * 4 + 0 = 4 from rfl, show 2 * 4 + 0 = 8 from rfl]
    omega
  · have q0 : True := trivial
    have z2 := z 2 (by decide) (by decide)
    have z3 := z 3 (by decide) (by decide)
    have z4 := z 4 (by decide) (by decide)
    have z5 := z 5 (by decide) (by decide)
    have z6 := z 6 (by decide) (by decide)
    have z7 := z 7 (by decide) (by decide)
    have z8 := z 8 (by decide) (by decide)
    have z9 := z 9 (by decide) (by decide)
    have z10 := z 10 (by decide) (by decide)
    have z11 := z 11 (by decide) (by decide)
    have z12 := z 12 (by decide) (by decide)
    have z13 := z 13 (by decide) (by decide)
    have z14 := z 14 (by decide) (by decide)
    have z15 := z 15 (by decide) (by decide)
    rw [hh]
    simp only [ey, ey0, hw, ex, e0]
    simp only [show 0 * 4 + 0 = 0 from rfl, show 0 * 4 + 1 = 1 from rfl]
    omega
  · have q0 : True := trivial
    have z2 := z 2 (by decide) (by decide)
    have z3 := z 3 (by decide) (by decide)
    have z6 := z 6 (by decide) (by decide)
    have z7 := z 7 (by decide) (by decide)
    have z8 := z 8 (by decide) (by decide)
    have z9 := z 9 (by decide) (by decide)
    have z10 := z 10 (by decide) (by decide)
    have z11 := z 11 (by decide) (by decide)
    have z12 := z 12 (by decide) (by decide)
    have z13 := z 13 (by decide) (by decide)
    have z14 := z 14 (by decide) (by decide)
    have z15 := z 15 (by decide) (by decide)
    rw [hh]
    simp only [ey, ey0, hw, ex, e0]
    simp only [show 0 * 4 + 0 = 0 from rfl, show 0 * 4 + 1 = 1 from rfl, show 1 * 4 + 0 = 4 from rfl, show 1 * 4 + 1 = 5 from rfl]
    omega
  · have q0 : True := trivial
    have z2 := z 2 (by decide) (by decide)
    have z3 := z 3 (by decide) (by decide)
    have z6 := z 6 (by decide) (by decide)
    have z7 := z 7 (by decide) (by decide)
    have z10 := z 10 (by decide) (by decide)
    have z11 := z 11 (by decide) (by decide)
    have z12 := z 12 (by decide) (by decide)
    have z13 := z 13 (by decide) (by decide)
    have z14 := z 14 (by decide) (by decide)
    have z15 := z 15 (by decide) (by decide)
    rw [hh]
    simp only [ey, ey0, hw, ex, e0]
    simp only [show 0 * 4 + 0 = 0 from rfl, show 0 * 4 + 1 = 1 from rfl, show 1 * 4 + 0 = 4 from rfl, show 1 * 4 + 1 = 5 from rfl, show 2 * 4 + 0 = 8 from rfl, show 2 * 4 + 1 = 9 from rfl]
    omega
  · have q0 : True := trivial
    have z3 := z 3 (by decide) (by decide)
    have z4 := z 4 (by decide) (by decide)
    have z5 := z 5 (by decide) (by decide)
    have z6 := z 6 (by decide) (by decide)
    have z7 := z 7 (by decide) (by decide)
    have z8 := z 8 (by decide) (by decide)
    have z9 := z 9 (by decide) (by decide)
    have z10 := z 10 (by decide) (by decide)
    have z11 := z 11 (by decide) (by decide)
    have z12 := z 12 (by decide) (by decide)
    have z13 := z 13 (by decide) (by decide)
    have z14 := z 14 (by decide) (by decide)
    have z15 := z 15 (by decide) (by decide)
    rw [hh]
    simp only [ey, ey0, hw, ex, e0]
    simp only [show 0 * 4 + 0 = 0 from rfl, show 0 * 4 + 1 = 1 from rfl, show 0 * 4 + 2 = 2 from rfl]
    omega
  · have q0 : True := trivial
    have z3 := z 3 (by decide) (by decide)
    have z7 := z 7 (by decide) (by decide)
    have z8 := z 8 (by decide) (by decide)
    have z9 := z 9 (by decide) (by decide)
    have z10 := z 10 (by decide) (by decide)
    have z11 := z 11 (by decide) (by decide)
    have z12 := z 12 (by decide) (by decide)
    have z13 := z 13 (by decide) (by decide)
    have z14 := z 14 (by decide) (by decide)
    have z15 := z 15 (by decide) (by decide)
    rw [hh]
    simp only [ey, ey0, hw, ex, e0]
    simp only [show 0 * 4 + 0 = 0 from rfl, show 0 * 4 + 1 = 1 from rfl, show 0 * 4 + 2 = 2 from rfl, show 1 * 4 + 0 = 4 from rfl, show 1 * 4 + 1 = 5 from rfl, show 1 * 4 + 2 = 6 from rfl]
    omega
  · have q0 : True := trivial
    have z3 := z 3 (by decide) (by decide)
    have z7 := z 7 (by decide) (by decide)
    have z11 := z 11 (by decide) (by decide)
    have z12 := z 12 (by decide) (by decide)
    have z13 := z 13 (by decide) (by decide)
    have z14 := z 14 (by decide) (by decide)
    have z15 := z 15 (by decide) (by decide)
    rw [hh]
    simp only [ey, ey0, hw, ex, e0]
    simp only [show 0 * 4 + 0 = 0 from rfl, show 0 * 4 + 1 = 1 from rfl, show 0 * 4 + 2 = 2 from rfl, show 1 * 4 + 0 = 4 from rfl, show 1 * 4 + 1 = 5 from rfl, show 1 * 4 + 2 = 6 from rfl, show 2 * 4 + 0 = 8 from rfl, show 2 * 4 + 1 = 9 from rfl, show 2 * 4 + 2 = 10 from rfl]
    omega
theorem b_squares {nS d i w h s : Nat} {M : aM} (hs : cS i M w h s) (w3 : w ≤ 3) (h3 : h ≤ 3) : aC nS (d + 1) 11 [vR 4 i] M (fun v M' => v = some (vI (Int32.ofNat (h * w))) ∧ M = M') (fun _ _ => False) := by
  refine aC_mk rfl rfl ?_
  intro K hK _
  refine hK _ _ _ _ (hK _ _ _ _ (hK _ _ _ _ (hK _ _ _ _ (hK _ _ _ _ (hK _ _ _ _ (?_))))))
  rw [hs.1, hs.2.1, x_mul (by omega) (by omega), Nat.mul_comm]
  exact ⟨rfl, rfl⟩
/-- what states answers -/
def stA (e : xB) (a : Int32) : Int64 := if 0 ≤ a ∧ a ≤ 9 then stv e (xn a) else 0
theorem l_states {nS d : Nat} {M : aM} {e : xB} {a : Int32} (hB : cB 0 M e) (hH9 : ∀ j, j < 16 → e.2.2.2.1 j = 0 ∨ e.2.2.2.1 j = 1) (hX : xE e) : aC nS (d + 4) 121 [vR 24 0, vI a] M (fun v M' => v = some (vL (stA e a)) ∧ M'.1 = M.1) (fun _ _ => False) := by
  obtain ⟨ho, o2, o8, hS, w1, w3, h1, h3, s2⟩ := cB_h hB
  have hF := hB.1
  have hl := hcy_le (e := e) e.2.1.2.1
  have m9 : e.2.1.2.1 * e.2.1.1 ≤ 3 * e.2.1.1 := Nat.mul_le_mul_right _ h3
  have hs : hsum e.2.2.2.1 16 = Int32.ofNat (hcy e e.2.1.2.1) := by rw [hsum_n hH9, hcy_n hB.2.1 hX.2]
  refine aC_mk rfl rfl ?_
  intro K hK _
  refine hK _ _ _ _ (hK _ _ _ _ (hK _ _ _ _ (⟨_, b_holes (d := d + 1) hB.2.2.2.2.1, rfl, fun v4 M4 g4 => ?_⟩)))
  obtain ⟨rfl, rfl⟩ := g4
  rw [hs]
  refine hK _ _ _ _ (hK _ _ _ _ (hK _ _ _ _ (hK _ _ _ _ (⟨_, b_squares (d := d + 2) hS w3 h3, rfl, fun v12 M12 g12 => ?_⟩))))
  obtain ⟨rfl, rfl⟩ := g12
  have eo : Int32.ofNat (e.2.1.2.1 * e.2.1.1) - Int32.ofNat (hcy e e.2.1.2.1) = Int32.ofNat (e.2.1.2.1 * e.2.1.1 - hcy e e.2.1.2.1) := x_sub hl (by omega)
  have no : stA e a = 0 → K 27 [some (vR 24 0), some (vI a), some (vI (Int32.ofNat (hcy e e.2.1.2.1))), some (vI (Int32.ofNat (e.2.1.2.1 * e.2.1.1 - hcy e e.2.1.2.1)))] [] M := fun h => hK _ _ _ _ (hK _ _ _ _ (⟨by rw [h], rfl⟩))
  refine hK _ _ _ _ (hK _ _ _ _ (hK _ _ _ _ (hK _ _ _ _ (?_))))
  rw [eo]
  refine hK _ _ _ _ (⟨fun h9 => ?_, fun h9 => ?_⟩)
  · exact no (if_neg (fun z => x_nle h9 z.1))
  have a0 := x_gen h9
  refine hK _ _ _ _ (hK _ _ _ _ (hK _ _ _ _ (⟨fun h9 => ?_, fun h9 => ?_⟩)))
  · obtain ⟨n, hn, rfl⟩ := hI_of a0
    have hle := (hI_le (a := n) (b := (e.2.1.2.1 * e.2.1.1 - hcy e e.2.1.2.1)) hn (by omega)).mp h9
    have ea : stA e (Int32.ofNat n) = stv e n := by
      have e1 : xn (Int32.ofNat n) = n := x_cl rfl (by omega)
      unfold stA
      rw [if_pos ⟨a0, (hI_le (a := n) (b := 9) (by omega) (by decide)).mpr (by omega)⟩, e1]
    refine hK _ _ _ _ (hK _ _ _ _ (⟨_, l_begin (d := d + 1), rfl, fun v30 M30 g30 => ?_⟩))
    obtain ⟨rfl, q1, q2⟩ := g30
    refine hK _ _ _ _ (hK _ _ _ _ (hK _ _ _ _ (hK _ _ _ _ (⟨_, l_takeSame (d := d + 1) (gF_1 hF q1), rfl, fun v36 M36 g36 => ?_⟩))))
    obtain ⟨rfl, r1, r2, r3⟩ := g36
    refine hK _ _ _ _ (hK _ _ _ _ (hK _ _ _ _ (⟨_, l_multiply (d := d) (f := d0) (g := yS1) (gF_1 hF (r1.trans q1)) rfl (show n < 1000 by omega) (fun t ht => (r3 25 0 t (by decide)).trans (q2 t (by omega))) (fun t ht => r2 t ht), rfl, fun v41 M41 g41 => ?_⟩)))
    obtain ⟨rfl, s1, t2, t3⟩ := g41
    refine hK _ _ _ _ (hK _ _ _ _ (hK _ _ _ _ (hK _ _ _ _ (⟨_, l_takeSame (d := d + 1) (gF_1 hF (s1.trans (r1.trans q1))), rfl, fun v47 M47 g47 => ?_⟩))))
    obtain ⟨rfl, u1, u2, u3⟩ := g47
    refine hK _ _ _ _ (hK _ _ _ _ (hK _ _ _ _ (⟨_, l_multiply (d := d) (f := mulN e.1.1 e.1.2 d0 yS1 n) (g := yA1) (gF_1 hF (u1.trans (s1.trans (r1.trans q1)))) rfl (show hcy e e.2.1.2.1 < 1000 by omega) (fun t ht => (u3 25 0 t (by decide)).trans (t2 t ht)) (fun t ht => (u2 t ht).trans (ite_self _)), rfl, fun v52 M52 g52 => ?_⟩)))
    obtain ⟨rfl, y1, y2, y3⟩ := g52
    have F1 : M52.1 = M.1 := y1.trans (u1.trans (s1.trans (r1.trans q1)))
    refine hK _ _ _ _ (hK _ _ _ _ (hK _ _ _ _ (⟨_, l_choices (d := d + 1) rfl rfl (show (e.2.1.2.1 * e.2.1.1 - hcy e e.2.1.2.1) ≤ 9 by omega) (show n ≤ 9 by omega), rfl, fun v57 M57 g57 => ?_⟩)))
    obtain ⟨rfl, rfl⟩ := g57
    refine hK _ _ _ _ (hK _ _ _ _ (⟨_, l_overShape (d := d) (gF_1 hF F1) (by rw [F1]; exact hS.2.2.1) s2 y2, rfl, fun v61 M61 g61 => ?_⟩))
    obtain ⟨rfl, rfl⟩ := g61
    exact hK _ _ _ _ (hK _ _ _ _ (⟨by rw [ea]; rfl, F1⟩))
  · refine no ?_
    unfold stA
    by_cases h8 : 0 ≤ a ∧ a ≤ 9
    · rw [if_pos h8]
      obtain ⟨n, hn, rfl⟩ := hI_of a0
      have e1 : xn (Int32.ofNat n) = n := x_cl rfl hn
      have hgt : ¬ n ≤ (e.2.1.2.1 * e.2.1.1 - hcy e e.2.1.2.1) := fun z => h9 ((hI_le (a := n) (b := (e.2.1.2.1 * e.2.1.1 - hcy e e.2.1.2.1)) hn (by omega)).mpr z)
      rw [e1]
      unfold stv
      rw [cho_gt _ _ (by omega), show Int64.ofNat 0 = 0 from rfl, Int64.zero_mul]
    · exact if_neg h8
theorem rH_01 {x : Int32} {H : Nat → Int32} (h : rH x H) : ∀ j, j < 16 → H j = 0 ∨ H j = 1 := by
  obtain ⟨b, hb, rfl, h2, h3⟩ := h
  intro j hj
  by_cases hn : j % 4 < 3 ∧ j / 4 < 3
  · have h9 := h2 (j % 4) (j / 4) hn.1 hn.2
    rw [show j / 4 * 4 + j % 4 = j by omega] at h9
    by_cases hb2 : b.testBit (3 * (j / 4) + j % 4) = true
    · rw [if_pos hb2] at h9
      exact Or.inr h9
    · rw [if_neg hb2] at h9
      exact Or.inl h9
  · exact Or.inl (h3 j hj hn)
theorem c_statesX {nS : Nat} {M : aM} {e : xB} {a : Int32} (hB : cB 0 M e) (hH9 : ∀ j, j < 16 → e.2.2.2.1 j = 0 ∨ e.2.2.2.1 j = 1) (hX : xE e) : aC nS 60 168 [vR 0 0, vI a] M (fun v M' => v = some (vL (stA e a)) ∧ M'.1 = M.1) (fun _ _ => False) := by
  refine aC_mk rfl rfl ?_
  intro K hK _
  refine hK _ _ _ _ (hK _ _ _ _ (hK _ _ _ _ (hK _ _ _ _ (⟨_, l_states (d := 55) hB hH9 hX, rfl, fun v5 M5 g5 => ?_⟩))))
  obtain ⟨rfl, h9⟩ := g5
  exact hK _ _ _ _ (⟨rfl, h9⟩)
theorem r_statesX {nS : Nat} {M : aM} {e : xB} {a : Int32} (hB : rB 37 M e) : aC nS 60 239 [vR 36 0, vI a] M (fun v M' => v = some (vL (stA e a))) (fun _ _ => False) := by
  have hB0 : rB 37 (a_pI M 36 0 0 0) e := rB_p hB
  refine aC_mk rfl rfl ?_
  intro K hK _
  refine hK _ _ _ _ (hK _ _ _ _ (hK _ _ _ _ (hK _ _ _ _ (hK _ _ _ _ (hK _ _ _ _ (hK _ _ _ _ (⟨_, t_isIn (d := 58), rfl, fun v9 M9 g9 => ?_⟩)))))))
  obtain ⟨rfl, rfl⟩ := g9
  by_cases h8 : 0 ≤ a ∧ a ≤ 9
  · rw [if_pos h8]
    refine hK _ _ _ _ (⟨fun q => ?_, fun q => ?_⟩)
    · refine hK _ _ _ _ (hK _ _ _ _ (hK _ _ _ _ (⟨_, r_foldsAll (d := 55) (cb := true) hB0, rfl, fun v19 M19 g19 => ?_⟩)))
      obtain ⟨rfl, f1, f2⟩ := g19
      obtain ⟨n, hn, rfl⟩ := hI_of h8.1
      have hle := (hI_le (a := n) (b := 9) hn (by decide)).mp h8.2
      refine hK _ _ _ _ (hK _ _ _ _ (hK _ _ _ _ (⟨_, r_byShape (d := 54) (rB_1 hB0 f1) (show n < 10 by omega) f2, rfl, fun v24 M24 g24 => ?_⟩)))
      obtain ⟨rfl, rfl⟩ := g24
      have e1 : xn (Int32.ofNat n) = n := x_cl rfl hn
      refine hK _ _ _ _ (?_)
      unfold stA
      rw [if_pos h8, e1, bsh_st hB.1 (rB_h hB).2.2.2.2.2.2.2.2 (by omega)]
      exact rfl
    · exact absurd q (by decide)
  · rw [if_neg h8]
    refine hK _ _ _ _ (⟨fun q => ?_, fun q => ?_⟩)
    · exact absurd rfl q
    · refine hK _ _ _ _ (hK _ _ _ _ (?_))
      unfold stA
      rw [if_neg h8]
      exact rfl
