/-- kinds that a list of writes leaves -/
def uK (W : zW) (k : Nat) : Bool := W.all (fun w => !(Nat.beq w.1 k))
theorem uK_ok {W : zW} {k : Nat} (h : uK W k = true) {M M' : aM} (hm : z_MW W M M') (i j : Nat) : M'.1 k i j = M.1 k i j := by
  have hw : z_w W k j j = false := by
    cases hq : z_w W k j j with
    | false => rfl
    | true =>
      obtain ⟨w, h1, h2, -⟩ := z_w_at hq
      have h3 := List.all_eq_true.mp h w h1
      rw [h2, Nat.beq_refl] at h3
      cases h3
  exact (hm k i j hw).1
/-- the boards, but for the turns on their lines -/
def cBd (M M' : aM) : Prop := ∀ k i j, 4 ≤ k → k ≤ 14 → k ≠ 12 → M'.1 k i j = M.1 k i j
def uB (W : zW) : Bool := W.all (fun w => Nat.beq w.1 12 || !(Nat.ble 4 w.1 && Nat.ble w.1 14))
theorem uB_ok {W : zW} (h : uB W = true) {M M' : aM} (hm : z_MW W M M') : cBd M M' := by
  intro k i j h4 h14 h12
  have hw : z_w W k j j = false := by
    cases hq : z_w W k j j with
    | false => rfl
    | true =>
      obtain ⟨w, h1, h2, -⟩ := z_w_at hq
      have h3 := List.all_eq_true.mp h w h1
      rw [h2, x_nbq h12, Nat.ble_eq_true_of_le h4, Nat.ble_eq_true_of_le h14] at h3
      cases h3
  exact (hm k i j hw).1
/-- cells to 17 of the reference's rows, but for the counts of changes -/
def uM (W : zW) (k : Nat) : Bool := W.all (fun w => !(Nat.beq w.1 k) || (Nat.blt 17 w.2.1 || (Nat.ble 7 w.2.1 && Nat.ble w.2.2 8)))
theorem uM_ok {W : zW} {k : Nat} (h : uM W k = true) {M M' : aM} (hm : z_MW W M M') {j : Nat} (hj : j ≤ 17) (h7 : j ≠ 7) (h8 : j ≠ 8) : M'.1 k 0 j = M.1 k 0 j := by
  have hw : z_w W k j j = false := by
    cases hq : z_w W k j j with
    | false => rfl
    | true =>
      obtain ⟨w, h1, h2, h3, h4⟩ := z_w_at hq
      have h5 := List.all_eq_true.mp h w h1
      rw [h2, Nat.beq_refl, Bool.not_true, Bool.false_or, Bool.or_eq_true, Bool.and_eq_true] at h5
      rcases h5 with h5 | ⟨h5, h6⟩
      · have := z_blt h5
        omega
      · have a := z_ble h5
        have b := z_ble h6
        omega
  exact (hm k 0 j hw).1
def mB (M M' : aM) : Prop := ∀ j, j ≤ 17 → j ≠ 7 → j ≠ 8 → M'.1 37 0 j = M.1 37 0 j
/-- what a call of the class leaves of what is told alike on both sides; all, or all but the counts of changes -/
def cHs (M M' : aM) : Prop := (∀ j, M'.1 2 0 j = M.1 2 0 j) ∧ cBd M M' ∧ M'.1 0 0 5 = M.1 0 0 5
/-- lines, changes -/
def cLn (M M' : aM) : Prop := ∀ q i j, (q = 12 ∨ (21 ≤ q ∧ q ≤ 23)) → M'.1 q i j = M.1 q i j
def cSm (M M' : aM) : Prop := cHs M M' ∧ M'.1 20 0 4 = M.1 20 0 4 ∧ M'.1 20 0 5 = M.1 20 0 5 ∧ cLn M M'
def cH1 (W : zW) : Bool := uK W 2 && (uB W && uK W 0)
def cS1 (W : zW) : Bool := cH1 W && (uK W 20 && (uK W 12 && (uK W 21 && (uK W 22 && uK W 23))))
theorem cHs_ok {W : zW} (h : cH1 W = true) {M M' : aM} (hm : z_MW W M M') : cHs M M' := by
  unfold cH1 at h
  rw [Bool.and_eq_true, Bool.and_eq_true] at h
  exact ⟨fun j => uK_ok h.1 hm 0 j, uB_ok h.2.1 hm, uK_ok h.2.2 hm 0 5⟩
theorem cSm_ok {W : zW} (h : cS1 W = true) {M M' : aM} (hm : z_MW W M M') : cSm M M' := by
  unfold cS1 at h
  rw [Bool.and_eq_true, Bool.and_eq_true, Bool.and_eq_true, Bool.and_eq_true, Bool.and_eq_true] at h
  obtain ⟨h1, h20, h12, h21, h22, h23⟩ := h
  refine ⟨cHs_ok h1 hm, uK_ok h20 hm 0 4, uK_ok h20 hm 0 5, fun q i j hq => ?_⟩
  rcases (show q = 12 ∨ q = 21 ∨ q = 22 ∨ q = 23 by omega) with rfl | rfl | rfl | rfl
  · exact uK_ok h12 hm i j
  · exact uK_ok h21 hm i j
  · exact uK_ok h22 hm i j
  · exact uK_ok h23 hm i j
/-- the same of a call of the reference -/
def mHs (M M' : aM) : Prop := (∀ j, M'.1 40 0 j = M.1 40 0 j) ∧ mB M M' ∧ M'.1 36 0 3 = M.1 36 0 3 ∧ ∀ j, M'.1 38 0 j = M.1 38 0 j
def mSm (M M' : aM) : Prop := mHs M M' ∧ M'.1 37 0 8 = M.1 37 0 8 ∧ M'.1 37 0 7 = M.1 37 0 7 ∧ ∀ j, j ≠ 18 → j ≠ 19 → M'.1 37 0 j = M.1 37 0 j
def mSb (M M' : aM) : Prop := mHs M M' ∧ ∀ j, (j < 18 ∨ 43 < j) → M'.1 37 0 j = M.1 37 0 j
def mH1 (W : zW) : Bool := uK W 40 && (uM W 37 && (uK W 38 && !(z_w W 36 3 3)))
def mS1 (W : zW) : Bool := mH1 W && uK W 37
def uM2 (W : zW) : Bool := W.all (fun w => !(Nat.beq w.1 37) || (Nat.ble 18 w.2.1 && Nat.ble w.2.2 43))
def mSb1 (W : zW) : Bool := mH1 W && uM2 W
theorem mHs_ok {W : zW} (h : mH1 W = true) {M M' : aM} (hm : z_MW W M M') : mHs M M' := by
  unfold mH1 at h
  rw [Bool.and_eq_true, Bool.and_eq_true, Bool.and_eq_true] at h
  exact ⟨fun j => uK_ok h.1 hm 0 j, fun j a b c => uM_ok h.2.1 hm a b c, i_nw hm h.2.2.2, fun j => uK_ok h.2.2.1 hm 0 j⟩
theorem mSm_ok {W : zW} (h : mS1 W = true) {M M' : aM} (hm : z_MW W M M') : mSm M M' := by
  unfold mS1 at h
  rw [Bool.and_eq_true] at h
  exact ⟨mHs_ok h.1 hm, uK_ok h.2 hm 0 8, uK_ok h.2 hm 0 7, fun j _ _ => uK_ok h.2 hm 0 j⟩
theorem mSb_ok {W : zW} (h : mSb1 W = true) {M M' : aM} (hm : z_MW W M M') : mSb M M' := by
  unfold mSb1 at h
  rw [Bool.and_eq_true] at h
  refine ⟨mHs_ok h.1 hm, fun j hj => ?_⟩
  have hw : z_w W 37 j j = false := by
    cases hq : z_w W 37 j j with
    | false => rfl
    | true =>
      obtain ⟨w, h1, h2, h3, h4⟩ := z_w_at hq
      have h5 := List.all_eq_true.mp h.2 w h1
      rw [h2, Nat.beq_refl, Bool.not_true, Bool.false_or, Bool.and_eq_true] at h5
      have := z_ble h5.1
      have := z_ble h5.2
      omega
  exact (hm 37 0 j hw).1
/-- the two sides' boards are one; so are the texts' counts -/
def RB (i q : Nat) (M : aM) : Prop := ∃ e, cB i M e ∧ rB q M e ∧ M.1 4 i 4 = M.1 q 0 0
def RX (M : aM) : Prop := (∀ j, M.1 2 0 j = M.1 40 0 j) ∧ RB 0 37 M ∧ (cG 1 M ∧ cG 2 M) ∧ (M.1 20 0 4 = M.1 37 0 8 ∧ M.1 20 0 5 = M.1 37 0 7) ∧ ((M.1 0 0 5 = 0 ∧ M.1 36 0 3 = 0) ∨ (M.1 0 0 5 = 1 ∧ M.1 36 0 3 = 1 ∧ RB 2 38 M))
theorem cB_l {i : Nat} {M M' : aM} {e : xB} (h : cB i M e) (hc : ∀ q j, 4 ≤ q → q ≤ 14 → q ≠ 12 → (q = 4 → j ≠ 4) → M'.1 q i j = M.1 q i j) : cB i M' (e.1, e.2.1, e.2.2.1, e.2.2.2.1, M'.1 12 i) := by
  obtain ⟨h1, h2, ⟨h31, h32, h33, h34, h35⟩, h4, h5, h6⟩ := h
  exact ⟨gF_fr h1 (fun q j a b => hc q j (by omega) (by omega) (by omega) (by omega)), h2, ⟨(hc 4 1 (by decide) (by decide) (by decide) (by decide)).trans h31, (hc 4 2 (by decide) (by decide) (by decide) (by decide)).trans h32, (hc 4 3 (by decide) (by decide) (by decide) (by decide)).trans h33, (hc 4 5 (by decide) (by decide) (by decide) (by decide)).trans h34, (hc 4 6 (by decide) (by decide) (by decide) (by decide)).trans h35⟩, fun t ht => (hc 13 t (by decide) (by decide) (by decide) (fun z => absurd z (by decide))).trans (h4 t ht), fun j hj => (hc 14 j (by decide) (by decide) (by decide) (fun z => absurd z (by decide))).trans (h5 j hj), fun j _ => rfl⟩
theorem rB_l {q : Nat} {M : aM} {e : xB} (h : rB q M e) (l : Nat → Int32) : rB q M (e.1, e.2.1, e.2.2.1, e.2.2.2.1, l) := ⟨h.1, h.2.1, h.2.2.1, h.2.2.2.1, h.2.2.2.2⟩
theorem R_f {t : Nat} {M N : aM} (h : cPost t M N) (k j : Nat) (h1 : 35 < k) (h2 : k ≤ 46) : N.1 k 0 j = M.1 k 0 j := (h.2.1 k 0 j h1 (by omega)).1
theorem RX_mk {t : Nat} {N1 N2 : aM} (h2 : mPost t N1 N2) (a : ∀ j, N1.1 2 0 j = N2.1 40 0 j) (b : ∃ e, cB 0 N1 e ∧ rB 37 N2 e ∧ N1.1 4 0 4 = N2.1 37 0 0) (c : cG 1 N1 ∧ cG 2 N1) (d : N1.1 20 0 4 = N2.1 37 0 8 ∧ N1.1 20 0 5 = N2.1 37 0 7) (k : (N1.1 0 0 5 = 0 ∧ N2.1 36 0 3 = 0) ∨ (N1.1 0 0 5 = 1 ∧ N2.1 36 0 3 = 1 ∧ ∃ e, cB 2 N1 e ∧ rB 38 N2 e ∧ N1.1 4 2 4 = N2.1 38 0 0)) : RX N2 := by
  have e : ∀ k i j, k < 36 → N2.1 k i j = N1.1 k i j := fun k i j hk => (h2.2.2.1 k i j (Or.inl hk)).1
  refine ⟨fun j => (e 2 0 j (by decide)).trans (a j), ?_, ⟨cG_fr c.1 (fun q j _ hq => e q 1 j (by omega)), cG_fr c.2 (fun q j _ hq => e q 2 j (by omega))⟩, ⟨(e 20 0 4 (by decide)).trans d.1, (e 20 0 5 (by decide)).trans d.2⟩, ?_⟩
  · obtain ⟨x, x1, x2, x3⟩ := b
    exact ⟨x, cB_fr x1 (fun q j _ h _ => e q 0 j (by omega)), x2, (e 4 0 4 (by decide)).trans x3⟩
  · rcases k with ⟨k1, k2⟩ | ⟨k1, k2, x, x1, x2, x3⟩
    · exact Or.inl ⟨(e 0 0 5 (by decide)).trans k1, k2⟩
    · exact Or.inr ⟨(e 0 0 5 (by decide)).trans k1, k2, x, cB_fr x1 (fun q j _ h _ => e q 2 j (by omega)), x2, (e 4 2 4 (by decide)).trans x3⟩
/-- what is left stays alike -/
theorem RX_a {t : Nat} {M N1 N2 : aM} (hr : RX M) (h1 : cPost t M N1) (c : ∀ j, N1.1 2 0 j = M.1 2 0 j) (m : ∀ j, N2.1 40 0 j = N1.1 40 0 j) : ∀ j, N1.1 2 0 j = N2.1 40 0 j := fun j => (c j).trans ((hr.1 j).trans ((R_f h1 40 j (by decide) (by decide)).symm.trans (m j).symm))
theorem RX_b {t : Nat} {M N1 N2 : aM} (hr : RX M) (h1 : cPost t M N1) (c : cBd M N1) (m : mB N1 N2) : ∃ e, cB 0 N1 e ∧ rB 37 N2 e ∧ N1.1 4 0 4 = N2.1 37 0 0 := by
  obtain ⟨e, e1, e2, e3⟩ := hr.2.1
  exact ⟨_, cB_l e1 (fun q j a b z _ => c q 0 j a b z), rB_l (rB_fr e2 (fun j a b z1 z2 => (m j b z1 z2).trans (R_f h1 37 j (by decide) (by decide)))) _, (c 4 0 4 (by decide) (by decide) (by decide)).trans (e3.trans ((R_f h1 37 0 (by decide) (by decide)).symm.trans (m 0 (by decide) (by decide) (by decide)).symm))⟩
theorem RX_c {M N1 : aM} (hr : RX M) (c : cBd M N1) : cG 1 N1 ∧ cG 2 N1 := ⟨cG_fr hr.2.2.1.1 (fun q j a b => c q 1 j (by omega) (by omega) (by omega)), cG_fr hr.2.2.1.2 (fun q j a b => c q 2 j (by omega) (by omega) (by omega))⟩
theorem RX_d {t : Nat} {M N1 N2 : aM} (hr : RX M) (h1 : cPost t M N1) (c4 : N1.1 20 0 4 = M.1 20 0 4) (c5 : N1.1 20 0 5 = M.1 20 0 5) (m8 : N2.1 37 0 8 = N1.1 37 0 8) (m7 : N2.1 37 0 7 = N1.1 37 0 7) : N1.1 20 0 4 = N2.1 37 0 8 ∧ N1.1 20 0 5 = N2.1 37 0 7 := ⟨c4.trans (hr.2.2.2.1.1.trans ((R_f h1 37 8 (by decide) (by decide)).symm.trans m8.symm)), c5.trans (hr.2.2.2.1.2.trans ((R_f h1 37 7 (by decide) (by decide)).symm.trans m7.symm))⟩
theorem RX_k {t : Nat} {M N1 N2 : aM} (hr : RX M) (h1 : cPost t M N1) (c : cBd M N1) (c5 : N1.1 0 0 5 = M.1 0 0 5) (m3 : N2.1 36 0 3 = N1.1 36 0 3) (m : ∀ j, N2.1 38 0 j = N1.1 38 0 j) : (N1.1 0 0 5 = 0 ∧ N2.1 36 0 3 = 0) ∨ (N1.1 0 0 5 = 1 ∧ N2.1 36 0 3 = 1 ∧ ∃ e, cB 2 N1 e ∧ rB 38 N2 e ∧ N1.1 4 2 4 = N2.1 38 0 0) := by
  have f3 : N2.1 36 0 3 = M.1 36 0 3 := m3.trans (R_f h1 36 3 (by decide) (by decide))
  rcases hr.2.2.2.2 with ⟨k1, k2⟩ | ⟨k1, k2, e, e1, e2, e3⟩
  · exact Or.inl ⟨c5.trans k1, f3.trans k2⟩
  · exact Or.inr ⟨c5.trans k1, f3.trans k2, _, cB_l e1 (fun q j a b z _ => c q 2 j a b z), rB_l (rB_fr e2 (fun j _ _ _ _ => (m j).trans (R_f h1 38 j (by decide) (by decide)))) _, (c 4 2 4 (by decide) (by decide) (by decide)).trans (e3.trans ((R_f h1 38 0 (by decide) (by decide)).symm.trans (m 0).symm))⟩
theorem RX_hist {t t2 : Nat} {M N1 N2 : aM} (hr : RX M) (h1 : cPost t M N1) (c : cHs M N1) (h2 : mPost t2 N1 N2) (m : mHs N1 N2) (d : N1.1 20 0 4 = N2.1 37 0 8 ∧ N1.1 20 0 5 = N2.1 37 0 7) : RX N2 := RX_mk h2 (RX_a hr h1 c.1 m.1) (RX_b hr h1 c.2.1 m.2.1) (RX_c hr c.2.1) d (RX_k hr h1 c.2.1 c.2.2 m.2.2.1 m.2.2.2)
theorem RX_same {t t2 : Nat} {M N1 N2 : aM} (hr : RX M) (h1 : cPost t M N1) (c : cSm M N1) (h2 : mPost t2 N1 N2) (m : mSm N1 N2) : RX N2 := RX_hist hr h1 c.1 h2 m.1 (RX_d hr h1 c.2.1 c.2.2.1 m.2.1 m.2.2.1)
/-- counts of changes of both sides, as whole numbers -/
theorem RX_n {M : aM} (hr : RX M) (hi : iM M) (hT : z_MT (zTb, [], []) M) : ∃ n k : Nat, n ≤ k ∧ k ≤ 20 ∧ M.1 20 0 4 = Int32.ofNat n ∧ M.1 20 0 5 = Int32.ofNat k ∧ M.1 37 0 8 = Int32.ofNat n ∧ M.1 37 0 7 = Int32.ofNat k := by
  obtain ⟨d, d1, d2, d3⟩ := hi.2.1
  have h7 : z_b (M.1 37 0 7) ≤ 2147483668 := (h_TR (T := zTb) (k := 37) (i := 0) (j := 7) hT).2
  have e8 : M.1 37 0 8 = Int32.ofNat d := z_b_inj (d2.trans (z_b_ofNat (by omega)).symm)
  have e7 : M.1 37 0 7 = Int32.ofNat (z_b (M.1 37 0 7) - 2147483648) := z_b_inj (by rw [z_b_ofNat (by omega)]; omega)
  exact ⟨d, _, by omega, by omega, hr.2.2.2.1.1.trans e8, hr.2.2.2.1.2.trans e7, e8, e7⟩
