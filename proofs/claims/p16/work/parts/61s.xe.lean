/-- weights alike on kins; holes on the board -/
def kW (e : xB) : Prop := ∀ a b, a < e.1.2 → b < e.1.2 → kn e.1.1 e.1.2 a = kn e.1.1 e.1.2 b → e.2.2.1 a = e.2.2.1 b
def hW (e : xB) : Prop := e.2.1.1 ≤ 3 ∧ ∀ j, j < 16 → e.2.2.2.1 j = 1 → j % 4 < e.2.1.1 ∧ j / 4 < e.2.1.2.1
def xE (e : xB) : Prop := kW e ∧ hW e
theorem xE_group {r : Nat → Int32} {n p q : Nat} {e e' : xB} (hx : xE e) (h : s_group r n e p = some (e', q)) : xE e' := by
  unfold s_group at h
  split at h
  · cases h
  · split at h
    · have e9 := (Prod.mk.inj (Option.some.inj h)).1
      subst e9
      exact ⟨fun _ _ _ _ _ => rfl, hx.2⟩
    · cases h
theorem xE_size {r : Nat → Int32} {n p q : Nat} {e e' : xB} (hp : p ≤ n) (hx : xE e) (h : s_size r n e p = some (e', q)) : xE e' := by
  unfold s_size at h
  split at h
  · cases h
  · rename_i a b s hs
    have e9 := (Prod.mk.inj (Option.some.inj h)).1
    subst e9
    obtain ⟨h1, h2, -⟩ := t_two_ok hs hp
    exact ⟨hx.1, (xn_le (m := 3) (by decide) (Int32.le_trans (show (0 : Int32) ≤ 1 by decide) h1) h2).2, fun j _ z => absurd z (show ¬ (0 : Int32) = 1 by decide)⟩
theorem xE_shape {r : Nat → Int32} {n p q : Nat} {e e' : xB} (hx : xE e) (h : s_shape r n e p = some (e', q)) : xE e' := by
  unfold s_shape at h
  split at h
  · cases h
  · have e9 := (Prod.mk.inj (Option.some.inj h)).1
    subst e9
    exact ⟨hx.1, hx.2.1, fun j _ z => absurd z (show ¬ (0 : Int32) = 1 by decide)⟩
theorem xE_weight {r : Nat → Int32} {n p q : Nat} {e e' : xB} (hx : xE e) (h : s_weight r n e p = some (e', q)) : xE e' := by
  unfold s_weight at h
  split at h
  · cases h
  · have e9 := (Prod.mk.inj (Option.some.inj h)).1
    subst e9
    refine ⟨fun a b ha hb hab => ?_, hx.2⟩
    show kset e.1.1 e.1.2 _ _ e.2.2.1 a = kset e.1.1 e.1.2 _ _ e.2.2.1 b
    unfold kset
    rw [x_blt ha, x_blt hb, hab, hx.1 a b ha hb hab]
theorem xE_hole {r : Nat → Int32} {n p q : Nat} {e e' : xB} (hx : xE e) (h : s_hole r n e p = some (e', q)) : xE e' := by
  unfold s_hole at h
  split at h
  · cases h
  · rename_i a b s hs
    split at h
    · rename_i hab
      have e9 := (Prod.mk.inj (Option.some.inj h)).1
      subst e9
      refine ⟨hx.1, hx.2.1, fun j hj z => ?_⟩
      have w3 := hx.2.1
      by_cases hq : j = xn b * 4 + xn a
      · exact ⟨by show j % 4 < e.2.1.1; omega, by show j / 4 < e.2.1.2.1; omega⟩
      · have z : (bif Nat.beq j (xn b * 4 + xn a) then 1 else e.2.2.2.1 j) = 1 := z
        rw [x_nbeq hq, cond_false] at z
        exact hx.2.2 j hj z
    · cases h
theorem xE_line {z : Nat} {r : Nat → Int32} {n p q : Nat} {e e' : xB} (hx : xE e) (h : s_line z r n e p = some (e', q)) : xE e' := by
  unfold s_line at h
  split at h
  · cases h
  · split at h
    · split at h
      · cases h
      · have e9 := (Prod.mk.inj (Option.some.inj h)).1
        subst e9
        exact hx
    · cases h
theorem xE_part {r : Nat → Int32} {n p q : Nat} {e e' : xB} (hp : p ≤ n) (hx : xE e) (h : t_part r n e p = some (e', q)) : xE e' := by
  have hp2 : t_go (t_az r) n (t_sk r n p) ≤ n := t_go_le (t_go_le hp)
  unfold t_part at h
  split at h
  · exact xE_group hx h
  · split at h
    · exact xE_size hp2 hx h
    · split at h
      · exact xE_shape hx h
      · split at h
        · exact xE_weight hx h
        · split at h
          · exact xE_hole hx h
          · split at h
            · exact xE_line hx h
            · split at h
              · exact xE_line hx h
              · cases h
theorem xE_text {r : Nat → Int32} {n : Nat} {e' : xB} : ∀ (k : Nat) (e : xB) (p : Nat), p ≤ n → xE e → t_text r n k e p = some e' → xE e'
  | 0, _, _, _, _, h => by cases h
  | k + 1, e, p, hp, hx, h => by
    unfold t_text at h
    split at h
    · cases h
    · rename_i e2 q hq
      have hx2 := xE_part hp hx hq
      split at h
      · rename_i hs
        have hs : (Nat.blt (t_sk r n q) n && decide (r (t_sk r n q) = 59)) = true := hs
        rw [Bool.and_eq_true] at hs
        exact xE_text k e2 _ (Nat.le_of_ble_eq_true hs.1) hx2 h
      · split at h
        · cases h
        · have e9 := Option.some.inj h
          subst e9
          exact hx2
theorem xE_read {r : Nat → Int32} {n : Nat} {e e' : xB} (hx : xE e) (h : t_read r n e = some e') : xE e' := by
  unfold t_read at h
  split at h
  · rename_i hq
    exact xE_text 12 e _ (Nat.le_of_lt hq) hx h
  · have e9 := Option.some.inj h
    subst e9
    exact hx
/-- the same, of what stands in a board of the class -/
def XEm (i : Nat) (M : aM) : Prop := ∀ e, cB i M e → xE e
theorem cB_u {i : Nat} {M : aM} {e e2 : xB} (h : cB i M e) (h2 : cB i M e2) : e.1 = e2.1 ∧ e.2.1 = e2.2.1 ∧ (∀ t, t < 8 → e.2.2.1 t = e2.2.2.1 t) ∧ ∀ j, j < 16 → e.2.2.2.1 j = e2.2.2.2.1 j := by
  obtain ⟨o2, o8, k3⟩ := gP_o h.1.1.1
  obtain ⟨o2', o8', k3'⟩ := gP_o h2.1.1.1
  obtain ⟨-, -, -, hS, w1, w3, h1, h3, s2⟩ := cB_h h
  obtain ⟨-, -, -, hS', w1', w3', h1', h3', s2'⟩ := cB_h h2
  have a1 := x_inj (by omega) (by omega) (h.1.1.2.1.symm.trans h2.1.1.2.1)
  have a2 := x_inj (by omega) (by omega) (h.1.1.2.2.symm.trans h2.1.1.2.2)
  have b1 := x_inj (by omega) (by omega) (hS.1.symm.trans hS'.1)
  have b2 := x_inj (by omega) (by omega) (hS.2.1.symm.trans hS'.2.1)
  have b3 := x_inj (by omega) (by omega) (hS.2.2.1.symm.trans hS'.2.2.1)
  exact ⟨Prod.ext a1 a2, Prod.ext b1 (Prod.ext b2 b3), fun t ht => (h.2.2.2.1 t ht).symm.trans (h2.2.2.2.1 t ht), fun j hj => (h.2.2.2.2.1 j hj).symm.trans (h2.2.2.2.2.1 j hj)⟩
theorem XEm_of {i : Nat} {M : aM} {e : xB} (h : cB i M e) (hx : xE e) : XEm i M := by
  intro e2 h2
  obtain ⟨q1, q2, q3, q4⟩ := cB_u h h2
  have o8 : e2.1.2 ≤ 8 := (cB_h h2).2.2.1
  refine ⟨fun a b ha hb hab => ?_, by rw [← q2]; exact hx.2.1, fun j hj z => ?_⟩
  · rw [← q3 a (by omega), ← q3 b (by omega)]
    rw [← q1] at ha hb hab
    exact hx.1 a b ha hb hab
  · rw [← q4 j hj] at z
    rw [← q2]
    exact hx.2.2 j hj z
theorem XEm_fr {i : Nat} {M M' : aM} (h : XEm i M) (hc : ∀ q j, 4 ≤ q → q ≤ 14 → q ≠ 12 → (q = 4 → j ≠ 4) → M'.1 q i j = M.1 q i j) : XEm i M' := fun e he => h (e.1, e.2.1, e.2.2.1, e.2.2.2.1, M.1 12 i) (cB_l he (fun q j a b c d => (hc q j a b c d).symm))
