theorem hc0 {w s : Nat} (w1 : 1 ≤ w) : 1 ≤ xcols w s := by
  unfold xcols
  cases Nat.ble 1 s with
  | true => exact w1
  | false => exact Nat.le_add_left 1 w
theorem hr0 {h s : Nat} (h1 : 1 ≤ h) : 1 ≤ xrows h s := by
  unfold xrows
  cases Nat.ble 2 s with
  | true => exact h1
  | false => exact Nat.le_add_left 1 h
theorem xcx_w {w s x : Nat} (hx : x ≤ w) : xcx w s x ≤ w := by
  unfold xcx
  cases Nat.beq x (xcols w s) with
  | true => exact Nat.zero_le _
  | false => exact hx
theorem xcy_h {h s y : Nat} (hy : y ≤ h) : xcy h s y ≤ h := by
  unfold xcy
  cases Nat.beq y (xrows h s) with
  | true => exact Nat.zero_le _
  | false => exact hy
theorem xcx_i {w s x : Nat} (w1 : 1 ≤ w) : xcx w s (xcx w s x) = xcx w s x := by
  unfold xcx
  cases h : Nat.beq x (xcols w s) with
  | true =>
    rw [cond_true, x_nbeq (show ¬ 0 = xcols w s from fun z => by have := hc0 (w := w) (s := s) w1; omega)]
    rfl
  | false =>
    rw [cond_false, h]
    rfl
theorem xcy_i {h s y : Nat} (h1 : 1 ≤ h) : xcy h s (xcy h s y) = xcy h s y := by
  unfold xcy
  cases z : Nat.beq y (xrows h s) with
  | true =>
    rw [cond_true, x_nbeq (show ¬ 0 = xrows h s from fun z => by have := hr0 (h := h) (s := s) h1; omega)]
    rfl
  | false =>
    rw [cond_false, z]
    rfl
theorem rco_xco {w h s a b c d : Nat} (w1 : 1 ≤ w) (w3 : w ≤ 3) (h1 : 1 ≤ h) (h3 : h ≤ 3) (s2 : s ≤ 2) (ha : a ≤ w) (hb : b ≤ h) (hc : c ≤ w) (hd : d ≤ h) : Nat.beq (rco w h s a b) (rco w h s c d) = Nat.beq (xco w h s a b) (xco w h s c d) := by
  have h := b_imp (b_imp (b_imp (b_imp (bal_ok (bal_ok (bal_ok (bal_ok (sz_all (P := fun w h s => bal 4 (fun a => bal 4 (fun b => bal 4 (fun c => bal 4 (fun d => !(Nat.ble a w) || (!(Nat.ble b h) || (!(Nat.ble c w) || (!(Nat.ble d h) || beqB (Nat.beq (rco w h s a b) (rco w h s c d)) (Nat.beq (xco w h s a b) (xco w h s c d))))))))) ) (by decide +kernel) w1 w3 h1 h3 s2) (show a < 4 by omega)) (show b < 4 by omega)) (show c < 4 by omega)) (show d < 4 by omega)) (Nat.ble_eq_true_of_le ha)) (Nat.ble_eq_true_of_le hb)) (Nat.ble_eq_true_of_le hc)) (Nat.ble_eq_true_of_le hd)
  exact beqB_e h
/-- what walk answers -/
def wan (e : xB) (c : Nat × Nat) (u : xW) (q : Nat) : Int32 := if q = 0 then Int32.ofNat u.2.1 else if q = 1 then (if Nat.beq (xco e.2.1.1 e.2.1.2.1 e.2.1.2.2 u.1.1 u.1.2) (xco e.2.1.1 e.2.1.2.1 e.2.1.2.2 c.1 c.2) = true then 1 else 0) else Int32.ofNat u.2.2.length
def okQ (a : Int32) : Prop := ∃ q, q ≤ 2 ∧ a = Int32.ofNat q
theorem okQ_i {a : Int32} (h : 0 ≤ a ∧ a ≤ 2) : okQ a := by
  obtain ⟨n, hn, rfl⟩ := hI_of h.1
  exact ⟨n, (hI_le (b := 2) hn (by decide)).mp h.2, rfl⟩
theorem okQ_n {a : Int32} (h : ¬ (0 ≤ a ∧ a ≤ 2)) : ¬ okQ a := fun z => by
  obtain ⟨q, hq, rfl⟩ := z
  exact h ⟨(hI_le (a := 0) (by decide) (by omega)).mpr (Nat.zero_le _), (hI_le (b := 2) (by omega) (by decide)).mpr hq⟩
theorem b_comesTo {nS d : Nat} {M : aM} : aC nS (d + 1) 144 [vR 17 0] M (fun v M' => v = some (vI (M.1 17 0 6)) ∧ M = M') (fun _ _ => False) := by
  refine aC_mk rfl rfl ?_
  intro K hK _
  exact hK _ _ _ _ (hK _ _ _ _ (hK _ _ _ _ (⟨rfl, rfl⟩)))
theorem b_length {nS d : Nat} {M : aM} : aC nS (d + 1) 145 [vR 17 0] M (fun v M' => v = some (vI (M.1 17 0 5)) ∧ M = M') (fun _ _ => False) := by
  refine aC_mk rfl rfl ?_
  intro K hK _
  exact hK _ _ _ _ (hK _ _ _ _ (hK _ _ _ _ (⟨rfl, rfl⟩)))
theorem b_closedW {nS d : Nat} {M : aM} {e : xB} {u : xW} {c : Nat × Nat} (hB : cB 0 M e) (hs : WKs M e u) (ho : xWo e u) (hc : M.1 17 0 2 = Int32.ofNat (xco e.2.1.1 e.2.1.2.1 e.2.1.2.2 c.1 c.2)) (c1 : c.1 ≤ e.2.1.1) (c2 : c.2 ≤ e.2.1.2.1) : aC nS (d + 2) 146 [vR 17 0] M (fun v M' => v = some (vI (if Nat.beq (xco e.2.1.1 e.2.1.2.1 e.2.1.2.2 u.1.1 u.1.2) (xco e.2.1.1 e.2.1.2.1 e.2.1.2.2 c.1 c.2) = true then 1 else 0)) ∧ M = M') (fun _ _ => False) := by
  obtain ⟨hor, o2, o8, hS, w1, w3, h1, h3, s2⟩ := cB_h hB
  have x3 := xcx_3 (s := e.2.1.2.2) w3 ho.1
  have y3 := xcy_3 (s := e.2.1.2.2) h3 ho.2.1
  have b1 : ∀ a b, a ≤ 3 → b ≤ 3 → xco e.2.1.1 e.2.1.2.1 e.2.1.2.2 a b < 16 := fun a b ha hb => by
    have p1 : xcx e.2.1.1 e.2.1.2.2 a ≤ 3 := by
      unfold xcx
      cases Nat.beq a (xcols e.2.1.1 e.2.1.2.2) with
      | true => exact Nat.zero_le _
      | false => exact ha
    have p2 : xcy e.2.1.2.1 e.2.1.2.2 b ≤ 3 := by
      unfold xcy
      cases Nat.beq b (xrows e.2.1.2.1 e.2.1.2.2) with
      | true => exact Nat.zero_le _
      | false => exact hb
    show xcy e.2.1.2.1 e.2.1.2.2 b * 4 + xcx e.2.1.1 e.2.1.2.2 a < 16
    omega
  have b2 := b1 u.1.1 u.1.2 (Nat.le_trans ho.1 w3) (Nat.le_trans ho.2.1 h3)
  have b3 := b1 c.1 c.2 (Nat.le_trans c1 w3) (Nat.le_trans c2 h3)
  have ei : xco e.2.1.1 e.2.1.2.1 e.2.1.2.2 (xcx e.2.1.1 e.2.1.2.2 u.1.1) (xcy e.2.1.2.1 e.2.1.2.2 u.1.2) = xco e.2.1.1 e.2.1.2.1 e.2.1.2.2 u.1.1 u.1.2 := by
    show xcy e.2.1.2.1 e.2.1.2.2 (xcy e.2.1.2.1 e.2.1.2.2 u.1.2) * 4 + xcx e.2.1.1 e.2.1.2.2 (xcx e.2.1.1 e.2.1.2.2 u.1.1) = _
    rw [xcx_i w1, xcy_i h1]
    rfl
  refine aC_mk rfl rfl ?_
  intro K hK _
  refine hK _ _ _ _ (hK _ _ _ _ (hK _ _ _ _ (hK _ _ _ _ (hK _ _ _ _ (hK _ _ _ _ (hK _ _ _ _ (⟨_, b_corner (d := d) hS w1 w3 h1 h3 (show xcx e.2.1.1 e.2.1.2.2 u.1.1 ≤ e.2.1.1 from xcx_w ho.1) (show xcy e.2.1.2.1 e.2.1.2.2 u.1.2 ≤ e.2.1.2.1 from xcy_h ho.2.1) hs.1 hs.2.1, rfl, fun v12 M12 g12 => ?_⟩)))))))
  obtain ⟨rfl, rfl⟩ := g12
  rw [ei]
  refine hK _ _ _ _ (hK _ _ _ _ (hK _ _ _ _ (⟨fun h9 => ?_, fun h9 => ?_⟩)))
  · rw [hc] at h9
    have n9 : ¬ Nat.beq (xco e.2.1.1 e.2.1.2.1 e.2.1.2.2 u.1.1 u.1.2) (xco e.2.1.1 e.2.1.2.1 e.2.1.2.2 c.1 c.2) = true := fun z => h9 (by rw [Nat.eq_of_beq_eq_true z])
    exact hK _ _ _ _ (hK _ _ _ _ (⟨Or.inl rfl, (show some (vI 0) = some (vI (if Nat.beq (xco e.2.1.1 e.2.1.2.1 e.2.1.2.2 u.1.1 u.1.2) (xco e.2.1.1 e.2.1.2.1 e.2.1.2.2 c.1 c.2) = true then 1 else 0)) from by rw [if_neg n9]), rfl⟩))
  · rw [hc] at h9
    have n9 : Nat.beq (xco e.2.1.1 e.2.1.2.1 e.2.1.2.2 u.1.1 u.1.2) (xco e.2.1.1 e.2.1.2.1 e.2.1.2.2 c.1 c.2) = true := x_beq (x_inj (by omega) (by omega) h9)
    exact hK _ _ _ _ (hK _ _ _ _ (hK _ _ _ _ (⟨Or.inr rfl, (show some (vI 1) = some (vI (if Nat.beq (xco e.2.1.1 e.2.1.2.1 e.2.1.2.2 u.1.1 u.1.2) (xco e.2.1.1 e.2.1.2.1 e.2.1.2.2 c.1 c.2) = true then 1 else 0)) from by rw [if_pos n9]), rfl⟩)))
theorem r_closedW {nS d : Nat} {M : aM} {e : xB} {u : xW} {c : Nat × Nat} (hB : rB 37 M e) (hs : RWs M u) (ho : xWo e u) (ha : M.1 36 0 11 = Int32.ofNat c.1) (hb : M.1 36 0 12 = Int32.ofNat c.2) (c1 : c.1 ≤ e.2.1.1) (c2 : c.2 ≤ e.2.1.2.1) : aC nS (d + 3) 226 [vR 36 0] M (fun v M' => v = some (vI (if Nat.beq (xco e.2.1.1 e.2.1.2.1 e.2.1.2.2 u.1.1 u.1.2) (xco e.2.1.1 e.2.1.2.1 e.2.1.2.2 c.1 c.2) = true then 1 else 0)) ∧ M = M') (fun _ _ => False) := by
  obtain ⟨hor, o2, o8, hS, w1, w3, h1, h3, s2⟩ := rB_h hB
  have x3 := ho.1
  have y3 := ho.2.1
  have rl : ∀ a b, a ≤ e.2.1.1 → b ≤ e.2.1.2.1 → rco e.2.1.1 e.2.1.2.1 e.2.1.2.2 a b < 16 := fun a b ha hb => Nat.le_of_ble_eq_true (b_imp (b_imp (bal_ok (bal_ok (sz_all (P := fun w h s => bal 4 (fun a => bal 4 (fun b => !(Nat.ble a w) || (!(Nat.ble b h) || Nat.blt (rco w h s a b) 16)))) (by decide +kernel) w1 w3 h1 h3 s2) (show a < 4 by omega)) (show b < 4 by omega)) (Nat.ble_eq_true_of_le ha)) (Nat.ble_eq_true_of_le hb))
  have b2 := rl u.1.1 u.1.2 x3 y3
  have b3 := rl c.1 c.2 c1 c2
  rw [← rco_xco w1 w3 h1 h3 s2 x3 y3 c1 c2]
  refine aC_mk rfl rfl ?_
  intro K hK _
  refine hK _ _ _ _ (hK _ _ _ _ (hK _ _ _ _ (hK _ _ _ _ (hK _ _ _ _ (hK _ _ _ _ (⟨_, r_cornerOf (d := d) hS w1 w3 h1 h3 s2 hs.1 hs.2.1 (by omega) (by omega), rfl, fun v9 M9 g9 => ?_⟩))))))
  obtain ⟨rfl, rfl⟩ := g9
  refine hK _ _ _ _ (hK _ _ _ _ (hK _ _ _ _ (hK _ _ _ _ (hK _ _ _ _ (hK _ _ _ _ (⟨_, r_cornerOf (d := d) hS w1 w3 h1 h3 s2 ha hb (by omega) (by omega), rfl, fun v21 M21 g21 => ?_⟩))))))
  obtain ⟨rfl, rfl⟩ := g21
  refine hK _ _ _ _ (⟨fun h9 => ?_, fun h9 => ?_⟩)
  · have n9 : ¬ Nat.beq (rco e.2.1.1 e.2.1.2.1 e.2.1.2.2 u.1.1 u.1.2) (rco e.2.1.1 e.2.1.2.1 e.2.1.2.2 c.1 c.2) = true := fun z => h9 (by rw [Nat.eq_of_beq_eq_true z])
    exact hK _ _ _ _ (hK _ _ _ _ (⟨Or.inl rfl, (show some (vI 0) = some (vI (if Nat.beq (rco e.2.1.1 e.2.1.2.1 e.2.1.2.2 u.1.1 u.1.2) (rco e.2.1.1 e.2.1.2.1 e.2.1.2.2 c.1 c.2) = true then 1 else 0)) from by rw [if_neg n9]), rfl⟩))
  · have n9 : Nat.beq (rco e.2.1.1 e.2.1.2.1 e.2.1.2.2 u.1.1 u.1.2) (rco e.2.1.1 e.2.1.2.1 e.2.1.2.2 c.1 c.2) = true := x_beq (x_inj (by omega) (by omega) h9)
    exact hK _ _ _ _ (hK _ _ _ _ (hK _ _ _ _ (⟨Or.inr rfl, (show some (vI 1) = some (vI (if Nat.beq (rco e.2.1.1 e.2.1.2.1 e.2.1.2.2 u.1.1 u.1.2) (rco e.2.1.1 e.2.1.2.1 e.2.1.2.2 c.1 c.2) = true then 1 else 0)) from by rw [if_pos n9]), rfl⟩)))
theorem c_walkX {nS n : Nat} {M : aM} {a1 : Int32} {e : xB} (hn : M.1 1 0 1 = Int32.ofNat n) (h4 : n ≤ 400) (hB : cB 0 M e) (hO : lO e.2.1.1 e.2.1.2.1 e.2.1.2.2 e.1.2 e.2.2.2.2) : aC nS 60 162 [vR 0 0, vI a1] M (fun v M' => M'.1 1 0 1 = 0 ∧ ∃ c u q, w_read (M.1 2 0) n e = some (c, u) ∧ q ≤ 2 ∧ a1 = Int32.ofNat q ∧ v = some (vI (wan e c u q))) (fun x M' => M'.1 1 0 1 = 0 ∧ ((x = 0 ∧ w_read (M.1 2 0) n e = none) ∨ (x = 3 ∧ (∃ c u, w_read (M.1 2 0) n e = some (c, u)) ∧ ¬ okQ a1))) := by
  refine aC_mk rfl rfl ?_
  intro K hK _
  refine hK _ _ _ _ (hK _ _ _ _ (hK _ _ _ _ (⟨_, b_readW (d := 48) hn h4 hB hO (J := fun _ _ _ => True) (fun _ => JOK_t), rfl, fun v4 M4 g4 => ?_⟩)))
  obtain ⟨f4, g4⟩ := g4
  have B4 := cB_v f4 hB
  rcases g4 with ⟨c, u, r1, rfl, c1, c2, z2, hs, ho, -⟩ | ⟨r1, rfl⟩
  · refine hK _ _ _ _ (hK _ _ _ _ (hK _ _ _ _ (hK _ _ _ _ (⟨_, t_clear (d := 58), rfl, fun v12 M12 g12 => ?_⟩))))
    obtain ⟨rfl, rfl⟩ := g12
    refine hK _ _ _ _ (hK _ _ _ _ (⟨fun _ => ?_, fun q => (by first | exact absurd q (by decide) | exact absurd rfl q | exact absurd (by decide) q)⟩))
    refine hK _ _ _ _ (hK _ _ _ _ (⟨⟨fun q => ?_, fun q => ?_, fun q => ?_, trivial⟩, fun q => ?_⟩))
    · subst q
      refine hK _ _ _ _ (hK _ _ _ _ (hK _ _ _ _ (⟨_, b_comesTo (d := 58), rfl, fun v60 M60 g60 => ?_⟩)))
      obtain ⟨rfl, rfl⟩ := g60
      exact hK _ _ _ _ (⟨x_pe, c, u, 0, r1, by decide, rfl, (show some (vI (M4.1 17 0 6)) = some (vI (Int32.ofNat u.2.1)) from by rw [hs.2.2.1])⟩)
    · subst q
      refine hK _ _ _ _ (hK _ _ _ _ (hK _ _ _ _ (⟨_, b_closedW (d := 57) (M := a_pI M4 1 0 1 0) (u := u) (c := c) (cB_fr B4 (fun q j h1 h2 _ => x_pn (fun z => absurd z.1 (by omega)))) hs ho z2 c1 c2, rfl, fun v68 M68 g68 => ?_⟩)))
      obtain ⟨rfl, rfl⟩ := g68
      by_cases hz : Nat.beq (xco e.2.1.1 e.2.1.2.1 e.2.1.2.2 u.1.1 u.1.2) (xco e.2.1.1 e.2.1.2.1 e.2.1.2.2 c.1 c.2) = true
      · rw [if_pos hz]
        refine hK _ _ _ _ (⟨fun q => (by first | exact absurd q (by decide) | exact absurd rfl q | exact absurd (by decide) q), fun _ => ?_⟩)
        exact hK _ _ _ _ (hK _ _ _ _ (hK _ _ _ _ (⟨x_pe, c, u, 1, r1, by decide, rfl, (show some (vI 1) = some (vI (if Nat.beq (xco e.2.1.1 e.2.1.2.1 e.2.1.2.2 u.1.1 u.1.2) (xco e.2.1.1 e.2.1.2.1 e.2.1.2.2 c.1 c.2) = true then 1 else 0)) from by rw [if_pos hz])⟩)))
      · rw [if_neg hz]
        refine hK _ _ _ _ (⟨fun _ => ?_, fun q => (by first | exact absurd q (by decide) | exact absurd rfl q | exact absurd (by decide) q)⟩)
        exact hK _ _ _ _ (hK _ _ _ _ (⟨x_pe, c, u, 1, r1, by decide, rfl, (show some (vI 0) = some (vI (if Nat.beq (xco e.2.1.1 e.2.1.2.1 e.2.1.2.2 u.1.1 u.1.2) (xco e.2.1.1 e.2.1.2.1 e.2.1.2.2 c.1 c.2) = true then 1 else 0)) from by rw [if_neg hz])⟩))
    · subst q
      refine hK _ _ _ _ (hK _ _ _ _ (hK _ _ _ _ (⟨_, b_length (d := 58), rfl, fun v84 M84 g84 => ?_⟩)))
      obtain ⟨rfl, rfl⟩ := g84
      exact hK _ _ _ _ (⟨x_pe, c, u, 2, r1, by decide, rfl, (show some (vI (M4.1 17 0 5)) = some (vI (Int32.ofNat u.2.2.length)) from by rw [hs.2.2.2])⟩)
    · exact hK _ _ _ _ (⟨rfl, x_pe, Or.inr ⟨rfl, ⟨c, u, r1⟩, fun z => by
      obtain ⟨q2, hq, e9⟩ := z
      exact q q2 (show q2 < 3 by omega) e9⟩⟩)
  · refine hK _ _ _ _ (hK _ _ _ _ (hK _ _ _ _ (hK _ _ _ _ (⟨_, t_clear (d := 58), rfl, fun v12 M12 g12 => ?_⟩))))
    obtain ⟨rfl, rfl⟩ := g12
    refine hK _ _ _ _ (hK _ _ _ _ (⟨fun q => (by first | exact absurd q (by decide) | exact absurd rfl q | exact absurd (by decide) q), fun _ => ?_⟩))
    exact hK _ _ _ _ (⟨rfl, x_pe, Or.inl ⟨rfl, r1⟩⟩)
theorem r_walkX {nS n : Nat} {M : aM} {a1 : Int32} {e : xB} (hn : M.1 36 0 6 = Int32.ofNat n) (h4 : n ≤ 400) (hB : rB 37 M e) (hL : LL 37 M e) : aC nS 60 227 [vR 36 0, vI a1] M (fun v M' => (w_read (M.1 40 0) n e = none ∧ v = some (vI 0) ∧ M'.1 36 0 0 = 1) ∨ ((∃ c u, w_read (M.1 40 0) n e = some (c, u)) ∧ ¬ okQ a1 ∧ v = some (vI 0) ∧ M'.1 36 0 0 = 2) ∨ (∃ c u q, w_read (M.1 40 0) n e = some (c, u) ∧ q ≤ 2 ∧ a1 = Int32.ofNat q ∧ v = some (vI (wan e c u q)) ∧ M'.1 36 0 0 = 0)) (fun _ _ => False) := by
  refine aC_mk rfl rfl ?_
  intro K hK _
  have thr : ∀ (M2 : aM) (z : Int32), ¬ z ≤ 0 → ((fun v M' => (w_read (M.1 40 0) n e = none ∧ v = some (vI 0) ∧ M'.1 36 0 0 = 1) ∨ ((∃ c u, w_read (M.1 40 0) n e = some (c, u)) ∧ ¬ okQ a1 ∧ v = some (vI 0) ∧ M'.1 36 0 0 = 2) ∨ (∃ c u q, w_read (M.1 40 0) n e = some (c, u) ∧ q ≤ 2 ∧ a1 = Int32.ofNat q ∧ v = some (vI (wan e c u q)) ∧ M'.1 36 0 0 = 0) : Option aV → aM → Prop) (some (vI 0)) (a_pI M2 36 0 0 z)) → K 31 [some (vR 36 0), some (vI a1)] [vI z, vR 36 0] M2 := by
    intro M2 z hz hp
    refine hK _ _ _ _ (hK _ _ _ _ (hK _ _ _ _ (hK _ _ _ _ (⟨fun h9 => ?_, fun h9 => ?_⟩))))
    · rw [x_pe] at h9
      exact absurd h9 hz
    · exact hK _ _ _ _ (hK _ _ _ _ (hp))
  refine hK _ _ _ _ (hK _ _ _ _ (⟨_, r_walksX (d := 50) hn h4 hB hL (Q := fun _ _ _ => True) (fun _ => QOK_t), rfl, fun v1 M1 g1 => ?_⟩))
  obtain ⟨rfl, f1, y6, g1⟩ := g1
  rcases g1 with ⟨c, u, r1, y9, hs, ho, ya, yb, c1, c2, -⟩ | ⟨r1, y9⟩
  · refine hK _ _ _ _ (hK _ _ _ _ (hK _ _ _ _ (hK _ _ _ _ (hK _ _ _ _ (⟨fun _ => ?_, fun q9 => absurd y9 q9⟩)))))
    refine hK _ _ _ _ (hK _ _ _ _ (hK _ _ _ _ (hK _ _ _ _ (⟨_, t_isIn (d := 58), rfl, fun v20 M20 g20 => ?_⟩))))
    obtain ⟨rfl, rfl⟩ := g20
    by_cases hq : 0 ≤ a1 ∧ a1 ≤ 2
    · rw [if_pos hq]
      refine hK _ _ _ _ (⟨fun _ => ?_, fun q => (by first | exact absurd q (by decide) | exact absurd rfl q | exact absurd (by decide) q)⟩)
      refine hK _ _ _ _ (hK _ _ _ _ (hK _ _ _ _ (hK _ _ _ _ (hK _ _ _ _ (⟨fun h9 => ?_, fun h9 => ?_⟩)))))
      · have B2 : rB 37 (a_pI M1 36 0 0 0) e := rB_p (rB_v f1 hB)
        obtain ⟨q, hq2, rfl⟩ := okQ_i hq
        rcases (show q = 0 ∨ q = 1 ∨ q = 2 by omega) with rfl | rfl | rfl
        · refine hK _ _ _ _ (hK _ _ _ _ (⟨fun q => (by first | exact absurd q (by decide) | exact absurd rfl q | exact absurd (by decide) q), fun _ => ?_⟩))
          exact hK _ _ _ _ (hK _ _ _ _ (hK _ _ _ _ (hK _ _ _ _ (Or.inr (Or.inr ⟨c, u, 0, r1, by decide, rfl, (show some (vI (M1.1 36 0 15)) = some (vI (Int32.ofNat u.2.1)) from by rw [hs.2.2.1]), x_pe⟩)))))
        · refine hK _ _ _ _ (hK _ _ _ _ (⟨fun _ => ?_, fun q => (by first | exact absurd q (by decide) | exact absurd rfl q | exact absurd (by decide) q)⟩))
          refine hK _ _ _ _ (hK _ _ _ _ (hK _ _ _ _ (⟨fun q => (by first | exact absurd q (by decide) | exact absurd rfl q | exact absurd (by decide) q), fun _ => ?_⟩)))
          refine hK _ _ _ _ (hK _ _ _ _ (⟨_, r_closedW (d := 56) (M := a_pI M1 36 0 0 0) (u := u) (c := c) B2 hs ho ya yb c1 c2, rfl, fun v60 M60 g60 => ?_⟩))
          obtain ⟨rfl, rfl⟩ := g60
          by_cases hz : Nat.beq (xco e.2.1.1 e.2.1.2.1 e.2.1.2.2 u.1.1 u.1.2) (xco e.2.1.1 e.2.1.2.1 e.2.1.2.2 c.1 c.2) = true
          · rw [if_pos hz]
            refine hK _ _ _ _ (⟨fun q => (by first | exact absurd q (by decide) | exact absurd rfl q | exact absurd (by decide) q), fun _ => ?_⟩)
            exact hK _ _ _ _ (hK _ _ _ _ (hK _ _ _ _ (Or.inr (Or.inr ⟨c, u, 1, r1, by decide, rfl, (show some (vI 1) = some (vI (if Nat.beq (xco e.2.1.1 e.2.1.2.1 e.2.1.2.2 u.1.1 u.1.2) (xco e.2.1.1 e.2.1.2.1 e.2.1.2.2 c.1 c.2) = true then 1 else 0)) from by rw [if_pos hz]), x_pe⟩))))
          · rw [if_neg hz]
            refine hK _ _ _ _ (⟨fun _ => ?_, fun q => (by first | exact absurd q (by decide) | exact absurd rfl q | exact absurd (by decide) q)⟩)
            exact hK _ _ _ _ (hK _ _ _ _ (hK _ _ _ _ (Or.inr (Or.inr ⟨c, u, 1, r1, by decide, rfl, (show some (vI 0) = some (vI (if Nat.beq (xco e.2.1.1 e.2.1.2.1 e.2.1.2.2 u.1.1 u.1.2) (xco e.2.1.1 e.2.1.2.1 e.2.1.2.2 c.1 c.2) = true then 1 else 0)) from by rw [if_neg hz]), x_pe⟩))))
        · refine hK _ _ _ _ (hK _ _ _ _ (⟨fun _ => ?_, fun q => (by first | exact absurd q (by decide) | exact absurd rfl q | exact absurd (by decide) q)⟩))
          refine hK _ _ _ _ (hK _ _ _ _ (hK _ _ _ _ (⟨fun _ => ?_, fun q => (by first | exact absurd q (by decide) | exact absurd rfl q | exact absurd (by decide) q)⟩)))
          exact hK _ _ _ _ (hK _ _ _ _ (hK _ _ _ _ (Or.inr (Or.inr ⟨c, u, 2, r1, by decide, rfl, (show some (vI (M1.1 36 0 16)) = some (vI (Int32.ofNat u.2.2.length)) from by rw [hs.2.2.2]), x_pe⟩))))
      · rw [x_pe] at h9
        exact absurd (by decide) h9
    · rw [if_neg hq]
      refine hK _ _ _ _ (⟨fun q => (by first | exact absurd q (by decide) | exact absurd rfl q | exact absurd (by decide) q), fun _ => ?_⟩)
      refine hK _ _ _ _ (hK _ _ _ _ (?_))
      exact thr M1 2 (by decide) (Or.inr (Or.inl ⟨⟨c, u, r1⟩, okQ_n hq, rfl, x_pe⟩))
  · refine hK _ _ _ _ (hK _ _ _ _ (hK _ _ _ _ (hK _ _ _ _ (hK _ _ _ _ (⟨fun q9 => absurd q9 y9, fun _ => ?_⟩)))))
    refine hK _ _ _ _ (hK _ _ _ _ (?_))
    exact thr M1 1 (by decide) (Or.inl ⟨r1, rfl, x_pe⟩)
