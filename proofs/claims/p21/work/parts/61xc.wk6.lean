theorem g_at18 {nS d i : Nat} {M : aM} {j : Int32} {a : Nat} (hj : j = Int32.ofNat a) (ha : a < 16) : aC nS (d + 1) 104 [vR 18 i, vI j] M (fun v M' => v = some (vI (M.1 18 i a)) ∧ M = M') (fun _ _ => False) := by
  refine aC_mk rfl rfl ?_
  intro K hK _
  subst hj
  refine hK _ _ _ _ (hK _ _ _ _ ⟨fun h => ?_, fun h => ?_⟩)
  · exact absurd (x_lt (y := 0) rfl rfl (by omega) (by decide) h) (by omega)
  · refine hK _ _ _ _ (hK _ _ _ _ (hK _ _ _ _ (hK _ _ _ _ ⟨fun h => ?_, fun h => ?_⟩)))
    · exact absurd (x_ge (y := 16) rfl rfl (by omega) (by decide) h) (by omega)
    · refine hK _ _ _ _ (hK _ _ _ _ (hK _ _ _ _ ⟨x_vp rfl ha (by decide), ?_⟩))
      rw [x_cl rfl (by omega)]
      exact hK _ _ _ _ (hK _ _ _ _ ⟨rfl, rfl⟩)
theorem g_at19 {nS d i : Nat} {M : aM} {j : Int32} {a : Nat} (hj : j = Int32.ofNat a) (ha : a < 16) : aC nS (d + 1) 104 [vR 19 i, vI j] M (fun v M' => v = some (vI (M.1 19 i a)) ∧ M = M') (fun _ _ => False) := by
  refine aC_mk rfl rfl ?_
  intro K hK _
  subst hj
  refine hK _ _ _ _ (hK _ _ _ _ ⟨fun h => ?_, fun h => ?_⟩)
  · exact absurd (x_lt (y := 0) rfl rfl (by omega) (by decide) h) (by omega)
  · refine hK _ _ _ _ (hK _ _ _ _ (hK _ _ _ _ (hK _ _ _ _ ⟨fun h => ?_, fun h => ?_⟩)))
    · exact absurd (x_ge (y := 16) rfl rfl (by omega) (by decide) h) (by omega)
    · refine hK _ _ _ _ (hK _ _ _ _ (hK _ _ _ _ ⟨x_vp rfl ha (by decide), ?_⟩))
      rw [x_cl rfl (by omega)]
      exact hK _ _ _ _ (hK _ _ _ _ ⟨rfl, rfl⟩)
theorem rvs_le {c : Nat × Nat} {j : Nat} : ∀ l : List Nat, rvs c j l ≤ l.length
  | [] => Nat.le_refl _
  | y :: l => by
    have h := rvs_le (c := c) (j := j) l
    show rvs c j l + (bif Nat.beq j ((rmv y (rps c l)).2 * 4 + (rmv y (rps c l)).1) then 1 else 0) ≤ l.length + 1
    cases Nat.beq j ((rmv y (rps c l)).2 * 4 + (rmv y (rps c l)).1) with
    | true => exact Nat.succ_le_succ h
    | false => exact Nat.le_trans h (Nat.le_succ _)
theorem w_part_len {r : Nat → Int32} {n q q2 : Nat} {e : xB} {t u : xW} (hq : q ≤ n) (h : w_part r n e t q = some (u, q2)) : u.2.2.length ≤ t.2.2.length + 9 ∧ q2 ≤ n := by
  unfold w_part at h
  cases h1 : t_num r n q 1 9 with
  | none =>
    rw [h1] at h
    cases h
  | some xq =>
    obtain ⟨x, q1⟩ := xq
    rw [h1] at h
    dsimp only at h
    obtain ⟨a1, a2, -, a4⟩ := t_num_ok h1 hq
    have hx := (xn_le (m := 9) (by decide) (Int32.le_trans (show (0 : Int32) ≤ 1 by decide) a1) a2).2
    cases h2 : wwy r n q1 with
    | none =>
      rw [h2] at h
      cases h
    | some y =>
      rw [h2] at h
      dsimp only at h
      cases h3 : wgo e y (xn x) t with
      | none =>
        rw [h3] at h
        cases h
      | some v =>
        rw [h3] at h
        obtain ⟨b1, b2⟩ := Prod.mk.inj (Option.some.inj h)
        subst b1
        have := wgo_len h3
        refine ⟨by omega, ?_⟩
        rw [← b2]
        exact t_go_le (t_go_le a4)
theorem w_text_len {r : Nat → Int32} {n : Nat} {e : xB} : ∀ (k : Nat) {q : Nat} {t u : xW}, q ≤ n → w_text r n e k t q = some u → u.2.2.length ≤ t.2.2.length + 9 * k
  | 0, q, t, u, hq, h => by
    have h : (if t_semi r n q = true then none else if t_sk r n q < n then none else some t) = some u := h
    split at h
    · cases h
    · split at h
      · cases h
      · cases h
        exact Nat.le_refl _
  | k + 1, q, t, u, hq, h => by
    have h : (if t_semi r n q = true then (match w_part r n e t (t_sk r n q + 1) with
      | none => none
      | some (u, q) => w_text r n e k u q) else if t_sk r n q < n then none else some t) = some u := h
    split at h
    · rename_i hs
      have hlt : t_sk r n q < n := by
        unfold t_semi at hs
        rw [Bool.and_eq_true] at hs
        exact Nat.le_of_ble_eq_true hs.1
      cases hw : w_part r n e t (t_sk r n q + 1) with
      | none =>
        rw [hw] at h
        cases h
      | some vq =>
        obtain ⟨v, q2⟩ := vq
        rw [hw] at h
        dsimp only at h
        obtain ⟨a, b⟩ := w_part_len hlt hw
        have := w_text_len k b h
        omega
    · split at h
      · cases h
      · cases h
        omega
theorem w_read_len {r : Nat → Int32} {n : Nat} {e : xB} {c : Nat × Nat} {u : xW} (h : w_read r n e = some (c, u)) : u.2.2.length ≤ 108 := by
  unfold w_read at h
  cases h1 : w_beg r n e with
  | none =>
    rw [h1] at h
    cases h
  | some cq =>
    obtain ⟨c1, q⟩ := cq
    rw [h1] at h
    dsimp only at h
    have hq : q ≤ n := by
      unfold w_beg at h1
      split at h1
      · cases h2 : t_two r n (t_go (t_az r) n (t_sk r n 0)) 0 (Int32.ofNat e.2.1.1) 0 (Int32.ofNat e.2.1.2.1) with
        | none =>
          rw [h2] at h1
          cases h1
        | some xq =>
          obtain ⟨⟨x, y⟩, q3⟩ := xq
          rw [h2] at h1
          obtain ⟨-, b2⟩ := Prod.mk.inj (Option.some.inj h1)
          have := t_two_ok h2 (t_go_le (t_go_le (Nat.zero_le _)))
          rw [← b2]
          exact this.2.2.2.2
      · cases h1
    cases h3 : w_text r n e 12 (c1, 0, []) q with
    | none =>
      rw [h3] at h
      cases h
    | some v =>
      rw [h3] at h
      obtain ⟨-, b⟩ := Prod.mk.inj (Option.some.inj h)
      subst b
      exact Nat.le_trans (w_text_len 12 hq h3) (by show 0 + 9 * 12 ≤ 108; decide)
/-- closed, of four lines, no corner come to twice -/
def rsm (e : xB) (c : Nat × Nat) (u : xW) : Prop := (∀ j, j < 16 → rvs c j u.2.2 ≤ 1) ∧ Nat.beq (xco e.2.1.1 e.2.1.2.1 e.2.1.2.2 u.1.1 u.1.2) (xco e.2.1.1 e.2.1.2.1 e.2.1.2.2 c.1 c.2) = true ∧ 4 ≤ u.2.2.length
theorem b_isSimple {nS d : Nat} {M : aM} {e : xB} {u : xW} {c : Nat × Nat} (hB : cB 0 M e) (hs : WKs M e u) (ho : xWo e u) (hc : M.1 17 0 2 = Int32.ofNat (xco e.2.1.1 e.2.1.2.1 e.2.1.2.2 c.1 c.2)) (c1 : c.1 ≤ e.2.1.1) (c2 : c.2 ≤ e.2.1.2.1) (hv : ∀ j, j < 16 → M.1 18 0 j = Int32.ofNat (rvs c j u.2.2)) (hl : u.2.2.length ≤ 108) : aC nS (d + 3) 147 [vR 17 0] M (fun v M' => ((rsm e c u ∧ v = some (vI 1)) ∨ (¬ rsm e c u ∧ v = some (vI 0))) ∧ M = M') (fun _ _ => False) := by
  refine aC_mk rfl rfl ?_
  intro K hK _
  have lp : ∀ (m i : Nat) (z : Int32), 16 - i = m → i ≤ 16 → z = Int32.ofNat i → (∀ j, j < i → rvs c j u.2.2 ≤ 1) → K 2 [some (vR 17 0), some (vI z)] [] M := by
    intro m
    induction m with
    | zero =>
      intro i z hm hi hz hj
      subst hz
      refine hK _ _ _ _ (hK _ _ _ _ (hK _ _ _ _ (⟨fun h9 => ?_, fun h9 => ?_⟩)))
      · refine hK _ _ _ _ (hK _ _ _ _ (⟨_, b_closedW (d := d) hB hs ho hc c1 c2, rfl, fun v29 M29 g29 => ?_⟩))
        obtain ⟨rfl, rfl⟩ := g29
        by_cases hq : Nat.beq (xco e.2.1.1 e.2.1.2.1 e.2.1.2.2 u.1.1 u.1.2) (xco e.2.1.1 e.2.1.2.1 e.2.1.2.2 c.1 c.2) = true
        · rw [if_pos hq]
          refine hK _ _ _ _ (⟨fun q => (by first | exact absurd q (by decide) | exact absurd rfl q | exact absurd (by decide) q), fun _ => ?_⟩)
          refine hK _ _ _ _ (hK _ _ _ _ (hK _ _ _ _ (hK _ _ _ _ (⟨fun h8 => ?_, fun h8 => ?_⟩))))
          · have h5 := x_lt (y := 4) hs.2.2.2 rfl (by omega) (by decide) h8
            exact hK _ _ _ _ (hK _ _ _ _ (⟨Or.inl rfl, Or.inr ⟨fun z => absurd z.2.2 (by omega), rfl⟩, rfl⟩))
          · have h5 := x_nlt (y := 4) hs.2.2.2 rfl (by omega) (by decide) h8
            exact hK _ _ _ _ (hK _ _ _ _ (hK _ _ _ _ (⟨Or.inr rfl, Or.inl ⟨⟨fun j h => hj j (by omega), hq, h5⟩, rfl⟩, rfl⟩)))
        · rw [if_neg hq]
          refine hK _ _ _ _ (⟨fun _ => ?_, fun q => (by first | exact absurd q (by decide) | exact absurd rfl q | exact absurd (by decide) q)⟩)
          exact hK _ _ _ _ (hK _ _ _ _ (⟨Or.inl rfl, Or.inr ⟨fun z => hq z.2.1, rfl⟩, rfl⟩))
      · exact absurd (x_nge (x := i) (y := 16) rfl rfl (by omega) (by decide) h9) (by omega)
    | succ m ih =>
      intro i z hm hi hz hj
      subst hz
      refine hK _ _ _ _ (hK _ _ _ _ (hK _ _ _ _ (⟨fun h9 => ?_, fun h9 => ?_⟩)))
      · exact absurd (x_ge (x := i) (y := 16) rfl rfl (by omega) (by decide) h9) (by omega)
      · refine hK _ _ _ _ (hK _ _ _ _ (hK _ _ _ _ (hK _ _ _ _ (⟨_, g_at18 (d := d + 1) rfl (show i < 16 by omega), rfl, fun v13 M13 g13 => ?_⟩))))
        obtain ⟨rfl, rfl⟩ := g13
        rw [hv i (by omega)]
        have hb := rvs_le (c := c) (j := i) u.2.2
        refine hK _ _ _ _ (hK _ _ _ _ (⟨fun h8 => ?_, fun h8 => ?_⟩))
        · have h5 : rvs c i u.2.2 ≤ 1 := (hI_le (a := rvs c i u.2.2) (b := 1) (by omega) (by decide)).mp h8
          refine hK _ _ _ _ (hK _ _ _ _ (?_))
          refine ih (i + 1) _ (by omega) (by omega) hI_s (fun j hj2 => ?_)
          by_cases he : j = i
          · rw [he]
            exact h5
          · exact hj j (by omega)
        · have h5 : ¬ rvs c i u.2.2 ≤ 1 := fun z => h8 ((hI_le (a := rvs c i u.2.2) (b := 1) (by omega) (by decide)).mpr z)
          exact hK _ _ _ _ (hK _ _ _ _ (⟨Or.inl rfl, Or.inr ⟨fun z => h5 (z.1 i (by omega)), rfl⟩, rfl⟩))
  refine hK _ _ _ _ (hK _ _ _ _ (?_))
  exact lp _ 0 _ rfl (Nat.zero_le _) rfl (fun j hj => absurd hj (Nat.not_lt_zero _))
theorem b_windsRound {nS d w h s sx sy : Nat} {M : aM} {R : Nat → Int32} (hS : cS 0 M w h s) (w3 : w ≤ 3) (hx : sx < w) (hy : sy < 3) (hR : ∀ j, j < 16 → M.1 19 0 j = R j) : aC nS (d + 2) 148 [vR 17 0, vI (Int32.ofNat sx), vI (Int32.ofNat sy)] M (fun v M' => v = some (vI (wsu R (sy * 4 + sx + 1) (w - sx))) ∧ M = M') (fun _ _ => False) := by
  refine aC_mk rfl rfl ?_
  intro K hK _
  have lp : ∀ (m i : Nat) (z A : Int32), w - sx - i = m → i ≤ w - sx → z = Int32.ofNat (sx + 1 + i) → A = wsu R (sy * 4 + sx + 1) i → K 7 [some (vR 17 0), some (vI (Int32.ofNat sx)), some (vI (Int32.ofNat sy)), some (vI A), some (vI z)] [] M := by
    intro m
    induction m with
    | zero =>
      intro i z A hm hi hz hA
      subst hz
      subst hA
      refine hK _ _ _ _ (hK _ _ _ _ (hK _ _ _ _ (hK _ _ _ _ (⟨_, b_wide, rfl, fun v13 M13 g13 => ?_⟩))))
      obtain ⟨rfl, rfl⟩ := g13
      rw [hS.1]
      refine hK _ _ _ _ (⟨fun h9 => ?_, fun h9 => ?_⟩)
      · rw [show i = w - sx by omega]
        exact hK _ _ _ _ (hK _ _ _ _ (⟨rfl, rfl⟩))
      · have h5 := x_nlt (x := w) (y := sx + 1 + i) rfl rfl (by omega) (by omega) h9
        omega
    | succ m ih =>
      intro i z A hm hi hz hA
      subst hz
      subst hA
      refine hK _ _ _ _ (hK _ _ _ _ (hK _ _ _ _ (hK _ _ _ _ (⟨_, b_wide, rfl, fun v13 M13 g13 => ?_⟩))))
      obtain ⟨rfl, rfl⟩ := g13
      rw [hS.1]
      refine hK _ _ _ _ (⟨fun h9 => ?_, fun h9 => ?_⟩)
      · have h5 := x_lt (x := w) (y := sx + 1 + i) rfl rfl (by omega) (by omega) h9
        omega
      · have ej : Int32.ofNat sy * 4 + Int32.ofNat (sx + 1 + i) = Int32.ofNat (sy * 4 + sx + 1 + i) := by
          rw [show (4 : Int32) = Int32.ofNat 4 from rfl, x_mul (by omega) (by omega), hI_ad, show sy * 4 + (sx + 1 + i) = sy * 4 + sx + 1 + i by omega]
        refine hK _ _ _ _ (hK _ _ _ _ (hK _ _ _ _ (hK _ _ _ _ (hK _ _ _ _ (hK _ _ _ _ (hK _ _ _ _ (hK _ _ _ _ (hK _ _ _ _ (⟨_, g_at19 (d := d) ej (show sy * 4 + sx + 1 + i < 16 by omega), rfl, fun v30 M30 g30 => ?_⟩)))))))))
        obtain ⟨rfl, rfl⟩ := g30
        rw [hR _ (show sy * 4 + sx + 1 + i < 16 by omega)]
        refine hK _ _ _ _ (hK _ _ _ _ (hK _ _ _ _ (hK _ _ _ _ (?_))))
        rw [hI_s]
        exact ih (i + 1) _ _ (by omega) (by omega) rfl rfl
  refine hK _ _ _ _ (hK _ _ _ _ (hK _ _ _ _ (hK _ _ _ _ (hK _ _ _ _ (hK _ _ _ _ (?_))))))
  rw [hI_s]
  exact lp _ 0 _ _ rfl (Nat.zero_le _) rfl rfl
