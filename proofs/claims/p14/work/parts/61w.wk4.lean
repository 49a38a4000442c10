theorem t_sk_id {r : Nat → Int32} {n q : Nat} (h : q ≤ n) : t_sk r n (t_sk r n q) = t_sk r n q := t_go_id h
theorem t_wd_s {r : Nat → Int32} {n q : Nat} {bs : List Nat} (h : q ≤ n) : t_wd r n (t_sk r n q) bs = t_wd r n q bs := by
  unfold t_wd
  rw [t_sk_id h]
theorem t_num_s {r : Nat → Int32} {n q : Nat} {lo hi : Int32} (h : q ≤ n) : t_num r n (t_sk r n q) lo hi = t_num r n q lo hi := by
  unfold t_num
  rw [t_sk_id h]
theorem t_semi_y {r : Nat → Int32} {n q : Nat} (h : t_sk r n q < n ∧ r (t_sk r n q) = 59) : t_semi r n q = true := by
  unfold t_semi
  rw [x_blt h.1, decide_eq_true h.2]
  rfl
theorem t_semi_n {r : Nat → Int32} {n q : Nat} (h : ¬ (t_sk r n q < n ∧ r (t_sk r n q) = 59)) : t_semi r n q = false := by
  cases hz : t_semi r n q with
  | false => rfl
  | true =>
    unfold t_semi at hz
    rw [Bool.and_eq_true] at hz
    exact absurd ⟨Nat.le_of_ble_eq_true hz.1, of_decide_eq_true hz.2⟩ h
theorem r_begW {nS d : Nat} {M : aM} : aC nS (d + 1) 211 [vR 36 0] M (fun v M' => v = none ∧ M' = a_pI (a_pI (a_pI (a_pI M 36 0 9 (-1)) 36 0 7 (M.1 36 0 6)) 36 0 6 0) 36 0 8 0) (fun _ _ => False) := by
  refine aC_mk rfl rfl ?_
  intro K hK _
  exact hK _ _ _ _ (hK _ _ _ _ (hK _ _ _ _ (hK _ _ _ _ (hK _ _ _ _ (hK _ _ _ _ (hK _ _ _ _ (hK _ _ _ _ (hK _ _ _ _ (hK _ _ _ _ (hK _ _ _ _ (hK _ _ _ _ (hK _ _ _ _ (hK _ _ _ _ (⟨rfl, rfl⟩))))))))))))))
def PRv : xF := fun k _ j => (Nat.beq k 36 && (Nat.ble 6 j && Nat.ble j 16)) || (Nat.beq k 41 || Nat.beq k 42)
theorem PRv_i {A B : aM} {P : xF} (h : fr P A B) (hi : ∀ k i j, P k i j = true → (k = 36 ∧ 6 ≤ j ∧ j ≤ 16) ∨ k = 41 ∨ k = 42) : fr PRv A B := fr_i h (fun k i j z => by
  rcases hi k i j z with ⟨h1, h2, h3⟩ | h1 | h1
  · show ((Nat.beq k 36 && (Nat.ble 6 j && Nat.ble j 16)) || (Nat.beq k 41 || Nat.beq k 42)) = true
    rw [x_beq h1, Nat.ble_eq_true_of_le h2, Nat.ble_eq_true_of_le h3]
    rfl
  · subst h1
    exact Bool.or_eq_true_iff.mpr (Or.inr rfl)
  · subst h1
    exact Bool.or_eq_true_iff.mpr (Or.inr rfl))
theorem P36_v {A B : aM} (h : fr P36 A B) : fr PRv A B := PRv_i h (fun k i j z => by
  have z : (Nat.beq k 36 && (Nat.beq j 8 || (Nat.beq j 9 || Nat.beq j 10))) = true := z
  rw [Bool.and_eq_true, Bool.or_eq_true, Bool.or_eq_true] at z
  have e1 := Nat.eq_of_beq_eq_true z.1
  rcases z.2 with q | q | q <;> have e2 := Nat.eq_of_beq_eq_true q <;> exact Or.inl ⟨e1, by omega, by omega⟩)
theorem P8_v {A B : aM} (h : fr P8 A B) : fr PRv A B := P36_v (P8_w h)
theorem PRg_v {A B : aM} (h : fr PRg A B) : fr PRv A B := PRv_i h (fun k i j z => by
  have z : ((Nat.beq k 36 && (Nat.ble 13 j && Nat.ble j 16)) || (Nat.beq k 41 || Nat.beq k 42)) = true := z
  rw [Bool.or_eq_true, Bool.or_eq_true, Bool.and_eq_true, Bool.and_eq_true] at z
  rcases z with z | z | z
  · have a := Nat.le_of_ble_eq_true z.2.1
    have b := Nat.le_of_ble_eq_true z.2.2
    exact Or.inl ⟨Nat.eq_of_beq_eq_true z.1, by omega, by omega⟩
  · exact Or.inr (Or.inl (Nat.eq_of_beq_eq_true z))
  · exact Or.inr (Or.inr (Nat.eq_of_beq_eq_true z)))
theorem PRv_n {k i j : Nat} (h : k = 37 ∨ k = 40) : PRv k i j = false := by
  rcases h with rfl | rfl <;> rfl
theorem PRv_row {A B : aM} (h : fr PRv A B) : B.1 40 0 = A.1 40 0 := by
  funext j
  exact h.1 40 0 j rfl
theorem rB_v {M M' : aM} {e : xB} (h : fr PRv M M') (hB : rB 37 M e) : rB 37 M' e := rB_fr hB (fun j _ _ _ _ => h.1 37 0 j (PRv_n (Or.inl rfl)))
theorem LL_v {M M' : aM} {e : xB} (h : fr PRv M M') (hB : rB 37 M e) (hL : LL 37 M e) : LL 37 M' e := LL_f hB.2.1 hL (fun u _ => h.1 37 0 (20 + u) (PRv_n (Or.inl rfl)))
/-- the place in the text -/
def RTx (M : aM) (n q : Nat) : Prop := M.1 36 0 9 = -1 ∧ M.1 36 0 7 = Int32.ofNat n ∧ M.1 36 0 8 = Int32.ofNat q ∧ q ≤ n
theorem RWs_f {P : xF} {M M' : aM} {t : xW} (h : fr P M M') (h1 : P 36 0 13 = false) (h2 : P 36 0 14 = false) (h3 : P 36 0 15 = false) (h4 : P 36 0 16 = false) (hs : RWs M t) : RWs M' t := ⟨(h.1 36 0 13 h1).trans hs.1, (h.1 36 0 14 h2).trans hs.2.1, (h.1 36 0 15 h3).trans hs.2.2.1, (h.1 36 0 16 h4).trans hs.2.2.2⟩
theorem Q_f {P : xF} {M M' : aM} {e : xB} {c0 : Nat × Nat} {t : xW} {Q : xW → aM → Prop} (hQ : QOK e c0 Q) (h : fr P M M') (h1 : ∀ j, P 41 0 j = false) (h2 : ∀ j, P 42 0 j = false) (q : Q t M) : Q t M' := hQ.1 t M M' (fun j => ⟨h.1 41 0 j (h1 j), h.1 42 0 j (h2 j)⟩) q
theorem wgo_len {e : xB} {y : Nat} : ∀ {n : Nat} {t u : xW}, wgo e y n t = some u → u.2.2.length = t.2.2.length + n
  | 0, t, u, h => by
    have e9 : t = u := Option.some.inj h
    rw [e9, Nat.add_zero]
  | n + 1, t, u, h => by
    have h : (match wgo1 e y t with
      | none => none
      | some v => wgo e y n v) = some u := h
    cases hv : wgo1 e y t with
    | none =>
      rw [hv] at h
      cases h
    | some v =>
      rw [hv] at h
      have h5 := wgo_len h
      unfold wgo1 at hv
      cases hk : wok e.2.1.1 e.2.1.2.1 e.2.1.2.2 y t.1.1 t.1.2 with
      | false =>
        rw [hk] at hv
        cases hv
      | true =>
        rw [hk, cond_true] at hv
        have e9 := Option.some.inj hv
        subst e9
        have h5 : u.2.2.length = (y :: t.2.2).length + n := h5
        rw [h5, List.length_cons]
        omega
theorem r_goesY {nS d many y : Nat} {M : aM} {e : xB} {c0 : Nat × Nat} {t : xW} {Q : xW → aM → Prop} (hy : y < 4) (hB : rB 37 M e) (hL : LL 37 M e) (hs : RWs M t) (ho : xWo e t) (hm9 : many ≤ 9) (h108 : t.2.2.length + many ≤ 108) (hQ : QOK e c0 Q) (hq : Q t M) : aC nS (d + 4) 224 [vR 36 0, vI (Int32.ofNat many), vI (Int32.ofNat y)] M (fun v M' => fr PRg M M' ∧ ((∃ u, wgo e y many t = some u ∧ xWo e u ∧ v = some (vI 1) ∧ RWs M' u ∧ Q u M') ∨ (wgo e y many t = none ∧ v = some (vI 0)))) (fun _ _ => False) := by
  rcases (show y = 0 ∨ y = 1 ∨ y = 2 ∨ y = 3 by omega) with rfl | rfl | rfl | rfl
  · exact r_goes0 hB hL hs ho hm9 h108 hQ hq
  · exact r_goes1 hB hL hs ho hm9 h108 hQ hq
  · exact r_goes2 hB hL hs ho hm9 h108 hQ hq
  · exact r_goes3 hB hL hs ho hm9 h108 hQ hq
theorem r_walksX {nS d n : Nat} {M : aM} {e : xB} {Q : Nat × Nat → xW → aM → Prop} (hn : M.1 36 0 6 = Int32.ofNat n) (h4 : n ≤ 400) (hB : rB 37 M e) (hL : LL 37 M e) (hQ : ∀ c, QOK e c (Q c)) : aC nS (d + 9) 225 [vR 36 0] M (fun v M' => v = none ∧ fr PRv M M' ∧ M'.1 36 0 6 = 0 ∧ ((∃ c u, w_read (M.1 40 0) n e = some (c, u) ∧ M'.1 36 0 9 = -1 ∧ RWs M' u ∧ xWo e u ∧ M'.1 36 0 11 = Int32.ofNat c.1 ∧ M'.1 36 0 12 = Int32.ofNat c.2 ∧ c.1 ≤ e.2.1.1 ∧ c.2 ≤ e.2.1.2.1 ∧ Q c u M') ∨ (w_read (M.1 40 0) n e = none ∧ ¬ M'.1 36 0 9 = -1))) (fun _ _ => False) := by
  obtain ⟨hg, o2, o8, hS, w1, w3, h1, h3, s2⟩ := rB_h hB
  refine aC_mk rfl rfl ?_
  intro K hK hF
  have bad99 : ∀ (M1 : aM) (i : Int32) (q : Nat), fr PRv M M1 → M1.1 36 0 6 = 0 → ¬ M1.1 36 0 9 = -1 → M1.1 36 0 7 = Int32.ofNat n → M1.1 36 0 8 = Int32.ofNat q → q ≤ 400 → w_read (M.1 40 0) n e = none → ∀ o2 o3 o4 : Option aV, K 99 [some (vR 36 0), some (vI i), o2, o3, o4] [] M1 := by
    intro M1 i q hf z0 z1 z2 z3 z4 he o2 o3 o4
    refine hF _ _ _ _ _ (a_le_s (a_le_s (a_le_n (a_le_n (a_le_n a_le_z))))) ?_
    refine hK _ _ _ _ (hK _ _ _ _ (hK _ _ _ _ (hK _ _ _ _ (⟨fun _ => ?_, fun q9 => absurd q9 z1⟩))))
    refine hK _ _ _ _ (hK _ _ _ _ (⟨_, t_skip (d := d + 7) z2 h4 z3 z4, rfl, fun v260 M260 g260 => ?_⟩))
    obtain ⟨rfl, f260, p260⟩ := g260
    have y1 : ¬ M260.1 36 0 9 = -1 := by
      rw [f260.1 36 0 9 rfl]
      exact z1
    refine hK _ _ _ _ (hK _ _ _ _ (hK _ _ _ _ (hK _ _ _ _ (hK _ _ _ _ (⟨fun _ => ?_, fun _ => ?_⟩)))))
    · exact hK _ _ _ _ (⟨rfl, fr_t hf (P8_v f260), (f260.1 36 0 6 rfl).trans z0, Or.inr ⟨he, y1⟩⟩)
    · refine hK _ _ _ _ (hK _ _ _ _ (hK _ _ _ _ (hK _ _ _ _ (⟨_, t_wrong0 (d := d + 7) y1, rfl, fun v279 M279 g279 => ?_⟩))))
      obtain ⟨rfl, rfl⟩ := g279
      exact hK _ _ _ _ (⟨rfl, fr_t hf (P8_v f260), (f260.1 36 0 6 rfl).trans z0, Or.inr ⟨he, y1⟩⟩)
  have C61 : ∀ (M2 : aM) (x y : Int32), M2.1 36 0 11 = x → M2.1 36 0 12 = y → (∀ M3 : aM, fr PRg M2 M3 → M3.1 36 0 13 = x → M3.1 36 0 14 = y → M3.1 36 0 15 = M2.1 36 0 15 → M3.1 36 0 16 = M2.1 36 0 16 → M3.1 41 0 0 = x → M3.1 42 0 0 = y → K 99 [some (vR 36 0), some (vI 0), none, none, none] [] M3) → K 61 [some (vR 36 0), none, none, none, none] [] M2 := by
    intro M2 x y hx hy k9
    refine hK _ _ _ _ (hK _ _ _ _ (hK _ _ _ _ (hK _ _ _ _ (hK _ _ _ _ (hK _ _ _ _ (hK _ _ _ _ (hK _ _ _ _ (hK _ _ _ _ (hK _ _ _ _ (hK _ _ _ _ (hK _ _ _ _ (hK _ _ _ _ (hK _ _ _ _ (⟨x_vp (a := 0) rfl (by decide) (by decide), ?_⟩))))))))))))))
    rw [x_cl (j := 0) (a := 0) rfl (by decide)]
    refine hK _ _ _ _ (hK _ _ _ _ (hK _ _ _ _ (hK _ _ _ _ (hK _ _ _ _ (hK _ _ _ _ (⟨x_vp (a := 0) rfl (by decide) (by decide), ?_⟩))))))
    rw [x_cl (j := 0) (a := 0) rfl (by decide)]
    refine hK _ _ _ _ (hK _ _ _ _ (?_))
    exact k9 _ (fr_p (fr_p (fr_p (fr_p fr_r rfl) rfl) rfl) rfl) hx hy rfl rfl hx hy
  have bad61 : ∀ (M2 : aM) (q : Nat), fr PRv M M2 → M2.1 36 0 6 = 0 → ¬ M2.1 36 0 9 = -1 → M2.1 36 0 7 = Int32.ofNat n → M2.1 36 0 8 = Int32.ofNat q → q ≤ 400 → w_read (M.1 40 0) n e = none → K 61 [some (vR 36 0), none, none, none, none] [] M2 := fun M2 q hf z0 z1 z2 z3 z4 he => C61 M2 _ _ rfl rfl (fun M3 f _ _ _ _ _ _ => bad99 M3 0 q (fr_t hf (PRg_v f)) ((f.1 36 0 6 rfl).trans z0) (by rw [f.1 36 0 9 rfl]; exact z1) ((f.1 36 0 7 rfl).trans z2) ((f.1 36 0 8 rfl).trans z3) z4 he none none none)
  have bad46 : ∀ (M2 : aM) (q : Nat), fr PRv M M2 → M2.1 36 0 6 = 0 → ¬ M2.1 36 0 9 = -1 → M2.1 36 0 7 = Int32.ofNat n → M2.1 36 0 8 = Int32.ofNat q → q ≤ 400 → w_read (M.1 40 0) n e = none → K 46 [some (vR 36 0), none, none, none, none] [] M2 := by
    intro M2 q hf z0 z1 z2 z3 z4 he
    refine hK _ _ _ _ (hK _ _ _ _ (hK _ _ _ _ (hK _ _ _ _ (hK _ _ _ _ (hK _ _ _ _ (hK _ _ _ _ (⟨x_vp (a := 4) rfl (by decide) (by decide), ?_⟩)))))))
    rw [x_cl (j := 4) (a := 4) rfl (by decide)]
    refine hK _ _ _ _ (⟨_, t_fig0 (d := d + 7) z1, rfl, fun v55 M55 g55 => ?_⟩)
    obtain ⟨rfl, rfl⟩ := g55
    refine hK _ _ _ _ (?_)
    exact bad61 _ q (fr_p hf rfl) z0 z1 z2 z3 z4 he
  have bad31 : ∀ (M2 : aM) (q : Nat), fr PRv M M2 → M2.1 36 0 6 = 0 → ¬ M2.1 36 0 9 = -1 → M2.1 36 0 7 = Int32.ofNat n → M2.1 36 0 8 = Int32.ofNat q → q ≤ 400 → w_read (M.1 40 0) n e = none → K 31 [some (vR 36 0), none, none, none, none] [] M2 := by
    intro M2 q hf z0 z1 z2 z3 z4 he
    refine hK _ _ _ _ (hK _ _ _ _ (hK _ _ _ _ (hK _ _ _ _ (hK _ _ _ _ (hK _ _ _ _ (hK _ _ _ _ (⟨x_vp (a := 3) rfl (by decide) (by decide), ?_⟩)))))))
    rw [x_cl (j := 3) (a := 3) rfl (by decide)]
    refine hK _ _ _ _ (⟨_, t_fig0 (d := d + 7) z1, rfl, fun v40 M40 g40 => ?_⟩)
    obtain ⟨rfl, rfl⟩ := g40
    refine hK _ _ _ _ (?_)
    exact bad46 _ q (fr_p hf rfl) z0 z1 z2 z3 z4 he
  have bad153 : ∀ (M2 : aM) (v i pl : Int32) (q : Nat), fr PRv M M2 → M2.1 36 0 6 = 0 → ¬ M2.1 36 0 9 = -1 → M2.1 36 0 7 = Int32.ofNat n → M2.1 36 0 8 = Int32.ofNat q → q ≤ 400 → w_read (M.1 40 0) n e = none → K 153 [some (vR 36 0), some (vI i), some (vI pl), none, none] [vI v] M2 := by
    intro M2 v i pl q hf z0 z1 z2 z3 z4 he
    refine hK _ _ _ _ (hK _ _ _ _ (hK _ _ _ _ (hK _ _ _ _ (hK _ _ _ _ (⟨fun q9 => absurd q9 z1, fun _ => ?_⟩)))))
    refine hK _ _ _ _ (hK _ _ _ _ (hK _ _ _ _ (hK _ _ _ _ (hK _ _ _ _ (hK _ _ _ _ (⟨fun q => (by first | exact absurd q (by decide) | exact absurd rfl q | exact absurd (by decide) q), fun _ => ?_⟩))))))
    refine hK _ _ _ _ (hK _ _ _ _ (hK _ _ _ _ (hK _ _ _ _ (⟨_, t_wrong0 (d := d + 7) z1, rfl, fun v232 M232 g232 => ?_⟩))))
    obtain ⟨rfl, rfl⟩ := g232
    refine hK _ _ _ _ (hK _ _ _ _ (hK _ _ _ _ (?_)))
    exact bad99 _ _ q hf z0 z1 z2 z3 z4 he _ _ _
  have lp : ∀ (c : Nat × Nat) (q0 : Nat), w_beg (M.1 40 0) n e = some (c, q0) → c.1 ≤ e.2.1.1 → c.2 ≤ e.2.1.2.1 → ∀ (m i q1 : Nat) (t1 : xW) (M1 : aM), i + m = 12 → fr PRv M M1 → M1.1 36 0 6 = 0 → RTx M1 n q1 → RWs M1 t1 → xWo e t1 → M1.1 36 0 11 = Int32.ofNat c.1 → M1.1 36 0 12 = Int32.ofNat c.2 → Q c t1 M1 → t1.2.2.length + 9 * m ≤ 108 → w_text (M.1 40 0) n e 12 (c, 0, []) q0 = w_text (M.1 40 0) n e m t1 q1 → ∀ o2 o3 o4 : Option aV, K 99 [some (vR 36 0), some (vI (Int32.ofNat i)), o2, o3, o4] [] M1 := by
    intro c q0 b1 b2 b3
    have step : ∀ (m i q1 : Nat) (t1 : xW) (M1 : aM), i + m = 12 → fr PRv M M1 → M1.1 36 0 6 = 0 → RTx M1 n q1 → RWs M1 t1 → xWo e t1 → M1.1 36 0 11 = Int32.ofNat c.1 → M1.1 36 0 12 = Int32.ofNat c.2 → Q c t1 M1 → w_text (M.1 40 0) n e 12 (c, 0, []) q0 = w_text (M.1 40 0) n e m t1 q1 → (∀ M2 : aM, t_semi (M.1 40 0) n q1 = true → t_sk (M.1 40 0) n q1 < n → fr PRv M M2 → M2.1 36 0 6 = 0 → RTx M2 n (t_sk (M.1 40 0) n (t_sk (M.1 40 0) n q1 + 1)) → RWs M2 t1 → M2.1 36 0 11 = Int32.ofNat c.1 → M2.1 36 0 12 = Int32.ofNat c.2 → Q c t1 M2 → K 135 [some (vR 36 0), some (vI (Int32.ofNat i)), some (vI (Int32.ofNat (t_sk (M.1 40 0) n (t_sk (M.1 40 0) n q1 + 1)))), none, none] [] M2) → K 99 [some (vR 36 0), some (vI (Int32.ofNat i)), none, none, none] [] M1 := by
      intro m i q1 t1 M1 hm hf z0 hT r1 o1 z7 z8 q9 he k135
      obtain ⟨z1, z2, z3, z4⟩ := hT
      have er := PRv_row hf
      refine hK _ _ _ _ (hK _ _ _ _ (hK _ _ _ _ (hK _ _ _ _ (⟨fun q9 => absurd z1 q9, fun _ => ?_⟩))))
      refine hK _ _ _ _ (hK _ _ _ _ (hK _ _ _ _ (⟨_, t_isSign (d := d + 6) (c := 59) z2 h4 z3 z4, rfl, fun v110 M110 g110 => ?_⟩)))
      obtain ⟨f110, p110, rfl⟩ := g110
      rw [er] at p110
      rw [er]
      have hf2 : fr PRv M M110 := fr_t hf (P8_v f110)
      have er2 := PRv_row hf2
      have sn : t_sk (M.1 40 0) n q1 ≤ n := t_go_le z4
      have y2 : M110.1 36 0 7 = Int32.ofNat n := (f110.1 36 0 7 rfl).trans z2
      by_cases hs : t_sk (M.1 40 0) n q1 < n ∧ M.1 40 0 (t_sk (M.1 40 0) n q1) = 59
      · rw [if_pos hs]
        refine hK _ _ _ _ (⟨fun q => (by first | exact absurd q (by decide) | exact absurd rfl q | exact absurd (by decide) q), fun _ => ?_⟩)
        have e1 : (a_pI M110 36 0 8 (M110.1 36 0 8 + 1)).1 36 0 8 = Int32.ofNat (t_sk (M.1 40 0) n q1 + 1) := x_pe.trans (by rw [p110]; exact hI_s)
        have f3 : fr PRv M (a_pI M110 36 0 8 (M110.1 36 0 8 + 1)) := fr_p hf2 rfl
        have s1 : t_sk (M.1 40 0) n q1 + 1 ≤ n := hs.1
        refine hK _ _ _ _ (hK _ _ _ _ (hK _ _ _ _ (hK _ _ _ _ (hK _ _ _ _ (hK _ _ _ _ (hK _ _ _ _ (hK _ _ _ _ (⟨_, t_skip (d := d + 7) (show (a_pI M110 36 0 8 (M110.1 36 0 8 + 1)).1 36 0 7 = Int32.ofNat n from y2) h4 e1 (by omega), rfl, fun v127 M127 g127 => ?_⟩))))))))
        obtain ⟨rfl, f127, p127⟩ := g127
        rw [PRv_row f3] at p127
        refine hK _ _ _ _ (hK _ _ _ _ (hK _ _ _ _ (?_)))
        rw [p127]
        exact k135 M127 (t_semi_y hs) hs.1 (fr_t f3 (P8_v f127)) ((f127.1 36 0 6 rfl).trans ((f110.1 36 0 6 rfl).trans z0)) ⟨(f127.1 36 0 9 rfl).trans ((f110.1 36 0 9 rfl).trans z1), (f127.1 36 0 7 rfl).trans y2, p127, t_go_le s1⟩ (RWs_f f127 rfl rfl rfl rfl (RWs_f (M' := a_pI M110 36 0 8 (M110.1 36 0 8 + 1)) (fr_t (P8_w f110) (fr_p fr_r rfl)) rfl rfl rfl rfl r1)) ((f127.1 36 0 11 rfl).trans ((f110.1 36 0 11 rfl).trans z7)) ((f127.1 36 0 12 rfl).trans ((f110.1 36 0 12 rfl).trans z8)) (Q_f (hQ c) (fr_t (fr_t (P8_w f110) (fr_p (x := M110.1 36 0 8 + 1) (k := 36) (i := 0) (j := 8) fr_r rfl)) (P8_w f127)) (fun _ => rfl) (fun _ => rfl) q9)
      · rw [if_neg hs]
        rw [w_text_n (t_semi_n hs)] at he
        refine hK _ _ _ _ (⟨fun _ => ?_, fun q => (by first | exact absurd q (by decide) | exact absurd rfl q | exact absurd (by decide) q)⟩)
        refine hK _ _ _ _ (hK _ _ _ _ (⟨_, t_skip (d := d + 7) y2 h4 p110 (by omega), rfl, fun v260 M260 g260 => ?_⟩))
        obtain ⟨rfl, f260, p260⟩ := g260
        rw [er2, t_sk_id z4] at p260
        have f3 : fr PRv M M260 := fr_t hf2 (P8_v f260)
        have y1 : M260.1 36 0 9 = -1 := (f260.1 36 0 9 rfl).trans ((f110.1 36 0 9 rfl).trans z1)
        have y7 : M260.1 36 0 7 = Int32.ofNat n := (f260.1 36 0 7 rfl).trans y2
        have y0 : M260.1 36 0 6 = 0 := (f260.1 36 0 6 rfl).trans ((f110.1 36 0 6 rfl).trans z0)
        refine hK _ _ _ _ (hK _ _ _ _ (hK _ _ _ _ (hK _ _ _ _ (hK _ _ _ _ (⟨fun h9 => ?_, fun h9 => ?_⟩)))))
        · have h5 := x_ge p260 y7 (by omega) (by omega) h9
          rw [if_neg (by omega)] at he
          exact hK _ _ _ _ (⟨rfl, f3, y0, Or.inl ⟨c, t1, w_read_3 b1 he, y1, RWs_f (P8_w (fr_t f110 f260)) rfl rfl rfl rfl r1, o1, (f260.1 36 0 11 rfl).trans ((f110.1 36 0 11 rfl).trans z7), (f260.1 36 0 12 rfl).trans ((f110.1 36 0 12 rfl).trans z8), b2, b3, Q_f (hQ c) (fr_t f110 f260) (fun _ => rfl) (fun _ => rfl) q9⟩⟩)
        · have h5 := x_nge p260 y7 (by omega) (by omega) h9
          rw [if_pos h5] at he
          refine hK _ _ _ _ (hK _ _ _ _ (hK _ _ _ _ (hK _ _ _ _ (⟨_, t_wrong (d := d + 7) y1, rfl, fun v279 M279 g279 => ?_⟩))))
          obtain ⟨rfl, f279, p279, q279⟩ := g279
          exact hK _ _ _ _ (⟨rfl, fr_t f3 (P36_v f279), (f279.1 36 0 6 rfl).trans y0, Or.inr ⟨w_read_2 b1 he, by rw [q279, p260]; exact x_m1 (by omega)⟩⟩)
    intro m
    induction m with
    | zero =>
      intro i q1 t1 M1 hm hf z0 hT r1 o1 z7 z8 q9 hl he o2 o3 o4
      refine hF _ _ _ _ _ (a_le_s (a_le_s (a_le_n (a_le_n (a_le_n a_le_z))))) ?_
      refine step 0 i q1 t1 M1 hm hf z0 hT r1 o1 z7 z8 q9 he (fun M2 hse hlt hf2 y0 hT2 r2 y7 y8 q8 => ?_)
      obtain ⟨x1, x2, x3, x4⟩ := hT2
      refine hK _ _ _ _ (hK _ _ _ _ (hK _ _ _ _ (⟨fun q9 => absurd (by rw [show i = 12 by omega]; rfl) q9, fun _ => ?_⟩)))
      refine hK _ _ _ _ (hK _ _ _ _ (hK _ _ _ _ (⟨_, t_wrong (d := d + 7) x1, rfl, fun v143 M143 g143 => ?_⟩)))
      obtain ⟨rfl, f143, p143, q143⟩ := g143
      have nf : ¬ M143.1 36 0 9 = -1 := by
        rw [q143]
        exact x_m1 (by omega)
      refine hK _ _ _ _ (hK _ _ _ _ (hK _ _ _ _ (hK _ _ _ _ (⟨_, t_fig0 (d := d + 7) nf, rfl, fun v150 M150 g150 => ?_⟩))))
      obtain ⟨rfl, rfl⟩ := g150
      exact bad153 _ _ _ _ _ (fr_t hf2 (P36_v f143)) ((f143.1 36 0 6 rfl).trans y0) nf ((f143.1 36 0 7 rfl).trans x2) (p143.trans x3) (by omega) (w_read_2 b1 (he.trans (w_text_0 hse)))
    | succ m ih =>
      intro i q1 t1 M1 hm hf z0 hT r1 o1 z7 z8 q9 hl he o2 o3 o4
      refine hF _ _ _ _ _ (a_le_s (a_le_s (a_le_n (a_le_n (a_le_n a_le_z))))) ?_
      refine step (m + 1) i q1 t1 M1 hm hf z0 hT r1 o1 z7 z8 q9 he (fun M2 hse hlt hf2 y0 hT2 r2 y7 y8 q8 => ?_)
      have hs1 : t_sk (M.1 40 0) n q1 + 1 ≤ n := hlt
      obtain ⟨x1, x2, x3, x4⟩ := hT2
      refine hK _ _ _ _ (hK _ _ _ _ (hK _ _ _ _ (⟨fun _ => ?_, fun q9 => absurd (x_inj (x := i) (y := 12) (by omega) (by decide) q9) (by omega)⟩)))
      refine hK _ _ _ _ (hK _ _ _ _ (hK _ _ _ _ (hK _ _ _ _ (⟨_, t_figures (d := d + 6) x1 x2 h4 x3 x4, rfl, fun v150 M150 g150 => ?_⟩))))
      obtain ⟨f150, x, rfl, g150⟩ := g150
      rw [PRv_row hf2, t_num_s hs1] at g150
      have hf3 : fr PRv M M150 := fr_t hf2 (P36_v f150)
      rcases g150 with ⟨q, t1e, u1, u2, -⟩ | ⟨t1e, u1, q, u2, u3⟩
      case inr => exact bad153 _ _ _ _ q hf3 ((f150.1 36 0 6 rfl).trans y0) u1 ((f150.1 36 0 7 rfl).trans x2) u3 (by omega) (w_read_2 b1 (he.trans (w_text_x hse (w_part_1 t1e))))
      obtain ⟨v1, v9, -, qn⟩ := t_num_ok t1e hs1
      obtain ⟨kx, hk9, rfl⟩ : ∃ kx, kx ≤ 9 ∧ x = Int32.ofNat kx := by
        obtain ⟨a, b⟩ := xn_le (m := 9) (by decide) (Int32.le_trans (show (0 : Int32) ≤ 1 by decide) v1) v9
        exact ⟨_, b, a⟩
      have xk : xn (Int32.ofNat kx) = kx := x_cl rfl (by omega)
      have sq : t_sk (M.1 40 0) n q ≤ n := t_go_le qn
      have sq2 : t_go (t_az (M.1 40 0)) n (t_sk (M.1 40 0) n q) ≤ n := t_go_le sq
      have C219 : ∀ (y : Nat) (M3 : aM), y < 4 → wwy (M.1 40 0) n q = some y → fr PRv M M3 → M3.1 36 0 6 = 0 → RTx M3 n (t_go (t_az (M.1 40 0)) n (t_sk (M.1 40 0) n q)) → RWs M3 t1 → Q c t1 M3 → M3.1 36 0 11 = Int32.ofNat c.1 → M3.1 36 0 12 = Int32.ofNat c.2 → K 219 [some (vR 36 0), some (vI (Int32.ofNat i)), some (vI (Int32.ofNat (t_sk (M.1 40 0) n (t_sk (M.1 40 0) n q1 + 1)))), some (vI (Int32.ofNat kx)), none] [vI (Int32.ofNat y)] M3 := by
        intro y M3 hy hw g0 g6 gT gR gQ g11 g12
        obtain ⟨w1', w2', w3', w4'⟩ := gT
        refine hK _ _ _ _ (hK _ _ _ _ (hK _ _ _ _ (hK _ _ _ _ (⟨fun _ => ?_, fun q9 => absurd q9 (x_m1 (by omega))⟩))))
        refine hK _ _ _ _ (hK _ _ _ _ (hK _ _ _ _ (hK _ _ _ _ (⟨_, r_goesY (d := d + 4) hy (rB_v g0 hB) (LL_v g0 hB hL) gR o1 hk9 (by omega) (hQ c) gQ, rfl, fun v242 M242 g242 => ?_⟩))))
        obtain ⟨f242, g242⟩ := g242
        have hf4 := fr_t g0 (PRg_v f242)
        rcases g242 with ⟨u, k1, k2, rfl, k3, k4⟩ | ⟨k1, rfl⟩
        · have wp := w_part_4 t1e hw (by rw [xk]; exact k1)
          refine hK _ _ _ _ (⟨fun _ => ?_, fun q => (by first | exact absurd q (by decide) | exact absurd rfl q | exact absurd (by decide) q)⟩)
          refine hK _ _ _ _ (hK _ _ _ _ (?_))
          rw [hI_s]
          have lu := wgo_len k1
          exact ih (i + 1) _ u M242 (by omega) hf4 ((f242.1 36 0 6 rfl).trans g6) ⟨(f242.1 36 0 9 rfl).trans w1', (f242.1 36 0 7 rfl).trans w2', (f242.1 36 0 8 rfl).trans w3', w4'⟩ k3 k2 ((f242.1 36 0 11 rfl).trans g11) ((f242.1 36 0 12 rfl).trans g12) k4 (by omega) (he.trans (w_text_s hse wp)) _ _ _
        · have wp := w_part_3 t1e hw (by rw [xk]; exact k1)
          refine hK _ _ _ _ (⟨fun q => (by first | exact absurd q (by decide) | exact absurd rfl q | exact absurd (by decide) q), fun _ => ?_⟩)
          refine hK _ _ _ _ (hK _ _ _ _ (hK _ _ _ _ (⟨_, t_wrong (d := d + 7) ((f242.1 36 0 9 rfl).trans w1'), rfl, fun v250 M250 g250 => ?_⟩)))
          obtain ⟨rfl, f250, p250, q250⟩ := g250
          refine hK _ _ _ _ (hK _ _ _ _ (?_))
          exact bad99 _ _ _ (fr_t hf4 (P36_v f250)) ((f250.1 36 0 6 rfl).trans ((f242.1 36 0 6 rfl).trans g6)) (by rw [q250]; exact x_m1 (by omega)) ((f250.1 36 0 7 rfl).trans ((f242.1 36 0 7 rfl).trans w2')) (p250.trans ((f242.1 36 0 8 rfl).trans w3')) (by omega) (w_read_2 b1 (he.trans (w_text_x hse wp))) _ _ _
      refine hK _ _ _ _ (hK _ _ _ _ (hK _ _ _ _ (hK _ _ _ _ (hK _ _ _ _ (⟨fun _ => ?_, fun q9 => absurd u2 q9⟩)))))
      have go166 : ∀ M2 : aM, fr PRv M M2 → M2.1 36 0 6 = 0 → M2.1 36 0 9 = -1 → M2.1 36 0 7 = Int32.ofNat n → M2.1 36 0 8 = Int32.ofNat q → RWs M2 t1 → Q c t1 M2 → M2.1 36 0 11 = Int32.ofNat c.1 → M2.1 36 0 12 = Int32.ofNat c.2 → K 166 [some (vR 36 0), some (vI (Int32.ofNat i)), some (vI (Int32.ofNat (t_sk (M.1 40 0) n (t_sk (M.1 40 0) n q1 + 1)))), some (vI (Int32.ofNat kx)), none] [] M2 := by
        intro M2 hf z0 z1 z2 z3 z5 z6 z7 z8
        have ern := PRv_row hf
        have z4 := qn
        refine hK _ _ _ _ (hK _ _ _ _ (hK _ _ _ _ (⟨_, t_has (d := d) (bs := tw_east) rfl (by decide) z2 h4 z3 z4, rfl, fun v169 M169 g169 => ?_⟩)))
        obtain ⟨f169, hw0⟩ := g169
        have fa0 : fr P8 M2 M169 := f169
        have er0 : M169.1 40 0 = M.1 40 0 := PRv_row (fr_t hf (P8_v fa0))
        have hn0 : M169.1 36 0 7 = Int32.ofNat n := (fa0.1 36 0 7 rfl).trans z2
        rw [ern] at hw0
        rcases hw0 with ⟨hw0, rfl, hp0⟩ | ⟨hw0, rfl, hp0⟩
        · refine hK _ _ _ _ (⟨fun q => (by first | exact absurd q (by decide) | exact absurd rfl q | exact absurd (by decide) q), fun _ => ?_⟩)
          refine hK _ _ _ _ (hK _ _ _ _ (?_))
          exact C219 0 M169 (by decide) (by
            unfold wwy
            rw [if_pos hw0]) (fr_t hf (P8_v fa0)) ((fa0.1 36 0 6 rfl).trans z0) ⟨(fa0.1 36 0 9 rfl).trans z1, hn0, hp0, sq2⟩ (RWs_f fa0 rfl rfl rfl rfl z5) (Q_f (hQ c) fa0 (fun _ => rfl) (fun _ => rfl) z6) ((fa0.1 36 0 11 rfl).trans z7) ((fa0.1 36 0 12 rfl).trans z8)
        · refine hK _ _ _ _ (⟨fun _ => ?_, fun q => (by first | exact absurd q (by decide) | exact absurd rfl q | exact absurd (by decide) q)⟩)
          refine hK _ _ _ _ (hK _ _ _ _ (hK _ _ _ _ (⟨_, t_has (d := d) (bs := tw_north) rfl (by decide) hn0 h4 hp0 sq, rfl, fun v182 M182 g182 => ?_⟩)))
          obtain ⟨f182, hw1⟩ := g182
          have fa1 : fr P8 M2 M182 := fr_t fa0 f182
          have er1 : M182.1 40 0 = M.1 40 0 := PRv_row (fr_t hf (P8_v fa1))
          have hn1 : M182.1 36 0 7 = Int32.ofNat n := (fa1.1 36 0 7 rfl).trans z2
          rw [er0] at hw1
          rw [t_wd_s z4, t_sk_id z4] at hw1
          rcases hw1 with ⟨hw1, rfl, hp1⟩ | ⟨hw1, rfl, hp1⟩
          · refine hK _ _ _ _ (⟨fun q => (by first | exact absurd q (by decide) | exact absurd rfl q | exact absurd (by decide) q), fun _ => ?_⟩)
            refine hK _ _ _ _ (hK _ _ _ _ (?_))
            exact C219 1 M182 (by decide) (by
              unfold wwy
              rw [if_neg (show ¬ t_wd (M.1 40 0) n q tw_east = true from fun z => by rw [hw0] at z; cases z), if_pos hw1]) (fr_t hf (P8_v fa1)) ((fa1.1 36 0 6 rfl).trans z0) ⟨(fa1.1 36 0 9 rfl).trans z1, hn1, hp1, sq2⟩ (RWs_f fa1 rfl rfl rfl rfl z5) (Q_f (hQ c) fa1 (fun _ => rfl) (fun _ => rfl) z6) ((fa1.1 36 0 11 rfl).trans z7) ((fa1.1 36 0 12 rfl).trans z8)
          · refine hK _ _ _ _ (⟨fun _ => ?_, fun q => (by first | exact absurd q (by decide) | exact absurd rfl q | exact absurd (by decide) q)⟩)
            refine hK _ _ _ _ (hK _ _ _ _ (hK _ _ _ _ (⟨_, t_has (d := d) (bs := tw_west) rfl (by decide) hn1 h4 hp1 sq, rfl, fun v195 M195 g195 => ?_⟩)))
            obtain ⟨f195, hw2⟩ := g195
            have fa2 : fr P8 M2 M195 := fr_t fa1 f195
            have er2 : M195.1 40 0 = M.1 40 0 := PRv_row (fr_t hf (P8_v fa2))
            have hn2 : M195.1 36 0 7 = Int32.ofNat n := (fa2.1 36 0 7 rfl).trans z2
            rw [er1] at hw2
            rw [t_wd_s z4, t_sk_id z4] at hw2
            rcases hw2 with ⟨hw2, rfl, hp2⟩ | ⟨hw2, rfl, hp2⟩
            · refine hK _ _ _ _ (⟨fun q => (by first | exact absurd q (by decide) | exact absurd rfl q | exact absurd (by decide) q), fun _ => ?_⟩)
              refine hK _ _ _ _ (hK _ _ _ _ (?_))
              exact C219 2 M195 (by decide) (by
                unfold wwy
                rw [if_neg (show ¬ t_wd (M.1 40 0) n q tw_east = true from fun z => by rw [hw0] at z; cases z), if_neg (show ¬ t_wd (M.1 40 0) n q tw_north = true from fun z => by rw [hw1] at z; cases z), if_pos hw2]) (fr_t hf (P8_v fa2)) ((fa2.1 36 0 6 rfl).trans z0) ⟨(fa2.1 36 0 9 rfl).trans z1, hn2, hp2, sq2⟩ (RWs_f fa2 rfl rfl rfl rfl z5) (Q_f (hQ c) fa2 (fun _ => rfl) (fun _ => rfl) z6) ((fa2.1 36 0 11 rfl).trans z7) ((fa2.1 36 0 12 rfl).trans z8)
            · refine hK _ _ _ _ (⟨fun _ => ?_, fun q => (by first | exact absurd q (by decide) | exact absurd rfl q | exact absurd (by decide) q)⟩)
              refine hK _ _ _ _ (hK _ _ _ _ (hK _ _ _ _ (⟨_, t_has (d := d) (bs := tw_south) rfl (by decide) hn2 h4 hp2 sq, rfl, fun v208 M208 g208 => ?_⟩)))
              obtain ⟨f208, hw3⟩ := g208
              have fa3 : fr P8 M2 M208 := fr_t fa2 f208
              have er3 : M208.1 40 0 = M.1 40 0 := PRv_row (fr_t hf (P8_v fa3))
              have hn3 : M208.1 36 0 7 = Int32.ofNat n := (fa3.1 36 0 7 rfl).trans z2
              rw [er2] at hw3
              rw [t_wd_s z4, t_sk_id z4] at hw3
              rcases hw3 with ⟨hw3, rfl, hp3⟩ | ⟨hw3, rfl, hp3⟩
              · refine hK _ _ _ _ (⟨fun q => (by first | exact absurd q (by decide) | exact absurd rfl q | exact absurd (by decide) q), fun _ => ?_⟩)
                refine hK _ _ _ _ (hK _ _ _ _ (?_))
                exact C219 3 M208 (by decide) (by
                  unfold wwy
                  rw [if_neg (show ¬ t_wd (M.1 40 0) n q tw_east = true from fun z => by rw [hw0] at z; cases z), if_neg (show ¬ t_wd (M.1 40 0) n q tw_north = true from fun z => by rw [hw1] at z; cases z), if_neg (show ¬ t_wd (M.1 40 0) n q tw_west = true from fun z => by rw [hw2] at z; cases z), if_pos hw3]) (fr_t hf (P8_v fa3)) ((fa3.1 36 0 6 rfl).trans z0) ⟨(fa3.1 36 0 9 rfl).trans z1, hn3, hp3, sq2⟩ (RWs_f fa3 rfl rfl rfl rfl z5) (Q_f (hQ c) fa3 (fun _ => rfl) (fun _ => rfl) z6) ((fa3.1 36 0 11 rfl).trans z7) ((fa3.1 36 0 12 rfl).trans z8)
              · refine hK _ _ _ _ (⟨fun _ => ?_, fun q => (by first | exact absurd q (by decide) | exact absurd rfl q | exact absurd (by decide) q)⟩)
                have ew : wwy (M.1 40 0) n q = none := by
                  unfold wwy
                  rw [if_neg (show ¬ t_wd (M.1 40 0) n q tw_east = true from fun z => by rw [hw0] at z; cases z), if_neg (show ¬ t_wd (M.1 40 0) n q tw_north = true from fun z => by rw [hw1] at z; cases z), if_neg (show ¬ t_wd (M.1 40 0) n q tw_west = true from fun z => by rw [hw2] at z; cases z), if_neg (show ¬ t_wd (M.1 40 0) n q tw_south = true from fun z => by rw [hw3] at z; cases z)]
                refine hK _ _ _ _ (hK _ _ _ _ (hK _ _ _ _ (hK _ _ _ _ (hK _ _ _ _ (⟨fun q => (by first | exact absurd q (by decide) | exact absurd rfl q | exact absurd (by decide) q), fun _ => ?_⟩)))))
                refine hK _ _ _ _ (hK _ _ _ _ (hK _ _ _ _ (hK _ _ _ _ (⟨_, t_wrong (d := d + 7) ((fa3.1 36 0 9 rfl).trans z1), rfl, fun v232 M232 g232 => ?_⟩))))
                obtain ⟨rfl, f232, p232, q232⟩ := g232
                refine hK _ _ _ _ (hK _ _ _ _ (hK _ _ _ _ (?_)))
                exact bad99 _ _ (t_sk (M.1 40 0) n q) (fr_t hf (fr_t (P8_v fa3) (P36_v f232))) ((f232.1 36 0 6 rfl).trans ((fa3.1 36 0 6 rfl).trans z0)) (by rw [q232, hp3]; exact x_m1 (by omega)) ((f232.1 36 0 7 rfl).trans hn3) (p232.trans hp3) (by omega) (w_read_2 b1 (he.trans (w_text_x hse (w_part_2 t1e ew)))) _ _ _
      exact go166 M150 hf3 ((f150.1 36 0 6 rfl).trans y0) u2 ((f150.1 36 0 7 rfl).trans x2) u1 (RWs_f f150 rfl rfl rfl rfl r2) (Q_f (hQ c) f150 (fun _ => rfl) (fun _ => rfl) q8) ((f150.1 36 0 11 rfl).trans y7) ((f150.1 36 0 12 rfl).trans y8)
  have C14 : ∀ M2 : aM, fr PRv M M2 → M2.1 36 0 6 = 0 → RTx M2 n 0 → M2.1 36 0 15 = 0 → M2.1 36 0 16 = 0 → K 14 [some (vR 36 0), none, none, none, none] [] M2 := by
    intro M2 hf z0 hT r5 r6
    obtain ⟨z1, z2, z3, z4⟩ := hT
    have er2 := PRv_row hf
    refine hK _ _ _ _ (hK _ _ _ _ (hK _ _ _ _ (⟨_, t_has (d := d) (bs := tw_from) rfl (by decide) z2 h4 z3 z4, rfl, fun v17 M17 g17 => ?_⟩)))
    obtain ⟨f17, hw⟩ := g17
    rw [er2] at hw
    have hf17 : fr PRv M M17 := fr_t hf (P8_v f17)
    have y9 : M17.1 36 0 9 = -1 := (f17.1 36 0 9 rfl).trans z1
    have y7 : M17.1 36 0 7 = Int32.ofNat n := (f17.1 36 0 7 rfl).trans z2
    have y6 : M17.1 36 0 6 = 0 := (f17.1 36 0 6 rfl).trans z0
    have sn : t_sk (M.1 40 0) n 0 ≤ n := t_go_le (Nat.zero_le _)
    have sn2 : t_go (t_az (M.1 40 0)) n (t_sk (M.1 40 0) n 0) ≤ n := t_go_le sn
    have S17 := (rB_h (rB_v hf17 hB)).2.2.2.1
    rcases hw with ⟨hw, rfl, hp⟩ | ⟨hw, rfl, hp⟩
    · refine hK _ _ _ _ (⟨fun _ => ?_, fun q => (by first | exact absurd q (by decide) | exact absurd rfl q | exact absurd (by decide) q)⟩)
      refine hK _ _ _ _ (hK _ _ _ _ (hK _ _ _ _ (hK _ _ _ _ (hK _ _ _ _ (hK _ _ _ _ (hK _ _ _ _ (⟨x_vp (a := 3) rfl (by decide) (by decide), ?_⟩)))))))
      rw [x_cl (j := 3) (a := 3) rfl (by decide), S17.1]
      refine hK _ _ _ _ (⟨_, t_figures (d := d + 6) y9 y7 h4 hp sn2, rfl, fun v40 M40 g40 => ?_⟩)
      obtain ⟨f40, x, rfl, g40⟩ := g40
      rw [PRv_row hf17] at g40
      have hf40 : fr PRv M M40 := fr_t hf17 (P36_v f40)
      rcases g40 with ⟨q, t1, u1, u2, -⟩ | ⟨t1, u1, q, u2, u3⟩
      case inr =>
        refine hK _ _ _ _ (?_)
        refine bad46 _ q (fr_p hf40 rfl) ((f40.1 36 0 6 rfl).trans y6) u1 ((f40.1 36 0 7 rfl).trans y7) u3 (by omega) (w_read_1 ?_)
        unfold w_beg
        rw [if_pos hw, t_two_1 t1]
      obtain ⟨a1, a2, -, qn⟩ := t_num_ok t1 sn2
      obtain ⟨ex, lx⟩ := xn_le (by omega) a1 a2
      refine hK _ _ _ _ (?_)
      have hf43 : fr PRv M (a_pI M40 36 0 11 x) := fr_p hf40 rfl
      have S43 := (rB_h (rB_v hf43 hB)).2.2.2.1
      refine hK _ _ _ _ (hK _ _ _ _ (hK _ _ _ _ (hK _ _ _ _ (hK _ _ _ _ (hK _ _ _ _ (hK _ _ _ _ (⟨x_vp (a := 4) rfl (by decide) (by decide), ?_⟩)))))))
      rw [x_cl (j := 4) (a := 4) rfl (by decide), S43.2.1]
      refine hK _ _ _ _ (⟨_, t_figures (d := d + 6) (show (a_pI M40 36 0 11 x).1 36 0 9 = -1 from u2) (show (a_pI M40 36 0 11 x).1 36 0 7 = Int32.ofNat n from (f40.1 36 0 7 rfl).trans y7) h4 (show (a_pI M40 36 0 11 x).1 36 0 8 = Int32.ofNat q from u1) qn, rfl, fun v55 M55 g55 => ?_⟩)
      obtain ⟨f55, y, rfl, g55⟩ := g55
      rw [PRv_row hf43] at g55
      have hf55 : fr PRv M M55 := fr_t hf43 (P36_v f55)
      have i6 : M55.1 36 0 6 = 0 := (f55.1 36 0 6 rfl).trans ((f40.1 36 0 6 rfl).trans y6)
      have i7 : M55.1 36 0 7 = Int32.ofNat n := (f55.1 36 0 7 rfl).trans ((f40.1 36 0 7 rfl).trans y7)
      rcases g55 with ⟨q2, t2, u3, u4, -⟩ | ⟨t2, u3, q2, u4, u5⟩
      case inr =>
        refine hK _ _ _ _ (?_)
        refine bad61 _ q2 (fr_p hf55 rfl) i6 u3 i7 u5 (by omega) (w_read_1 ?_)
        unfold w_beg
        rw [if_pos hw, t_two_2 t1 t2]
      obtain ⟨a3, a4, -, qn2⟩ := t_num_ok t2 qn
      obtain ⟨ey, ly⟩ := xn_le (by omega) a3 a4
      have b1 : w_beg (M.1 40 0) n e = some ((xn x, xn y), q2) := by
        unfold w_beg
        rw [if_pos hw, t_two_3 t1 t2]
      refine hK _ _ _ _ (?_)
      refine C61 _ x y (show M55.1 36 0 11 = x from (f55.1 36 0 11 rfl).trans x_pe) x_pe (fun M3 f m1 m2 m3 m4 m5 m6 => ?_)
      have hf9 : fr PRv M M3 := fr_t (fr_p hf55 rfl) (PRg_v f)
      refine lp (xn x, xn y) q2 b1 lx ly 12 0 q2 ((xn x, xn y), 0, []) M3 rfl hf9 ((f.1 36 0 6 rfl).trans i6) ⟨(f.1 36 0 9 rfl).trans u4, (f.1 36 0 7 rfl).trans i7, (f.1 36 0 8 rfl).trans u3, qn2⟩ ⟨m1.trans ex, m2.trans ey, m3.trans ?_, m4.trans ?_⟩ ⟨lx, ly, show 0 < e.1.2 by omega⟩ ((f.1 36 0 11 rfl).trans ((show M55.1 36 0 11 = x from (f55.1 36 0 11 rfl).trans x_pe).trans ex)) ((f.1 36 0 12 rfl).trans (x_pe.trans ey)) ((hQ (xn x, xn y)).2.2 M3 lx ly (m5.trans ex) (m6.trans ey)) (by show 0 + 9 * 12 ≤ 108; decide) rfl _ _ _
      · exact (f55.1 36 0 15 rfl).trans ((f40.1 36 0 15 rfl).trans ((f17.1 36 0 15 rfl).trans r5))
      · exact (f55.1 36 0 16 rfl).trans ((f40.1 36 0 16 rfl).trans ((f17.1 36 0 16 rfl).trans r6))
    · refine hK _ _ _ _ (⟨fun q => (by first | exact absurd q (by decide) | exact absurd rfl q | exact absurd (by decide) q), fun _ => ?_⟩)
      refine hK _ _ _ _ (hK _ _ _ _ (hK _ _ _ _ (hK _ _ _ _ (⟨_, t_wrong (d := d + 7) y9, rfl, fun v28 M28 g28 => ?_⟩))))
      obtain ⟨rfl, f28, p28, q28⟩ := g28
      refine bad31 M28 (t_sk (M.1 40 0) n 0) (fr_t hf17 (P36_v f28)) ((f28.1 36 0 6 rfl).trans y6) (by rw [q28, hp]; exact x_m1 (by omega)) ((f28.1 36 0 7 rfl).trans y7) (p28.trans hp) (by omega) (w_read_1 ?_)
      exact if_neg (by rw [hw]; decide)
  refine hK _ _ _ _ (hK _ _ _ _ (⟨_, r_begW, rfl, fun v1 M1 g1 => ?_⟩))
  obtain ⟨rfl, rfl⟩ := g1
  refine hK _ _ _ _ (hK _ _ _ _ (hK _ _ _ _ (hK _ _ _ _ (hK _ _ _ _ (hK _ _ _ _ (?_))))))
  exact C14 _ (fr_p (fr_p (fr_p (fr_p (fr_p (fr_p fr_r rfl) rfl) rfl) rfl) rfl) rfl) rfl ⟨rfl, hn, rfl, Nat.zero_le _⟩ rfl rfl
