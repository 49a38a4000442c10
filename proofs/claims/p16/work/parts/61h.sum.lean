theorem x_Le {M : aM} {k i j : Nat} {x : Int64} : (a_pL M k i j x).2 k i j = x := if_pos ⟨rfl, rfl, rfl⟩
theorem x_Ln {M : aM} {k i j k' i' j' : Nat} {x : Int64} (h : ¬ (k' = k ∧ i' = i ∧ j' = j)) : (a_pL M k i j x).2 k' i' j' = M.2 k' i' j' := if_neg h
theorem cB_1 {i : Nat} {M M1 : aM} {e : xB} (h : cB i M e) (h1 : M1.1 = M.1) : cB i M1 e := cB_fr h (fun q j _ _ _ => by rw [h1])
theorem gF_1 {i k o : Nat} {M M1 : aM} (h : gF i M k o) (h1 : M1.1 = M.1) : gF i M1 k o := gF_fr h (fun q j _ _ => by rw [h1])
theorem l_at {nS d q a : Nat} {M : aM} {j : Int32} (hq : q = 25 ∨ q = 26 ∨ q = 27) (hj : j = Int32.ofNat a) (ha : a < 8) : aC nS (d + 1) 105 [vR q 0, vI j] M (fun v M' => v = some (vL (M.2 q 0 a)) ∧ M = M') (fun _ _ => False) := by
  subst hj
  rcases hq with rfl | rfl | rfl
  · refine aC_mk rfl rfl ?_
    intro K hK _
    refine hK _ _ _ _ (hK _ _ _ _ (⟨fun h => ?_, fun h => ?_⟩))
    · exact absurd (x_lt (y := 0) rfl rfl (by omega) (by decide) h) (by omega)
    · refine hK _ _ _ _ (hK _ _ _ _ (hK _ _ _ _ (hK _ _ _ _ (⟨fun h => ?_, fun h => ?_⟩))))
      · exact absurd (x_ge (y := 8) rfl rfl (by omega) (by decide) h) (by omega)
      · refine hK _ _ _ _ (hK _ _ _ _ (hK _ _ _ _ (⟨x_vp rfl (show a < 8 by omega) (by decide), ?_⟩)))
        rw [x_cl rfl (by omega)]
        exact hK _ _ _ _ (hK _ _ _ _ (⟨rfl, rfl⟩))
  · refine aC_mk rfl rfl ?_
    intro K hK _
    refine hK _ _ _ _ (hK _ _ _ _ (⟨fun h => ?_, fun h => ?_⟩))
    · exact absurd (x_lt (y := 0) rfl rfl (by omega) (by decide) h) (by omega)
    · refine hK _ _ _ _ (hK _ _ _ _ (hK _ _ _ _ (hK _ _ _ _ (⟨fun h => ?_, fun h => ?_⟩))))
      · exact absurd (x_ge (y := 8) rfl rfl (by omega) (by decide) h) (by omega)
      · refine hK _ _ _ _ (hK _ _ _ _ (hK _ _ _ _ (⟨x_vp rfl (show a < 8 by omega) (by decide), ?_⟩)))
        rw [x_cl rfl (by omega)]
        exact hK _ _ _ _ (hK _ _ _ _ (⟨rfl, rfl⟩))
  · refine aC_mk rfl rfl ?_
    intro K hK _
    refine hK _ _ _ _ (hK _ _ _ _ (⟨fun h => ?_, fun h => ?_⟩))
    · exact absurd (x_lt (y := 0) rfl rfl (by omega) (by decide) h) (by omega)
    · refine hK _ _ _ _ (hK _ _ _ _ (hK _ _ _ _ (hK _ _ _ _ (⟨fun h => ?_, fun h => ?_⟩))))
      · exact absurd (x_ge (y := 8) rfl rfl (by omega) (by decide) h) (by omega)
      · refine hK _ _ _ _ (hK _ _ _ _ (hK _ _ _ _ (⟨x_vp rfl (show a < 8 by omega) (by decide), ?_⟩)))
        rw [x_cl rfl (by omega)]
        exact hK _ _ _ _ (hK _ _ _ _ (⟨rfl, rfl⟩))
theorem l_put {nS d q a : Nat} {M : aM} {j : Int32} {x : Int64} (hq : q = 25 ∨ q = 26 ∨ q = 27) (hj : j = Int32.ofNat a) (ha : a < 8) : aC nS (d + 1) 108 [vR q 0, vI j, vL x] M (fun v M' => v = none ∧ M' = a_pL M q 0 a x) (fun _ _ => False) := by
  subst hj
  rcases hq with rfl | rfl | rfl
  · refine aC_mk rfl rfl ?_
    intro K hK _
    refine hK _ _ _ _ (hK _ _ _ _ (⟨fun h => ?_, fun h => ?_⟩))
    · exact absurd (x_lt (y := 0) rfl rfl (by omega) (by decide) h) (by omega)
    · refine hK _ _ _ _ (hK _ _ _ _ (hK _ _ _ _ (hK _ _ _ _ (⟨fun h => ?_, fun h => ?_⟩))))
      · exact absurd (x_ge (y := 8) rfl rfl (by omega) (by decide) h) (by omega)
      · refine hK _ _ _ _ (hK _ _ _ _ (hK _ _ _ _ (hK _ _ _ _ (⟨x_vp rfl (show a < 8 by omega) (by decide), ?_⟩))))
        rw [x_cl rfl (by omega)]
        exact hK _ _ _ _ (⟨rfl, rfl⟩)
  · refine aC_mk rfl rfl ?_
    intro K hK _
    refine hK _ _ _ _ (hK _ _ _ _ (⟨fun h => ?_, fun h => ?_⟩))
    · exact absurd (x_lt (y := 0) rfl rfl (by omega) (by decide) h) (by omega)
    · refine hK _ _ _ _ (hK _ _ _ _ (hK _ _ _ _ (hK _ _ _ _ (⟨fun h => ?_, fun h => ?_⟩))))
      · exact absurd (x_ge (y := 8) rfl rfl (by omega) (by decide) h) (by omega)
      · refine hK _ _ _ _ (hK _ _ _ _ (hK _ _ _ _ (hK _ _ _ _ (⟨x_vp rfl (show a < 8 by omega) (by decide), ?_⟩))))
        rw [x_cl rfl (by omega)]
        exact hK _ _ _ _ (⟨rfl, rfl⟩)
  · refine aC_mk rfl rfl ?_
    intro K hK _
    refine hK _ _ _ _ (hK _ _ _ _ (⟨fun h => ?_, fun h => ?_⟩))
    · exact absurd (x_lt (y := 0) rfl rfl (by omega) (by decide) h) (by omega)
    · refine hK _ _ _ _ (hK _ _ _ _ (hK _ _ _ _ (hK _ _ _ _ (⟨fun h => ?_, fun h => ?_⟩))))
      · exact absurd (x_ge (y := 8) rfl rfl (by omega) (by decide) h) (by omega)
      · refine hK _ _ _ _ (hK _ _ _ _ (hK _ _ _ _ (hK _ _ _ _ (⟨x_vp rfl (show a < 8 by omega) (by decide), ?_⟩))))
        rw [x_cl rfl (by omega)]
        exact hK _ _ _ _ (⟨rfl, rfl⟩)
theorem l_add {nS d q a : Nat} {M : aM} {j : Int32} {x : Int64} (hq : q = 25 ∨ q = 26 ∨ q = 27) (hj : j = Int32.ofNat a) (ha : a < 8) : aC nS (d + 1) 109 [vR q 0, vI j, vL x] M (fun v M' => v = none ∧ M' = a_pL M q 0 a (M.2 q 0 a + x)) (fun _ _ => False) := by
  subst hj
  rcases hq with rfl | rfl | rfl
  · refine aC_mk rfl rfl ?_
    intro K hK _
    refine hK _ _ _ _ (hK _ _ _ _ (⟨fun h => ?_, fun h => ?_⟩))
    · exact absurd (x_lt (y := 0) rfl rfl (by omega) (by decide) h) (by omega)
    · refine hK _ _ _ _ (hK _ _ _ _ (hK _ _ _ _ (hK _ _ _ _ (⟨fun h => ?_, fun h => ?_⟩))))
      · exact absurd (x_ge (y := 8) rfl rfl (by omega) (by decide) h) (by omega)
      · refine hK _ _ _ _ (hK _ _ _ _ (hK _ _ _ _ (hK _ _ _ _ (⟨x_vp rfl (show a < 8 by omega) (by decide), ?_⟩))))
        rw [x_cl rfl (by omega)]
        refine hK _ _ _ _ (hK _ _ _ _ (hK _ _ _ _ (⟨x_vp rfl (show a < 8 by omega) (by decide), ?_⟩)))
        rw [x_cl rfl (by omega)]
        exact hK _ _ _ _ (⟨rfl, rfl⟩)
  · refine aC_mk rfl rfl ?_
    intro K hK _
    refine hK _ _ _ _ (hK _ _ _ _ (⟨fun h => ?_, fun h => ?_⟩))
    · exact absurd (x_lt (y := 0) rfl rfl (by omega) (by decide) h) (by omega)
    · refine hK _ _ _ _ (hK _ _ _ _ (hK _ _ _ _ (hK _ _ _ _ (⟨fun h => ?_, fun h => ?_⟩))))
      · exact absurd (x_ge (y := 8) rfl rfl (by omega) (by decide) h) (by omega)
      · refine hK _ _ _ _ (hK _ _ _ _ (hK _ _ _ _ (hK _ _ _ _ (⟨x_vp rfl (show a < 8 by omega) (by decide), ?_⟩))))
        rw [x_cl rfl (by omega)]
        refine hK _ _ _ _ (hK _ _ _ _ (hK _ _ _ _ (⟨x_vp rfl (show a < 8 by omega) (by decide), ?_⟩)))
        rw [x_cl rfl (by omega)]
        exact hK _ _ _ _ (⟨rfl, rfl⟩)
  · refine aC_mk rfl rfl ?_
    intro K hK _
    refine hK _ _ _ _ (hK _ _ _ _ (⟨fun h => ?_, fun h => ?_⟩))
    · exact absurd (x_lt (y := 0) rfl rfl (by omega) (by decide) h) (by omega)
    · refine hK _ _ _ _ (hK _ _ _ _ (hK _ _ _ _ (hK _ _ _ _ (⟨fun h => ?_, fun h => ?_⟩))))
      · exact absurd (x_ge (y := 8) rfl rfl (by omega) (by decide) h) (by omega)
      · refine hK _ _ _ _ (hK _ _ _ _ (hK _ _ _ _ (hK _ _ _ _ (⟨x_vp rfl (show a < 8 by omega) (by decide), ?_⟩))))
        rw [x_cl rfl (by omega)]
        refine hK _ _ _ _ (hK _ _ _ _ (hK _ _ _ _ (⟨x_vp rfl (show a < 8 by omega) (by decide), ?_⟩)))
        rw [x_cl rfl (by omega)]
        exact hK _ _ _ _ (⟨rfl, rfl⟩)
theorem l_fill {nS d q : Nat} {M : aM} {x : Int64} (hq : q = 25 ∨ q = 26 ∨ q = 27) : aC nS (d + 1) 111 [vR q 0, vL x] M (fun v M' => v = none ∧ M'.1 = M.1 ∧ (∀ i, i < 8 → M'.2 q 0 i = x) ∧ ∀ k i j, ¬ k = q → M'.2 k i j = M.2 k i j) (fun _ _ => False) := by
  rcases hq with rfl | rfl | rfl
  · refine aC_mk rfl rfl ?_
    intro K hK _
    have lp : ∀ (m j : Nat) (M1 : aM), 8 - j = m → j ≤ 8 → M1.1 = M.1 → (∀ i, i < j → M1.2 25 0 i = x) → (∀ k i j, ¬ k = 25 → M1.2 k i j = M.2 k i j) → K 2 [some (vR 25 0), some (vL x), none, some (vI (Int32.ofNat j))] [] M1 := by
      intro m
      induction m with
      | zero =>
        intro j M1 hm hj h1 h2 h3
        refine hK _ _ _ _ (hK _ _ _ _ (hK _ _ _ _ (hK _ _ _ _ (⟨fun h => ?_, fun h => ?_⟩))))
        · exact hK _ _ _ _ (⟨rfl, h1, fun i hi => h2 i (by omega), h3⟩)
        · exact absurd (x_nge (x := j) (y := 8) rfl rfl (by omega) (by decide) h) (by omega)
      | succ m ih =>
        intro j M1 hm hj h1 h2 h3
        refine hK _ _ _ _ (hK _ _ _ _ (hK _ _ _ _ (hK _ _ _ _ (⟨fun h => ?_, fun h => ?_⟩))))
        · exact absurd (x_ge (x := j) (y := 8) rfl rfl (by omega) (by decide) h) (by omega)
        · refine hK _ _ _ _ (hK _ _ _ _ (hK _ _ _ _ (hK _ _ _ _ (⟨x_vp rfl (show j < 8 by omega) (by decide), ?_⟩))))
          rw [x_cl rfl (by omega)]
          refine hK _ _ _ _ (hK _ _ _ _ (?_))
          rw [hI_s]
          refine ih (j + 1) _ (by omega) (by omega) h1 (fun i hi => ?_) (fun k i j hk => (x_Ln (fun z => hk z.1)).trans (h3 k i j hk))
          by_cases he : i = j
          · rw [he]
            exact x_Le
          · exact (x_Ln (fun z => he z.2.2)).trans (h2 i (by omega))
    refine hK _ _ _ _ (hK _ _ _ _ (?_))
    exact lp _ 0 M rfl (Nat.zero_le _) rfl (fun i hi => absurd hi (Nat.not_lt_zero _)) (fun _ _ _ _ => rfl)
  · refine aC_mk rfl rfl ?_
    intro K hK _
    have lp : ∀ (m j : Nat) (M1 : aM), 8 - j = m → j ≤ 8 → M1.1 = M.1 → (∀ i, i < j → M1.2 26 0 i = x) → (∀ k i j, ¬ k = 26 → M1.2 k i j = M.2 k i j) → K 2 [some (vR 26 0), some (vL x), none, some (vI (Int32.ofNat j))] [] M1 := by
      intro m
      induction m with
      | zero =>
        intro j M1 hm hj h1 h2 h3
        refine hK _ _ _ _ (hK _ _ _ _ (hK _ _ _ _ (hK _ _ _ _ (⟨fun h => ?_, fun h => ?_⟩))))
        · exact hK _ _ _ _ (⟨rfl, h1, fun i hi => h2 i (by omega), h3⟩)
        · exact absurd (x_nge (x := j) (y := 8) rfl rfl (by omega) (by decide) h) (by omega)
      | succ m ih =>
        intro j M1 hm hj h1 h2 h3
        refine hK _ _ _ _ (hK _ _ _ _ (hK _ _ _ _ (hK _ _ _ _ (⟨fun h => ?_, fun h => ?_⟩))))
        · exact absurd (x_ge (x := j) (y := 8) rfl rfl (by omega) (by decide) h) (by omega)
        · refine hK _ _ _ _ (hK _ _ _ _ (hK _ _ _ _ (hK _ _ _ _ (⟨x_vp rfl (show j < 8 by omega) (by decide), ?_⟩))))
          rw [x_cl rfl (by omega)]
          refine hK _ _ _ _ (hK _ _ _ _ (?_))
          rw [hI_s]
          refine ih (j + 1) _ (by omega) (by omega) h1 (fun i hi => ?_) (fun k i j hk => (x_Ln (fun z => hk z.1)).trans (h3 k i j hk))
          by_cases he : i = j
          · rw [he]
            exact x_Le
          · exact (x_Ln (fun z => he z.2.2)).trans (h2 i (by omega))
    refine hK _ _ _ _ (hK _ _ _ _ (?_))
    exact lp _ 0 M rfl (Nat.zero_le _) rfl (fun i hi => absurd hi (Nat.not_lt_zero _)) (fun _ _ _ _ => rfl)
  · refine aC_mk rfl rfl ?_
    intro K hK _
    have lp : ∀ (m j : Nat) (M1 : aM), 8 - j = m → j ≤ 8 → M1.1 = M.1 → (∀ i, i < j → M1.2 27 0 i = x) → (∀ k i j, ¬ k = 27 → M1.2 k i j = M.2 k i j) → K 2 [some (vR 27 0), some (vL x), none, some (vI (Int32.ofNat j))] [] M1 := by
      intro m
      induction m with
      | zero =>
        intro j M1 hm hj h1 h2 h3
        refine hK _ _ _ _ (hK _ _ _ _ (hK _ _ _ _ (hK _ _ _ _ (⟨fun h => ?_, fun h => ?_⟩))))
        · exact hK _ _ _ _ (⟨rfl, h1, fun i hi => h2 i (by omega), h3⟩)
        · exact absurd (x_nge (x := j) (y := 8) rfl rfl (by omega) (by decide) h) (by omega)
      | succ m ih =>
        intro j M1 hm hj h1 h2 h3
        refine hK _ _ _ _ (hK _ _ _ _ (hK _ _ _ _ (hK _ _ _ _ (⟨fun h => ?_, fun h => ?_⟩))))
        · exact absurd (x_ge (x := j) (y := 8) rfl rfl (by omega) (by decide) h) (by omega)
        · refine hK _ _ _ _ (hK _ _ _ _ (hK _ _ _ _ (hK _ _ _ _ (⟨x_vp rfl (show j < 8 by omega) (by decide), ?_⟩))))
          rw [x_cl rfl (by omega)]
          refine hK _ _ _ _ (hK _ _ _ _ (?_))
          rw [hI_s]
          refine ih (j + 1) _ (by omega) (by omega) h1 (fun i hi => ?_) (fun k i j hk => (x_Ln (fun z => hk z.1)).trans (h3 k i j hk))
          by_cases he : i = j
          · rw [he]
            exact x_Le
          · exact (x_Ln (fun z => he z.2.2)).trans (h2 i (by omega))
    refine hK _ _ _ _ (hK _ _ _ _ (?_))
    exact lp _ 0 M rfl (Nat.zero_le _) rfl (fun i hi => absurd hi (Nat.not_lt_zero _)) (fun _ _ _ _ => rfl)
/-- the first of all -/
def d0 (j : Nat) : Int64 := if j = 0 then 1 else 0
theorem l_begin {nS d : Nat} {M : aM} : aC nS (d + 2) 113 [vR 24 0] M (fun v M' => v = none ∧ M'.1 = M.1 ∧ ∀ i, i < 8 → M'.2 25 0 i = d0 i) (fun _ _ => False) := by
  refine aC_mk rfl rfl ?_
  intro K hK _
  refine hK _ _ _ _ (hK _ _ _ _ (hK _ _ _ _ (hK _ _ _ _ (⟨_, l_fill (Or.inl rfl), rfl, fun v5 M5 g5 => ?_⟩))))
  obtain ⟨rfl, h1, h2, -⟩ := g5
  refine hK _ _ _ _ (hK _ _ _ _ (hK _ _ _ _ (hK _ _ _ _ (hK _ _ _ _ (⟨_, l_put (a := 0) (Or.inl rfl) rfl (by decide), rfl, fun v14 M14 g14 => ?_⟩)))))
  obtain ⟨rfl, rfl⟩ := g14
  refine hK _ _ _ _ (⟨rfl, h1, fun i hi => ?_⟩)
  by_cases he : i = 0
  · rw [he]
    exact x_Le
  · exact (x_Ln (fun z => he z.2.2)).trans ((h2 i hi).trans (if_neg he).symm)
/-- the weight of a turn in a square -/
def wi (e : xB) (s t : Nat) : Int32 := if e.2.2.2.1 s = 1 then 1 else e.2.2.1 t
theorem b_weightIn {nS d s t : Nat} {M : aM} {x y : Int32} {e : xB} (hB : cB 0 M e) (hx : x = Int32.ofNat s) (hs : s < 16) (hy : y = Int32.ofNat t) (ht : t < 8) : aC nS (d + 3) 33 [vR 4 0, vI x, vI y] M (fun v M' => v = some (vI (wi e s t)) ∧ M = M') (fun _ _ => False) := by
  subst hx
  subst hy
  refine aC_mk rfl rfl ?_
  intro K hK _
  refine hK _ _ _ _ (hK _ _ _ _ (hK _ _ _ _ (⟨_, b_isHole rfl hs, rfl, fun v2 M2 g2 => ?_⟩)))
  obtain ⟨g2, rfl⟩ := g2
  rw [hB.2.2.2.2.1 s hs] at g2
  rcases g2 with ⟨h, rfl⟩ | ⟨h, rfl⟩
  · refine hK _ _ _ _ (⟨fun q => ?_, fun q => ?_⟩)
    · exact absurd q (by decide)
    · exact hK _ _ _ _ (hK _ _ _ _ (hK _ _ _ _ (⟨by rw [show wi e s t = 1 from if_pos h], rfl⟩)))
  · refine hK _ _ _ _ (⟨fun q => ?_, fun q => ?_⟩)
    · refine hK _ _ _ _ (hK _ _ _ _ (hK _ _ _ _ (⟨_, b_weight ht, rfl, fun v14 M14 g14 => ?_⟩)))
      obtain ⟨rfl, rfl⟩ := g14
      rw [hB.2.2.2.1 t ht]
      exact hK _ _ _ _ (⟨by rw [show wi e s t = e.2.2.1 t from if_neg h], rfl⟩)
    · exact absurd rfl q
theorem l_takeSquare {nS d s : Nat} {M : aM} {x : Int32} {e : xB} (hB : cB 0 M e) (hx : x = Int32.ofNat s) (hs : s < 16) : aC nS (d + 4) 116 [vR 24 0, vI x] M (fun v M' => v = none ∧ M'.1 = M.1 ∧ (∀ t, t < e.1.2 → M'.2 27 0 t = (wi e s t).toInt64) ∧ ∀ k i j, ¬ k = 27 → M'.2 k i j = M.2 k i j) (fun _ _ => False) := by
  subst hx
  obtain ⟨ho, o2, o8, -⟩ := cB_h hB
  refine aC_mk rfl rfl ?_
  intro K hK _
  have lp : ∀ (m t : Nat) (y : Int32) (M1 : aM), e.1.2 - t = m → t ≤ e.1.2 → y = Int32.ofNat t → M1.1 = M.1 → (∀ i, i < t → M1.2 27 0 i = (wi e s i).toInt64) → (∀ k i j, ¬ k = 27 → M1.2 k i j = M.2 k i j) → K 2 [some (vR 24 0), some (vI (Int32.ofNat s)), some (vI y)] [] M1 := by
    intro m
    induction m with
    | zero =>
      intro t y M1 hm ht hy h1 h2 h3
      subst hy
      refine hK _ _ _ _ (hK _ _ _ _ (hK _ _ _ _ (hK _ _ _ _ (⟨_, b_order, rfl, fun v7 M7 g7 => ?_⟩))))
      obtain ⟨rfl, rfl⟩ := g7
      rw [h1, ho]
      refine hK _ _ _ _ (⟨fun h => ?_, fun h => ?_⟩)
      · exact hK _ _ _ _ (⟨rfl, h1, fun i hi => h2 i (by omega), h3⟩)
      · exact absurd (x_nge (x := t) (y := e.1.2) rfl rfl (by omega) (by omega) h) (by omega)
    | succ m ih =>
      intro t y M1 hm ht hy h1 h2 h3
      subst hy
      refine hK _ _ _ _ (hK _ _ _ _ (hK _ _ _ _ (hK _ _ _ _ (⟨_, b_order, rfl, fun v7 M7 g7 => ?_⟩))))
      obtain ⟨rfl, rfl⟩ := g7
      rw [h1, ho]
      refine hK _ _ _ _ (⟨fun h => ?_, fun h => ?_⟩)
      · exact absurd (x_ge (x := t) (y := e.1.2) rfl rfl (by omega) (by omega) h) (by omega)
      · refine hK _ _ _ _ (hK _ _ _ _ (hK _ _ _ _ (hK _ _ _ _ (hK _ _ _ _ (hK _ _ _ _ (hK _ _ _ _ (hK _ _ _ _ (⟨_, b_weightIn (cB_1 hB h1) rfl hs rfl (show t < 8 by omega), rfl, fun v24 M24 g24 => ?_⟩))))))))
        obtain ⟨rfl, rfl⟩ := g24
        refine hK _ _ _ _ (hK _ _ _ _ (⟨_, l_put (Or.inr (Or.inr rfl)) rfl (show t < 8 by omega), rfl, fun v28 M28 g28 => ?_⟩))
        obtain ⟨rfl, rfl⟩ := g28
        refine hK _ _ _ _ (hK _ _ _ _ (?_))
        refine ih (t + 1) _ _ (by omega) (by omega) hI_s h1 (fun i hi => ?_) (fun k i j hk => (x_Ln (fun z => hk z.1)).trans (h3 k i j hk))
        by_cases he : i = t
        · rw [he]
          exact x_Le
        · exact (x_Ln (fun z => he z.2.2)).trans (h2 i (by omega))
  refine hK _ _ _ _ (hK _ _ _ _ (?_))
  exact lp _ 0 _ M rfl (Nat.zero_le _) rfl rfl (fun i hi => absurd hi (Nat.not_lt_zero _)) (fun _ _ _ _ => rfl)
/-- ways and factors, multiplied once -/
def cvi (k o : Nat) (f g : Nat → Int64) (a : Nat) (nx : Nat → Int64) : Nat → Nat → Int64
  | 0 => nx
  | b + 1 => fun c => if c = rt k o a b then cvi k o f g a nx b c + f a * g b else cvi k o f g a nx b c
def cvo (k o : Nat) (f g : Nat → Int64) : Nat → Nat → Int64
  | 0 => fun _ => 0
  | a + 1 => cvi k o f g a (cvo k o f g a) o
def conv (k o : Nat) (f g : Nat → Int64) : Nat → Int64 := cvo k o f g o
theorem l_multiplyOnce {nS d k o : Nat} {M : aM} {f g : Nat → Int64} (hF : gF 0 M k o) (hf : ∀ t, t < o → M.2 25 0 t = f t) (hg : ∀ t, t < o → M.2 27 0 t = g t) : aC nS (d + 2) 115 [vR 24 0] M (fun v M' => v = none ∧ M'.1 = M.1 ∧ (∀ t, t < o → M'.2 25 0 t = conv k o f g t) ∧ ∀ k i j, ¬ k = 25 → ¬ k = 26 → M'.2 k i j = M.2 k i j) (fun _ _ => False) := by
  have hq := hF.1.1
  obtain ⟨o2, o8, k3⟩ := gP_o hq
  have ho : ∀ {M1 : aM}, M1.1 = M.1 → M1.1 5 0 1 = Int32.ofNat o := fun h => by rw [h]; exact hF.1.2.2
  refine aC_mk rfl rfl ?_
  intro K hK _
  have cp : ∀ (m t : Nat) (y : Int32) (l2 : Option aV) (M1 : aM), o - t = m → t ≤ o → y = Int32.ofNat t → M1.1 = M.1 → (∀ i, i < t → M1.2 25 0 i = conv k o f g i) → (∀ i, i < 8 → M1.2 26 0 i = conv k o f g i) → (∀ k i j, ¬ k = 25 → ¬ k = 26 → M1.2 k i j = M.2 k i j) → K 81 [some (vR 24 0), some (vI y), l2] [] M1 := by
    intro m
    induction m with
    | zero =>
      intro t y l2 M1 hm ht hy h1 h2 h3 h4
      subst hy
      refine hK _ _ _ _ (hK _ _ _ _ (hK _ _ _ _ (hK _ _ _ _ (⟨_, b_order, rfl, fun v86 M86 g86 => ?_⟩))))
      obtain ⟨rfl, rfl⟩ := g86
      rw [ho h1]
      refine hK _ _ _ _ (⟨fun h => ?_, fun h => ?_⟩)
      · exact hK _ _ _ _ (⟨rfl, h1, fun i hi => h2 i (by omega), h4⟩)
      · exact absurd (x_nge (x := t) (y := o) rfl rfl (by omega) (by omega) h) (by omega)
    | succ m ih =>
      intro t y l2 M1 hm ht hy h1 h2 h3 h4
      subst hy
      refine hK _ _ _ _ (hK _ _ _ _ (hK _ _ _ _ (hK _ _ _ _ (⟨_, b_order, rfl, fun v86 M86 g86 => ?_⟩))))
      obtain ⟨rfl, rfl⟩ := g86
      rw [ho h1]
      refine hK _ _ _ _ (⟨fun h => ?_, fun h => ?_⟩)
      · exact absurd (x_ge (x := t) (y := o) rfl rfl (by omega) (by omega) h) (by omega)
      · refine hK _ _ _ _ (hK _ _ _ _ (hK _ _ _ _ (hK _ _ _ _ (hK _ _ _ _ (hK _ _ _ _ (hK _ _ _ _ (⟨_, l_at (Or.inr (Or.inl rfl)) rfl (show t < 8 by omega), rfl, fun v102 M102 g102 => ?_⟩)))))))
        obtain ⟨rfl, rfl⟩ := g102
        refine hK _ _ _ _ (⟨_, l_put (Or.inl rfl) rfl (show t < 8 by omega), rfl, fun v105 M105 g105 => ?_⟩)
        obtain ⟨rfl, rfl⟩ := g105
        refine hK _ _ _ _ (hK _ _ _ _ (?_))
        refine ih (t + 1) _ _ _ (by omega) (by omega) hI_s h1 (fun i hi => ?_) (fun i hi => (x_Ln (fun z => absurd z.1 (by decide))).trans (h3 i hi)) (fun k i j a b => (x_Ln (fun z => a z.1)).trans (h4 k i j a b))
        by_cases he : i = t
        · rw [he]
          exact x_Le.trans (h3 t (by omega))
        · exact (x_Ln (fun z => he z.2.2)).trans (h2 i (by omega))
  have inn : ∀ (a : Nat), a < o → (∀ (l2 : Option aV) (M1 : aM), M1.1 = M.1 → (∀ i, i < 8 → M1.2 26 0 i = cvo k o f g (a + 1) i) → (∀ k i j, ¬ k = 26 → M1.2 k i j = M.2 k i j) → K 73 [some (vR 24 0), some (vI (Int32.ofNat a)), l2] [] M1) → ∀ (m b : Nat) (y : Int32) (M1 : aM), o - b = m → b ≤ o → y = Int32.ofNat b → M1.1 = M.1 → (∀ i, i < 8 → M1.2 26 0 i = cvi k o f g a (cvo k o f g a) b i) → (∀ k i j, ¬ k = 26 → M1.2 k i j = M.2 k i j) → K 23 [some (vR 24 0), some (vI (Int32.ofNat a)), some (vI y)] [] M1 := by
    intro a ha out m
    induction m with
    | zero =>
      intro b y M1 hm hb hy h1 h2 h3
      subst hy
      refine hK _ _ _ _ (hK _ _ _ _ (hK _ _ _ _ (hK _ _ _ _ (⟨_, b_order, rfl, fun v28 M28 g28 => ?_⟩))))
      obtain ⟨rfl, rfl⟩ := g28
      rw [ho h1]
      refine hK _ _ _ _ (⟨fun h => ?_, fun h => ?_⟩)
      · exact out _ _ h1 (fun i hi => by rw [h2 i hi, show b = o by omega]; rfl) h3
      · exact absurd (x_nge (x := b) (y := o) rfl rfl (by omega) (by omega) h) (by omega)
    | succ m ih =>
      intro b y M1 hm hb hy h1 h2 h3
      subst hy
      have hbo : b < o := by omega
      have r1 := rt_lt hq ha hbo
      refine hK _ _ _ _ (hK _ _ _ _ (hK _ _ _ _ (hK _ _ _ _ (⟨_, b_order, rfl, fun v28 M28 g28 => ?_⟩))))
      obtain ⟨rfl, rfl⟩ := g28
      rw [ho h1]
      refine hK _ _ _ _ (⟨fun h => ?_, fun h => ?_⟩)
      · exact absurd (x_ge (x := b) (y := o) rfl rfl (by omega) (by omega) h) (by omega)
      · refine hK _ _ _ _ (hK _ _ _ _ (hK _ _ _ _ (hK _ _ _ _ (hK _ _ _ _ (hK _ _ _ _ (hK _ _ _ _ (⟨_, g_ctimes hq (gF_1 hF h1).2.1 rfl rfl ha hbo, rfl, fun v44 M44 g44 => ?_⟩)))))))
        obtain ⟨rfl, rfl⟩ := g44
        refine hK _ _ _ _ (hK _ _ _ _ (hK _ _ _ _ (hK _ _ _ _ (⟨_, l_at (Or.inl rfl) rfl (show a < 8 by omega), rfl, fun v52 M52 g52 => ?_⟩))))
        obtain ⟨rfl, rfl⟩ := g52
        refine hK _ _ _ _ (hK _ _ _ _ (hK _ _ _ _ (hK _ _ _ _ (⟨_, l_at (Or.inr (Or.inr rfl)) rfl (show b < 8 by omega), rfl, fun v60 M60 g60 => ?_⟩))))
        obtain ⟨rfl, rfl⟩ := g60
        refine hK _ _ _ _ (hK _ _ _ _ (⟨_, l_add (Or.inr (Or.inl rfl)) rfl (show rt k o a b < 8 by omega), rfl, fun v64 M64 g64 => ?_⟩))
        obtain ⟨rfl, rfl⟩ := g64
        rw [h3 25 0 a (by decide), hf a ha, h3 27 0 b (by decide), hg b hbo]
        refine hK _ _ _ _ (hK _ _ _ _ (?_))
        refine ih (b + 1) _ _ (by omega) (by omega) hI_s h1 (fun i hi => ?_) (fun k i j hk => (x_Ln (fun z => hk z.1)).trans (h3 k i j hk))
        have e9 : cvi k o f g a (cvo k o f g a) (b + 1) i = if i = rt k o a b then cvi k o f g a (cvo k o f g a) b i + f a * g b else cvi k o f g a (cvo k o f g a) b i := rfl
        by_cases he : i = rt k o a b
        · rw [e9, if_pos he, he, x_Le, h2 (rt k o a b) (by omega)]
        · rw [e9, if_neg he, x_Ln (fun z => he z.2.2), h2 i hi]
  have lp : ∀ (m a : Nat) (y : Int32) (l2 : Option aV) (M1 : aM), o - a = m → a ≤ o → y = Int32.ofNat a → M1.1 = M.1 → (∀ i, i < 8 → M1.2 26 0 i = cvo k o f g a i) → (∀ k i j, ¬ k = 26 → M1.2 k i j = M.2 k i j) → K 10 [some (vR 24 0), some (vI y), l2] [] M1 := by
    intro m
    induction m with
    | zero =>
      intro a y l2 M1 hm ha hy h1 h2 h3
      subst hy
      refine hK _ _ _ _ (hK _ _ _ _ (hK _ _ _ _ (hK _ _ _ _ (⟨_, b_order, rfl, fun v15 M15 g15 => ?_⟩))))
      obtain ⟨rfl, rfl⟩ := g15
      rw [ho h1]
      refine hK _ _ _ _ (⟨fun h => ?_, fun h => ?_⟩)
      · refine hK _ _ _ _ (hK _ _ _ _ (?_))
        exact cp _ 0 _ _ _ rfl (Nat.zero_le _) rfl h1 (fun i hi => absurd hi (Nat.not_lt_zero _)) (fun i hi => by rw [h2 i hi, show a = o by omega]; rfl) (fun k i j _ hk => h3 k i j hk)
      · exact absurd (x_nge (x := a) (y := o) rfl rfl (by omega) (by omega) h) (by omega)
    | succ m ih =>
      intro a y l2 M1 hm ha hy h1 h2 h3
      subst hy
      refine hK _ _ _ _ (hK _ _ _ _ (hK _ _ _ _ (hK _ _ _ _ (⟨_, b_order, rfl, fun v15 M15 g15 => ?_⟩))))
      obtain ⟨rfl, rfl⟩ := g15
      rw [ho h1]
      refine hK _ _ _ _ (⟨fun h => ?_, fun h => ?_⟩)
      · exact absurd (x_ge (x := a) (y := o) rfl rfl (by omega) (by omega) h) (by omega)
      · refine hK _ _ _ _ (hK _ _ _ _ (?_))
        refine inn a (by omega) (fun l2 M2 h1 h2 h3 => ?_) _ 0 _ _ rfl (Nat.zero_le _) rfl h1 h2 h3
        refine hK _ _ _ _ (hK _ _ _ _ (?_))
        exact ih (a + 1) _ _ _ (by omega) (by omega) hI_s h1 h2 h3
  refine hK _ _ _ _ (hK _ _ _ _ (hK _ _ _ _ (hK _ _ _ _ (⟨_, l_fill (Or.inr (Or.inl rfl)), rfl, fun v5 M5 g5 => ?_⟩))))
  obtain ⟨rfl, h1, h2, h3⟩ := g5
  refine hK _ _ _ _ (hK _ _ _ _ (?_))
  exact lp _ 0 _ _ _ rfl (Nat.zero_le _) rfl h1 h2 h3
theorem sl_e {f g : Nat → Int64} : ∀ n, (∀ t, t < n → f t = g t) → sl f n = sl g n
  | 0, _ => rfl
  | n + 1, h => by
    show sl f n + f n = sl g n + g n
    rw [sl_e n (fun t ht => h t (by omega)), h n (by omega)]
theorem l_together {nS d k o : Nat} {M : aM} {f : Nat → Int64} (hF : gF 0 M k o) (hf : ∀ t, t < o → M.2 25 0 t = f t) : aC nS (d + 2) 118 [vR 24 0, vR 25 0] M (fun v M' => v = some (vL (sl f o)) ∧ M = M') (fun _ _ => False) := by
  obtain ⟨o2, o8, k3⟩ := gP_o hF.1.1
  refine aC_mk rfl rfl ?_
  intro K hK _
  have lp : ∀ (m t : Nat) (S : Int64) (y : Int32), o - t = m → t ≤ o → S = sl f t → y = Int32.ofNat t → K 5 [some (vR 24 0), some (vR 25 0), some (vL S), none, some (vI y)] [] M := by
    intro m
    induction m with
    | zero =>
      intro t S y hm ht hS hy
      subst hS
      subst hy
      refine hK _ _ _ _ (hK _ _ _ _ (hK _ _ _ _ (hK _ _ _ _ (⟨_, b_order, rfl, fun v11 M11 g11 => ?_⟩))))
      obtain ⟨rfl, rfl⟩ := g11
      rw [hF.1.2.2]
      refine hK _ _ _ _ (⟨fun h => ?_, fun h => ?_⟩)
      · exact hK _ _ _ _ (hK _ _ _ _ (⟨by rw [show t = o by omega], rfl⟩))
      · exact absurd (x_nge (x := t) (y := o) rfl rfl (by omega) (by omega) h) (by omega)
    | succ m ih =>
      intro t S y hm ht hS hy
      subst hS
      subst hy
      refine hK _ _ _ _ (hK _ _ _ _ (hK _ _ _ _ (hK _ _ _ _ (⟨_, b_order, rfl, fun v11 M11 g11 => ?_⟩))))
      obtain ⟨rfl, rfl⟩ := g11
      rw [hF.1.2.2]
      refine hK _ _ _ _ (⟨fun h => ?_, fun h => ?_⟩)
      · exact absurd (x_ge (x := t) (y := o) rfl rfl (by omega) (by omega) h) (by omega)
      · refine hK _ _ _ _ (hK _ _ _ _ (hK _ _ _ _ (hK _ _ _ _ (⟨_, l_at (Or.inl rfl) rfl (show t < 8 by omega), rfl, fun v21 M21 g21 => ?_⟩))))
        obtain ⟨rfl, rfl⟩ := g21
        rw [hf t (by omega)]
        refine hK _ _ _ _ (hK _ _ _ _ (hK _ _ _ _ (hK _ _ _ _ (?_))))
        exact ih (t + 1) _ _ (by omega) (by omega) rfl hI_s
  refine hK _ _ _ _ (hK _ _ _ _ (hK _ _ _ _ (hK _ _ _ _ (?_))))
  exact lp _ 0 _ _ rfl (Nat.zero_le _) rfl rfl
/-- over the shape -/
def osh (k o s : Nat) (f : Nat → Int64) : Int64 := if s = 0 then sl f o else if s = 2 then sl (fun t => f t * (Int32.ofNat (cmo k o t o)).toInt64) o else (Int32.ofNat o).toInt64 * sl f o
theorem l_overShape {nS d k o s : Nat} {M : aM} {f : Nat → Int64} (hF : gF 0 M k o) (hs : M.1 4 0 3 = Int32.ofNat s) (s2 : s ≤ 2) (hf : ∀ t, t < o → M.2 25 0 t = f t) : aC nS (d + 3) 119 [vR 24 0] M (fun v M' => v = some (vL (osh k o s f)) ∧ M = M') (fun _ _ => False) := by
  obtain ⟨o2, o8, k3⟩ := gP_o hF.1.1
  refine aC_mk rfl rfl ?_
  intro K hK _
  have lp : ∀ (m t : Nat) (S : Int64) (y : Int32), s = 2 → o - t = m → t ≤ o → S = sl (fun t => f t * (Int32.ofNat (cmo k o t o)).toInt64) t → y = Int32.ofNat t → K 51 [some (vR 24 0), some (vL S), none, some (vI y)] [] M := by
    intro m
    induction m with
    | zero =>
      intro t S y s2 hm ht hS hy
      subst hS
      subst hy
      refine hK _ _ _ _ (hK _ _ _ _ (hK _ _ _ _ (hK _ _ _ _ (⟨_, b_order, rfl, fun v56 M56 g56 => ?_⟩))))
      obtain ⟨rfl, rfl⟩ := g56
      rw [hF.1.2.2]
      refine hK _ _ _ _ (⟨fun h => ?_, fun h => ?_⟩)
      · exact hK _ _ _ _ (hK _ _ _ _ (⟨by rw [show t = o by omega, s2]; rfl, rfl⟩))
      · exact absurd (x_nge (x := t) (y := o) rfl rfl (by omega) (by omega) h) (by omega)
    | succ m ih =>
      intro t S y s2 hm ht hS hy
      subst hS
      subst hy
      refine hK _ _ _ _ (hK _ _ _ _ (hK _ _ _ _ (hK _ _ _ _ (⟨_, b_order, rfl, fun v56 M56 g56 => ?_⟩))))
      obtain ⟨rfl, rfl⟩ := g56
      rw [hF.1.2.2]
      refine hK _ _ _ _ (⟨fun h => ?_, fun h => ?_⟩)
      · exact absurd (x_ge (x := t) (y := o) rfl rfl (by omega) (by omega) h) (by omega)
      · refine hK _ _ _ _ (hK _ _ _ _ (hK _ _ _ _ (hK _ _ _ _ (hK _ _ _ _ (⟨_, l_at (Or.inl rfl) rfl (show t < 8 by omega), rfl, fun v68 M68 g68 => ?_⟩)))))
        obtain ⟨rfl, rfl⟩ := g68
        rw [hf t (by omega)]
        refine hK _ _ _ _ (hK _ _ _ _ (hK _ _ _ _ (hK _ _ _ _ (⟨_, b_commutators hF rfl (show t < 8 by omega), rfl, fun v76 M76 g76 => ?_⟩))))
        obtain ⟨rfl, rfl⟩ := g76
        refine hK _ _ _ _ (hK _ _ _ _ (hK _ _ _ _ (hK _ _ _ _ (hK _ _ _ _ (hK _ _ _ _ (?_))))))
        exact ih (t + 1) _ _ s2 (by omega) (by omega) rfl hI_s
  refine hK _ _ _ _ (hK _ _ _ _ (hK _ _ _ _ (⟨_, b_isFlat hs s2, rfl, fun v4 M4 g4 => ?_⟩)))
  obtain ⟨g4, rfl⟩ := g4
  rcases g4 with ⟨s0, rfl⟩ | ⟨s0, rfl⟩
  · refine hK _ _ _ _ (⟨fun q => ?_, fun q => ?_⟩)
    · exact absurd q (by decide)
    · refine hK _ _ _ _ (hK _ _ _ _ (hK _ _ _ _ (hK _ _ _ _ (⟨_, l_together hF hf, rfl, fun v15 M15 g15 => ?_⟩))))
      obtain ⟨rfl, rfl⟩ := g15
      exact hK _ _ _ _ (⟨by rw [show osh k o s f = sl f o from if_pos s0], rfl⟩)
  · refine hK _ _ _ _ (⟨fun q => ?_, fun q => ?_⟩)
    · refine hK _ _ _ _ (hK _ _ _ _ (hK _ _ _ _ (⟨_, b_isClosed hs s2, rfl, fun v23 M23 g23 => ?_⟩)))
      obtain ⟨g23, rfl⟩ := g23
      rcases g23 with ⟨s1, rfl⟩ | ⟨s1, rfl⟩
      · refine hK _ _ _ _ (⟨fun q => ?_, fun q => ?_⟩)
        · refine hK _ _ _ _ (hK _ _ _ _ (hK _ _ _ _ (hK _ _ _ _ (?_))))
          exact lp _ 0 _ _ s1 rfl (Nat.zero_le _) rfl rfl
        · exact absurd q (by decide)
      · refine hK _ _ _ _ (⟨fun q => ?_, fun q => ?_⟩)
        · exact absurd rfl q
        · refine hK _ _ _ _ (hK _ _ _ _ (hK _ _ _ _ (⟨_, b_order, rfl, fun v33 M33 g33 => ?_⟩)))
          obtain ⟨rfl, rfl⟩ := g33
          rw [hF.1.2.2]
          refine hK _ _ _ _ (hK _ _ _ _ (hK _ _ _ _ (hK _ _ _ _ (hK _ _ _ _ (⟨_, l_together hF hf, rfl, fun v42 M42 g42 => ?_⟩)))))
          obtain ⟨rfl, rfl⟩ := g42
          exact hK _ _ _ _ (hK _ _ _ _ (⟨by rw [show osh k o s f = (Int32.ofNat o).toInt64 * sl f o from (if_neg s0).trans (if_neg s1)], rfl⟩))
    · exact absurd rfl q
/-- the ways behind x squares of a row, behind y rows -/
def wq (e : xB) (f : Nat → Int64) (y : Nat) : Nat → Nat → Int64
  | 0 => f
  | x + 1 => conv e.1.1 e.1.2 (wq e f y x) (fun t => (wi e (y * 4 + x) t).toInt64)
def wy (e : xB) : Nat → Nat → Int64
  | 0 => d0
  | y + 1 => wq e (wy e y) y e.2.1.1
theorem l_ofStates {nS d : Nat} {M : aM} {e : xB} (hB : cB 0 M e) : aC nS (d + 5) 120 [vR 24 0] M (fun v M' => v = some (vL (osh e.1.1 e.1.2 e.2.1.2.2 (wy e e.2.1.2.1))) ∧ M'.1 = M.1) (fun _ _ => False) := by
  obtain ⟨ho, o2, o8, hS, w1, w3, h1, h3, s2⟩ := cB_h hB
  have hF := hB.1
  refine aC_mk rfl rfl ?_
  intro K hK _
  have xl : ∀ (y : Nat), y < e.2.1.2.1 → (∀ (l2 : Option aV) (M1 : aM), M1.1 = M.1 → (∀ t, t < e.1.2 → M1.2 25 0 t = wy e (y + 1) t) → K 53 [some (vR 24 0), some (vI (Int32.ofNat y)), l2] [] M1) → ∀ (m x : Nat) (z : Int32) (M1 : aM), e.2.1.1 - x = m → x ≤ e.2.1.1 → z = Int32.ofNat x → M1.1 = M.1 → (∀ t, t < e.1.2 → M1.2 25 0 t = wq e (wy e y) y x t) → K 19 [some (vR 24 0), some (vI (Int32.ofNat y)), some (vI z)] [] M1 := by
    intro y hy out m
    induction m with
    | zero =>
      intro x z M1 hm hx hz e1 e2
      subst hz
      refine hK _ _ _ _ (hK _ _ _ _ (hK _ _ _ _ (hK _ _ _ _ (⟨_, b_wide, rfl, fun v24 M24 g24 => ?_⟩))))
      obtain ⟨rfl, rfl⟩ := g24
      rw [e1, hS.1]
      refine hK _ _ _ _ (⟨fun h => ?_, fun h => ?_⟩)
      · exact out _ _ e1 (fun t ht => by rw [e2 t ht, show x = e.2.1.1 by omega]; rfl)
      · exact absurd (x_nge (x := x) (y := e.2.1.1) rfl rfl (by omega) (by omega) h) (by omega)
    | succ m ih =>
      intro x z M1 hm hx hz e1 e2
      subst hz
      refine hK _ _ _ _ (hK _ _ _ _ (hK _ _ _ _ (hK _ _ _ _ (⟨_, b_wide, rfl, fun v24 M24 g24 => ?_⟩))))
      obtain ⟨rfl, rfl⟩ := g24
      rw [e1, hS.1]
      refine hK _ _ _ _ (⟨fun h => ?_, fun h => ?_⟩)
      · exact absurd (x_ge (x := x) (y := e.2.1.1) rfl rfl (by omega) (by omega) h) (by omega)
      · have hB1 := cB_1 hB e1
        have hS1 := (cB_h hB1).2.2.2.1
        refine hK _ _ _ _ (hK _ _ _ _ (hK _ _ _ _ (hK _ _ _ _ (hK _ _ _ _ (hK _ _ _ _ (⟨_, b_squareAt hS1 w3 h3, rfl, fun v37 M37 g37 => ?_⟩))))))
        obtain ⟨g37, rfl⟩ := g37
        rcases g37 with ⟨x9, y9, hx9, hy9, ex, ey, rfl⟩ | ⟨no, -⟩
        · have ex := x_inj (by omega) (by omega) ex
          have ey := x_inj (by omega) (by omega) ey
          subst ex
          subst ey
          refine hK _ _ _ _ (⟨_, l_takeSquare hB1 rfl (show y * 4 + x < 16 by omega), rfl, fun v40 M40 g40 => ?_⟩)
          obtain ⟨rfl, f1, f2, f3⟩ := g40
          refine hK _ _ _ _ (hK _ _ _ _ (⟨_, l_multiplyOnce (f := wq e (wy e y) y x) (g := fun t => (wi e (y * 4 + x) t).toInt64) (gF_1 hB1.1 f1) (fun t ht => (f3 25 0 t (by decide)).trans (e2 t ht)) f2, rfl, fun v44 M44 g44 => ?_⟩))
          obtain ⟨rfl, q1, q2, -⟩ := g44
          refine hK _ _ _ _ (hK _ _ _ _ (?_))
          exact ih (x + 1) _ _ (by omega) (by omega) hI_s (q1.trans (f1.trans e1)) q2
        · exact absurd ⟨x, y, by omega, hy, rfl, rfl⟩ no
  have yl : ∀ (m y : Nat) (z : Int32) (l2 : Option aV) (M1 : aM), e.2.1.2.1 - y = m → y ≤ e.2.1.2.1 → z = Int32.ofNat y → M1.1 = M.1 → (∀ t, t < e.1.2 → M1.2 25 0 t = wy e y t) → K 6 [some (vR 24 0), some (vI z), l2] [] M1 := by
    intro m
    induction m with
    | zero =>
      intro y z l2 M1 hm hy hz e1 e2
      subst hz
      refine hK _ _ _ _ (hK _ _ _ _ (hK _ _ _ _ (hK _ _ _ _ (⟨_, b_high, rfl, fun v11 M11 g11 => ?_⟩))))
      obtain ⟨rfl, rfl⟩ := g11
      rw [e1, hS.2.1]
      refine hK _ _ _ _ (⟨fun h => ?_, fun h => ?_⟩)
      · refine hK _ _ _ _ (hK _ _ _ _ (⟨_, l_overShape (f := wy e y) (gF_1 hF e1) (by rw [e1]; exact hS.2.2.1) s2 e2, rfl, fun v60 M60 g60 => ?_⟩))
        obtain ⟨rfl, rfl⟩ := g60
        exact hK _ _ _ _ (⟨by rw [show y = e.2.1.2.1 by omega], e1⟩)
      · exact absurd (x_nge (x := y) (y := e.2.1.2.1) rfl rfl (by omega) (by omega) h) (by omega)
    | succ m ih =>
      intro y z l2 M1 hm hy hz e1 e2
      subst hz
      refine hK _ _ _ _ (hK _ _ _ _ (hK _ _ _ _ (hK _ _ _ _ (⟨_, b_high, rfl, fun v11 M11 g11 => ?_⟩))))
      obtain ⟨rfl, rfl⟩ := g11
      rw [e1, hS.2.1]
      refine hK _ _ _ _ (⟨fun h => ?_, fun h => ?_⟩)
      · exact absurd (x_ge (x := y) (y := e.2.1.2.1) rfl rfl (by omega) (by omega) h) (by omega)
      · refine hK _ _ _ _ (hK _ _ _ _ (?_))
        refine xl y (by omega) (fun l2 M2 e1 e2 => ?_) _ 0 _ _ rfl (Nat.zero_le _) rfl e1 e2
        refine hK _ _ _ _ (hK _ _ _ _ (?_))
        exact ih (y + 1) _ _ _ (by omega) (by omega) hI_s e1 e2
  refine hK _ _ _ _ (hK _ _ _ _ (⟨_, l_begin, rfl, fun v1 M1 g1 => ?_⟩))
  obtain ⟨rfl, e1, e2⟩ := g1
  refine hK _ _ _ _ (hK _ _ _ _ (?_))
  exact yl _ 0 _ _ _ rfl (Nat.zero_le _) rfl e1 (fun t ht => e2 t (by omega))
theorem c_sumX {nS : Nat} {M : aM} {e : xB} (hB : cB 0 M e) : aC nS 60 166 [vR 0 0] M (fun v M' => v = some (vL (osh e.1.1 e.1.2 e.2.1.2.2 (wy e e.2.1.2.1))) ∧ M'.1 = M.1) (fun _ _ => False) := by
  refine aC_mk rfl rfl ?_
  intro K hK _
  refine hK _ _ _ _ (hK _ _ _ _ (hK _ _ _ _ (⟨_, l_ofStates (d := 54) hB, rfl, fun v4 M4 g4 => ?_⟩)))
  obtain ⟨rfl, h1⟩ := g4
  exact hK _ _ _ _ (⟨rfl, h1⟩)
