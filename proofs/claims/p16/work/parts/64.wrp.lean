theorem aCW_mk {nS d w : Nat} {as : List aV} {M : aM} {post : Option aV → aM → Prop} {nm : MethodName} {b : ByteArray} {nL : Nat} {hh : List (Nat × Nat × Nat × Nat)} {na : Nat} {ps : List Nat} {cd : List aE} (h : a_wt[w]? = some (nm, b, nL, hh, na, ps, cd)) (hw : Nat.ble (a_ent as).length nL = true)
    (k : ∀ K1 K2 : aK, (∀ pc L S M, a_wp d nS (fun y as M P => aC nS d y as M P (fun _ _ => False)) (some .int) cd post (fun _ _ => False) K1 pc L S M → K1 pc L S M) → (∀ pc L S M, a_wp d nS (fun y as M P => aC nS d y as M P (fun _ _ => False)) (some .int) cd post (fun _ _ => False) K2 pc L S M → K2 pc L S M) → (∀ pc L S M, a_wpT nS d hh cd K2 pc L S M → K1 pc L S M) → K1 0 (a_pad nL (a_ent as)) [] M) : aCW nS d w as M post := by
  unfold aCW
  rw [h]
  exact ⟨hw, k⟩
theorem wX_board {nS : Nat} {M : aM}  {post : Option aV → aM → Prop} {px : Nat → aM → Prop} (hc : aC nS 60 152 [vR 0 0] M post px) (hv : ∀ v M', post v M' → ∃ x : Int32, v = some (vI x)) (hx : ∀ q M', px q M' → q = 0 ∨ q = 1) : aCW nS 60 0 [vR 0 0, vR 98 0] M (fun v M' => (v = some (vI 0) ∧ ∃ (x : Int32) (M1 : aM), post (some (vI x)) M1 ∧ M' = a_pL M1 98 0 0 x.toInt64) ∨ (v = some (vI 1) ∧ px 0 M') ∨ (v = some (vI 2) ∧ px 1 M')) := by
  refine aCW_mk rfl rfl ?_
  intro K1 K2 h1 h2 hT
  refine h1 _ _ _ _ (h1 _ _ _ _ (h1 _ _ _ _ (?_)))
  refine hT _ _ _ _ ⟨post, px, hc, rfl, fun v M' z => ?_, fun q M' z => ?_⟩
  · obtain ⟨x, rfl⟩ := hv v M' z
    refine h2 _ _ _ _ (h2 _ _ _ _ (⟨x_vp (a := 0) rfl (by decide) (by decide), ?_⟩))
    rw [x_cl (j := 0) (a := 0) rfl (by decide)]
    exact h2 _ _ _ _ (h2 _ _ _ _ (h2 _ _ _ _ (Or.inl ⟨rfl, x, M', z, rfl⟩)))
  · rcases hx q M' z with rfl | rfl
    · exact ⟨11, by decide +kernel, rfl, fun r => h2 _ _ _ _ (h2 _ _ _ _ (h2 _ _ _ _ (Or.inr (Or.inl ⟨rfl, z⟩))))⟩
    · exact ⟨14, by decide +kernel, rfl, fun r => h2 _ _ _ _ (h2 _ _ _ _ (h2 _ _ _ _ (Or.inr (Or.inr (⟨rfl, z⟩)))))⟩
theorem wX_by {nS : Nat} {M : aM} {a1 : Int32} {a2 : Int32} {post : Option aV → aM → Prop} {px : Nat → aM → Prop} (hc : aC nS 60 154 [vR 0 0, vI a1, vI a2] M post px) (hv : ∀ v M', post v M' → ∃ x : Int32, v = some (vI x)) (hx : ∀ q M', px q M' → q = 2) : aCW nS 60 1 [vR 0 0, vI a1, vI a2, vR 98 0] M (fun v M' => (v = some (vI 0) ∧ ∃ (x : Int32) (M1 : aM), post (some (vI x)) M1 ∧ M' = a_pL M1 98 0 0 x.toInt64) ∨ (v = some (vI 1) ∧ px 2 M')) := by
  refine aCW_mk rfl rfl ?_
  intro K1 K2 h1 h2 hT
  refine h1 _ _ _ _ (h1 _ _ _ _ (h1 _ _ _ _ (h1 _ _ _ _ (h1 _ _ _ _ (?_)))))
  refine hT _ _ _ _ ⟨post, px, hc, rfl, fun v M' z => ?_, fun q M' z => ?_⟩
  · obtain ⟨x, rfl⟩ := hv v M' z
    refine h2 _ _ _ _ (h2 _ _ _ _ (⟨x_vp (a := 0) rfl (by decide) (by decide), ?_⟩))
    rw [x_cl (j := 0) (a := 0) rfl (by decide)]
    exact h2 _ _ _ _ (h2 _ _ _ _ (h2 _ _ _ _ (Or.inl ⟨rfl, x, M', z, rfl⟩)))
  · have e := hx q M' z
    subst e
    exact ⟨13, by decide +kernel, rfl, fun r => h2 _ _ _ _ (h2 _ _ _ _ (h2 _ _ _ _ (Or.inr (⟨rfl, z⟩))))⟩
theorem wX_turn {nS : Nat} {M : aM} {a1 : Int32} {a2 : Int32} {post : Option aV → aM → Prop} {px : Nat → aM → Prop} (hc : aC nS 60 155 [vR 0 0, vI a1, vI a2] M post px) (hv : ∀ v M', post v M' → ∃ x : Int32, v = some (vI x)) (hx : ∀ q M', px q M' → q = 2 ∨ q = 3) : aCW nS 60 2 [vR 0 0, vI a1, vI a2, vR 98 0] M (fun v M' => (v = some (vI 0) ∧ ∃ (x : Int32) (M1 : aM), post (some (vI x)) M1 ∧ M' = a_pL M1 98 0 0 x.toInt64) ∨ (v = some (vI 1) ∧ px 2 M') ∨ (v = some (vI 2) ∧ px 3 M')) := by
  refine aCW_mk rfl rfl ?_
  intro K1 K2 h1 h2 hT
  refine h1 _ _ _ _ (h1 _ _ _ _ (h1 _ _ _ _ (h1 _ _ _ _ (h1 _ _ _ _ (?_)))))
  refine hT _ _ _ _ ⟨post, px, hc, rfl, fun v M' z => ?_, fun q M' z => ?_⟩
  · obtain ⟨x, rfl⟩ := hv v M' z
    refine h2 _ _ _ _ (h2 _ _ _ _ (⟨x_vp (a := 0) rfl (by decide) (by decide), ?_⟩))
    rw [x_cl (j := 0) (a := 0) rfl (by decide)]
    exact h2 _ _ _ _ (h2 _ _ _ _ (h2 _ _ _ _ (Or.inl ⟨rfl, x, M', z, rfl⟩)))
  · rcases hx q M' z with rfl | rfl
    · exact ⟨13, by decide +kernel, rfl, fun r => h2 _ _ _ _ (h2 _ _ _ _ (h2 _ _ _ _ (Or.inr (Or.inl ⟨rfl, z⟩))))⟩
    · exact ⟨17, by decide +kernel, rfl, fun r => h2 _ _ _ _ (h2 _ _ _ _ (h2 _ _ _ _ (Or.inr (Or.inr (⟨rfl, z⟩)))))⟩
theorem wX_line {nS : Nat} {M : aM} {a1 : Int32} {a2 : Int32} {a3 : Int32} {post : Option aV → aM → Prop} {px : Nat → aM → Prop} (hc : aC nS 60 156 [vR 0 0, vI a1, vI a2, vI a3] M post px) (hv : ∀ v M', post v M' → ∃ x : Int32, v = some (vI x)) (hx : ∀ q M', px q M' → q = 2) : aCW nS 60 3 [vR 0 0, vI a1, vI a2, vI a3, vR 98 0] M (fun v M' => (v = some (vI 0) ∧ ∃ (x : Int32) (M1 : aM), post (some (vI x)) M1 ∧ M' = a_pL M1 98 0 0 x.toInt64) ∨ (v = some (vI 1) ∧ px 2 M')) := by
  refine aCW_mk rfl rfl ?_
  intro K1 K2 h1 h2 hT
  refine h1 _ _ _ _ (h1 _ _ _ _ (h1 _ _ _ _ (h1 _ _ _ _ (h1 _ _ _ _ (h1 _ _ _ _ (?_))))))
  refine hT _ _ _ _ ⟨post, px, hc, rfl, fun v M' z => ?_, fun q M' z => ?_⟩
  · obtain ⟨x, rfl⟩ := hv v M' z
    refine h2 _ _ _ _ (h2 _ _ _ _ (⟨x_vp (a := 0) rfl (by decide) (by decide), ?_⟩))
    rw [x_cl (j := 0) (a := 0) rfl (by decide)]
    exact h2 _ _ _ _ (h2 _ _ _ _ (h2 _ _ _ _ (Or.inl ⟨rfl, x, M', z, rfl⟩)))
  · have e := hx q M' z
    subst e
    exact ⟨15, by decide +kernel, rfl, fun r => h2 _ _ _ _ (h2 _ _ _ _ (h2 _ _ _ _ (Or.inr (⟨rfl, z⟩))))⟩
theorem wX_set {nS : Nat} {M : aM} {a1 : Int32} {a2 : Int32} {a3 : Int32} {a4 : Int32} {post : Option aV → aM → Prop} {px : Nat → aM → Prop} (hc : aC nS 60 157 [vR 0 0, vI a1, vI a2, vI a3, vI a4] M post px) (hv : ∀ v M', post v M' → ∃ x : Int32, v = some (vI x)) (hx : ∀ q M', px q M' → q = 2) : aCW nS 60 4 [vR 0 0, vI a1, vI a2, vI a3, vI a4, vR 98 0] M (fun v M' => (v = some (vI 0) ∧ ∃ (x : Int32) (M1 : aM), post (some (vI x)) M1 ∧ M' = a_pL M1 98 0 0 x.toInt64) ∨ (v = some (vI 1) ∧ px 2 M')) := by
  refine aCW_mk rfl rfl ?_
  intro K1 K2 h1 h2 hT
  refine h1 _ _ _ _ (h1 _ _ _ _ (h1 _ _ _ _ (h1 _ _ _ _ (h1 _ _ _ _ (h1 _ _ _ _ (h1 _ _ _ _ (?_)))))))
  refine hT _ _ _ _ ⟨post, px, hc, rfl, fun v M' z => ?_, fun q M' z => ?_⟩
  · obtain ⟨x, rfl⟩ := hv v M' z
    refine h2 _ _ _ _ (h2 _ _ _ _ (⟨x_vp (a := 0) rfl (by decide) (by decide), ?_⟩))
    rw [x_cl (j := 0) (a := 0) rfl (by decide)]
    exact h2 _ _ _ _ (h2 _ _ _ _ (h2 _ _ _ _ (Or.inl ⟨rfl, x, M', z, rfl⟩)))
  · have e := hx q M' z
    subst e
    exact ⟨17, by decide +kernel, rfl, fun r => h2 _ _ _ _ (h2 _ _ _ _ (h2 _ _ _ _ (Or.inr (⟨rfl, z⟩))))⟩
theorem wX_round {nS : Nat} {M : aM} {a1 : Int32} {a2 : Int32} {post : Option aV → aM → Prop} {px : Nat → aM → Prop} (hc : aC nS 60 158 [vR 0 0, vI a1, vI a2] M post px) (hv : ∀ v M', post v M' → ∃ x : Int32, v = some (vI x)) (hx : ∀ q M', px q M' → q = 2) : aCW nS 60 5 [vR 0 0, vI a1, vI a2, vR 98 0] M (fun v M' => (v = some (vI 0) ∧ ∃ (x : Int32) (M1 : aM), post (some (vI x)) M1 ∧ M' = a_pL M1 98 0 0 x.toInt64) ∨ (v = some (vI 1) ∧ px 2 M')) := by
  refine aCW_mk rfl rfl ?_
  intro K1 K2 h1 h2 hT
  refine h1 _ _ _ _ (h1 _ _ _ _ (h1 _ _ _ _ (h1 _ _ _ _ (h1 _ _ _ _ (?_)))))
  refine hT _ _ _ _ ⟨post, px, hc, rfl, fun v M' z => ?_, fun q M' z => ?_⟩
  · obtain ⟨x, rfl⟩ := hv v M' z
    refine h2 _ _ _ _ (h2 _ _ _ _ (⟨x_vp (a := 0) rfl (by decide) (by decide), ?_⟩))
    rw [x_cl (j := 0) (a := 0) rfl (by decide)]
    exact h2 _ _ _ _ (h2 _ _ _ _ (h2 _ _ _ _ (Or.inl ⟨rfl, x, M', z, rfl⟩)))
  · have e := hx q M' z
    subst e
    exact ⟨13, by decide +kernel, rfl, fun r => h2 _ _ _ _ (h2 _ _ _ _ (h2 _ _ _ _ (Or.inr (⟨rfl, z⟩))))⟩
theorem wX_frame {nS : Nat} {M : aM} {a1 : Int32} {a2 : Int32} {a3 : Int32} {post : Option aV → aM → Prop} {px : Nat → aM → Prop} (hc : aC nS 60 159 [vR 0 0, vI a1, vI a2, vI a3] M post px) (hv : ∀ v M', post v M' → ∃ x : Int32, v = some (vI x)) (hx : ∀ q M', px q M' → q = 2) : aCW nS 60 6 [vR 0 0, vI a1, vI a2, vI a3, vR 98 0] M (fun v M' => (v = some (vI 0) ∧ ∃ (x : Int32) (M1 : aM), post (some (vI x)) M1 ∧ M' = a_pL M1 98 0 0 x.toInt64) ∨ (v = some (vI 1) ∧ px 2 M')) := by
  refine aCW_mk rfl rfl ?_
  intro K1 K2 h1 h2 hT
  refine h1 _ _ _ _ (h1 _ _ _ _ (h1 _ _ _ _ (h1 _ _ _ _ (h1 _ _ _ _ (h1 _ _ _ _ (?_))))))
  refine hT _ _ _ _ ⟨post, px, hc, rfl, fun v M' z => ?_, fun q M' z => ?_⟩
  · obtain ⟨x, rfl⟩ := hv v M' z
    refine h2 _ _ _ _ (h2 _ _ _ _ (⟨x_vp (a := 0) rfl (by decide) (by decide), ?_⟩))
    rw [x_cl (j := 0) (a := 0) rfl (by decide)]
    exact h2 _ _ _ _ (h2 _ _ _ _ (h2 _ _ _ _ (Or.inl ⟨rfl, x, M', z, rfl⟩)))
  · have e := hx q M' z
    subst e
    exact ⟨15, by decide +kernel, rfl, fun r => h2 _ _ _ _ (h2 _ _ _ _ (h2 _ _ _ _ (Or.inr (⟨rfl, z⟩))))⟩
theorem wX_walk {nS : Nat} {M : aM} {a1 : Int32} {post : Option aV → aM → Prop} {px : Nat → aM → Prop} (hc : aC nS 60 162 [vR 0 0, vI a1] M post px) (hv : ∀ v M', post v M' → ∃ x : Int32, v = some (vI x)) (hx : ∀ q M', px q M' → q = 0 ∨ q = 3) : aCW nS 60 7 [vR 0 0, vI a1, vR 98 0] M (fun v M' => (v = some (vI 0) ∧ ∃ (x : Int32) (M1 : aM), post (some (vI x)) M1 ∧ M' = a_pL M1 98 0 0 x.toInt64) ∨ (v = some (vI 1) ∧ px 0 M') ∨ (v = some (vI 2) ∧ px 3 M')) := by
  refine aCW_mk rfl rfl ?_
  intro K1 K2 h1 h2 hT
  refine h1 _ _ _ _ (h1 _ _ _ _ (h1 _ _ _ _ (h1 _ _ _ _ (?_))))
  refine hT _ _ _ _ ⟨post, px, hc, rfl, fun v M' z => ?_, fun q M' z => ?_⟩
  · obtain ⟨x, rfl⟩ := hv v M' z
    refine h2 _ _ _ _ (h2 _ _ _ _ (⟨x_vp (a := 0) rfl (by decide) (by decide), ?_⟩))
    rw [x_cl (j := 0) (a := 0) rfl (by decide)]
    exact h2 _ _ _ _ (h2 _ _ _ _ (h2 _ _ _ _ (Or.inl ⟨rfl, x, M', z, rfl⟩)))
  · rcases hx q M' z with rfl | rfl
    · exact ⟨12, by decide +kernel, rfl, fun r => h2 _ _ _ _ (h2 _ _ _ _ (h2 _ _ _ _ (Or.inr (Or.inl ⟨rfl, z⟩))))⟩
    · exact ⟨15, by decide +kernel, rfl, fun r => h2 _ _ _ _ (h2 _ _ _ _ (h2 _ _ _ _ (Or.inr (Or.inr (⟨rfl, z⟩)))))⟩
theorem wX_listed {nS : Nat} {M : aM}  {post : Option aV → aM → Prop} {px : Nat → aM → Prop} (hc : aC nS 60 167 [vR 0 0] M post px) (hv : ∀ v M', post v M' → ∃ x : Int64, v = some (vL x)) (hx : ∀ q M', px q M' → q = 4) : aCW nS 60 9 [vR 0 0, vR 98 0] M (fun v M' => (v = some (vI 0) ∧ ∃ (x : Int64) (M1 : aM), post (some (vL x)) M1 ∧ M' = a_pL M1 98 0 0 x) ∨ (v = some (vI 1) ∧ px 4 M')) := by
  refine aCW_mk rfl rfl ?_
  intro K1 K2 h1 h2 hT
  refine h1 _ _ _ _ (h1 _ _ _ _ (h1 _ _ _ _ (?_)))
  refine hT _ _ _ _ ⟨post, px, hc, rfl, fun v M' z => ?_, fun q M' z => ?_⟩
  · obtain ⟨x, rfl⟩ := hv v M' z
    refine h2 _ _ _ _ (⟨x_vp (a := 0) rfl (by decide) (by decide), ?_⟩)
    rw [x_cl (j := 0) (a := 0) rfl (by decide)]
    exact h2 _ _ _ _ (h2 _ _ _ _ (h2 _ _ _ _ (Or.inl ⟨rfl, x, M', z, rfl⟩)))
  · have e := hx q M' z
    subst e
    exact ⟨10, by decide +kernel, rfl, fun r => h2 _ _ _ _ (h2 _ _ _ _ (h2 _ _ _ _ (Or.inr (⟨rfl, z⟩))))⟩
theorem wX_mean {nS : Nat} {M : aM} {a1 : Int32} {post : Option aV → aM → Prop} {px : Nat → aM → Prop} (hc : aC nS 60 169 [vR 0 0, vI a1] M post px) (hv : ∀ v M', post v M' → ∃ x : Int64, v = some (vL x)) (hx : ∀ q M', px q M' → q = 2 ∨ q = 0 ∨ q = 4) : aCW nS 60 10 [vR 0 0, vI a1, vR 98 0] M (fun v M' => (v = some (vI 0) ∧ ∃ (x : Int64) (M1 : aM), post (some (vL x)) M1 ∧ M' = a_pL M1 98 0 0 x) ∨ (v = some (vI 1) ∧ px 2 M') ∨ (v = some (vI 2) ∧ px 0 M') ∨ (v = some (vI 3) ∧ px 4 M')) := by
  refine aCW_mk rfl rfl ?_
  intro K1 K2 h1 h2 hT
  refine h1 _ _ _ _ (h1 _ _ _ _ (h1 _ _ _ _ (h1 _ _ _ _ (?_))))
  refine hT _ _ _ _ ⟨post, px, hc, rfl, fun v M' z => ?_, fun q M' z => ?_⟩
  · obtain ⟨x, rfl⟩ := hv v M' z
    refine h2 _ _ _ _ (⟨x_vp (a := 0) rfl (by decide) (by decide), ?_⟩)
    rw [x_cl (j := 0) (a := 0) rfl (by decide)]
    exact h2 _ _ _ _ (h2 _ _ _ _ (h2 _ _ _ _ (Or.inl ⟨rfl, x, M', z, rfl⟩)))
  · rcases hx q M' z with rfl | rfl | rfl
    · exact ⟨11, by decide +kernel, rfl, fun r => h2 _ _ _ _ (h2 _ _ _ _ (h2 _ _ _ _ (Or.inr (Or.inl ⟨rfl, z⟩))))⟩
    · exact ⟨14, by decide +kernel, rfl, fun r => h2 _ _ _ _ (h2 _ _ _ _ (h2 _ _ _ _ (Or.inr (Or.inr (Or.inl ⟨rfl, z⟩)))))⟩
    · exact ⟨17, by decide +kernel, rfl, fun r => h2 _ _ _ _ (h2 _ _ _ _ (h2 _ _ _ _ (Or.inr (Or.inr (Or.inr (⟨rfl, z⟩))))))⟩
theorem wX_body {nS : Nat} {M : aM} {a1 : Int32} {a2 : Int32} {a3 : Int32} {post : Option aV → aM → Prop} {px : Nat → aM → Prop} (hc : aC nS 60 171 [vR 0 0, vI a1, vI a2, vI a3] M post px) (hv : ∀ v M', post v M' → ∃ x : Int64, v = some (vL x)) (hx : ∀ q M', px q M' → q = 0) : aCW nS 60 11 [vR 0 0, vI a1, vI a2, vI a3, vR 98 0] M (fun v M' => (v = some (vI 0) ∧ ∃ (x : Int64) (M1 : aM), post (some (vL x)) M1 ∧ M' = a_pL M1 98 0 0 x) ∨ (v = some (vI 1) ∧ px 0 M')) := by
  refine aCW_mk rfl rfl ?_
  intro K1 K2 h1 h2 hT
  refine h1 _ _ _ _ (h1 _ _ _ _ (h1 _ _ _ _ (h1 _ _ _ _ (h1 _ _ _ _ (h1 _ _ _ _ (?_))))))
  refine hT _ _ _ _ ⟨post, px, hc, rfl, fun v M' z => ?_, fun q M' z => ?_⟩
  · obtain ⟨x, rfl⟩ := hv v M' z
    refine h2 _ _ _ _ (⟨x_vp (a := 0) rfl (by decide) (by decide), ?_⟩)
    rw [x_cl (j := 0) (a := 0) rfl (by decide)]
    exact h2 _ _ _ _ (h2 _ _ _ _ (h2 _ _ _ _ (Or.inl ⟨rfl, x, M', z, rfl⟩)))
  · have e := hx q M' z
    subst e
    exact ⟨14, by decide +kernel, rfl, fun r => h2 _ _ _ _ (h2 _ _ _ _ (h2 _ _ _ _ (Or.inr (⟨rfl, z⟩))))⟩
theorem wX_dual {nS : Nat} {M : aM} {a1 : Int32} {post : Option aV → aM → Prop} {px : Nat → aM → Prop} (hc : aC nS 60 172 [vR 0 0, vI a1] M post px) (hv : ∀ v M', post v M' → ∃ x : Int32, v = some (vI x)) (hx : ∀ q M', px q M' → q = 2 ∨ q = 4) : aCW nS 60 12 [vR 0 0, vI a1, vR 98 0] M (fun v M' => (v = some (vI 0) ∧ ∃ (x : Int32) (M1 : aM), post (some (vI x)) M1 ∧ M' = a_pL M1 98 0 0 x.toInt64) ∨ (v = some (vI 1) ∧ px 2 M') ∨ (v = some (vI 2) ∧ px 4 M')) := by
  refine aCW_mk rfl rfl ?_
  intro K1 K2 h1 h2 hT
  refine h1 _ _ _ _ (h1 _ _ _ _ (h1 _ _ _ _ (h1 _ _ _ _ (?_))))
  refine hT _ _ _ _ ⟨post, px, hc, rfl, fun v M' z => ?_, fun q M' z => ?_⟩
  · obtain ⟨x, rfl⟩ := hv v M' z
    refine h2 _ _ _ _ (h2 _ _ _ _ (⟨x_vp (a := 0) rfl (by decide) (by decide), ?_⟩))
    rw [x_cl (j := 0) (a := 0) rfl (by decide)]
    exact h2 _ _ _ _ (h2 _ _ _ _ (h2 _ _ _ _ (Or.inl ⟨rfl, x, M', z, rfl⟩)))
  · rcases hx q M' z with rfl | rfl
    · exact ⟨12, by decide +kernel, rfl, fun r => h2 _ _ _ _ (h2 _ _ _ _ (h2 _ _ _ _ (Or.inr (Or.inl ⟨rfl, z⟩))))⟩
    · exact ⟨15, by decide +kernel, rfl, fun r => h2 _ _ _ _ (h2 _ _ _ _ (h2 _ _ _ _ (Or.inr (Or.inr (⟨rfl, z⟩)))))⟩
theorem wX_dualSum {nS : Nat} {M : aM}  {post : Option aV → aM → Prop} {px : Nat → aM → Prop} (hc : aC nS 60 173 [vR 0 0] M post px) (hv : ∀ v M', post v M' → ∃ x : Int64, v = some (vL x)) (hx : ∀ q M', px q M' → q = 4) : aCW nS 60 13 [vR 0 0, vR 98 0] M (fun v M' => (v = some (vI 0) ∧ ∃ (x : Int64) (M1 : aM), post (some (vL x)) M1 ∧ M' = a_pL M1 98 0 0 x) ∨ (v = some (vI 1) ∧ px 4 M')) := by
  refine aCW_mk rfl rfl ?_
  intro K1 K2 h1 h2 hT
  refine h1 _ _ _ _ (h1 _ _ _ _ (h1 _ _ _ _ (?_)))
  refine hT _ _ _ _ ⟨post, px, hc, rfl, fun v M' z => ?_, fun q M' z => ?_⟩
  · obtain ⟨x, rfl⟩ := hv v M' z
    refine h2 _ _ _ _ (⟨x_vp (a := 0) rfl (by decide) (by decide), ?_⟩)
    rw [x_cl (j := 0) (a := 0) rfl (by decide)]
    exact h2 _ _ _ _ (h2 _ _ _ _ (h2 _ _ _ _ (Or.inl ⟨rfl, x, M', z, rfl⟩)))
  · have e := hx q M' z
    subst e
    exact ⟨10, by decide +kernel, rfl, fun r => h2 _ _ _ _ (h2 _ _ _ _ (h2 _ _ _ _ (Or.inr (⟨rfl, z⟩))))⟩
theorem wX_draw {nS : Nat} {M : aM} {a1 : Int32} {post : Option aV → aM → Prop} {px : Nat → aM → Prop} (hc : aC nS 60 174 [vR 0 0, vI a1] M post px) (hv : ∀ v M', post v M' → ∃ x : Int64, v = some (vL x)) (hx : ∀ q M', px q M' → q = 4) : aCW nS 60 14 [vR 0 0, vI a1, vR 98 0] M (fun v M' => (v = some (vI 0) ∧ ∃ (x : Int64) (M1 : aM), post (some (vL x)) M1 ∧ M' = a_pL M1 98 0 0 x) ∨ (v = some (vI 1) ∧ px 4 M')) := by
  refine aCW_mk rfl rfl ?_
  intro K1 K2 h1 h2 hT
  refine h1 _ _ _ _ (h1 _ _ _ _ (h1 _ _ _ _ (h1 _ _ _ _ (?_))))
  refine hT _ _ _ _ ⟨post, px, hc, rfl, fun v M' z => ?_, fun q M' z => ?_⟩
  · obtain ⟨x, rfl⟩ := hv v M' z
    refine h2 _ _ _ _ (⟨x_vp (a := 0) rfl (by decide) (by decide), ?_⟩)
    rw [x_cl (j := 0) (a := 0) rfl (by decide)]
    exact h2 _ _ _ _ (h2 _ _ _ _ (h2 _ _ _ _ (Or.inl ⟨rfl, x, M', z, rfl⟩)))
  · have e := hx q M' z
    subst e
    exact ⟨11, by decide +kernel, rfl, fun r => h2 _ _ _ _ (h2 _ _ _ _ (h2 _ _ _ _ (Or.inr (⟨rfl, z⟩))))⟩
/-- behind such a method, what the class's leaves is left -/
theorem cPost_L {t : Nat} {M M1 : aM} {x : Int64} (h : cPost t M M1) : cPost t M (a_pL M1 98 0 0 x) := ⟨h.1, fun k i j h1 h2 => ⟨(h.2.1 k i j h1 h2).1, (if_neg (fun z => h2 z.1)).trans (h.2.1 k i j h1 h2).2⟩, h.2.2⟩
theorem h_any {c : zCt} (hc : z_ctH zTb c) (h1 : c.2.2.1 = []) {nS d : Nat} {as : List aV} {M : aM} (hd : c.2.2.2.2.2 ≤ d) (hS : z_S c.2.1 as) (hT : z_MT (zTb, [], []) M) : aC nS d c.1 as M (fun _ M' => z_M (zTb, c.2.2.2.1, []) M [] M') (fun _ M' => z_M (zTb, c.2.2.2.1, []) M [] M') := by
  refine aC_post (hc nS d as M hd hS hT (by rw [h1]; exact h_MG0)) (fun v M' hv => ?_) (fun x M' hx => ?_)
  · obtain ⟨v', g', h4, h5, h6⟩ := hv
    exact h_Md h6
  · obtain ⟨g', h4, h6⟩ := hx
    exact h_Md h6
