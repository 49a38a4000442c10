/-- multiplied n times -/
def mulN (k o : Nat) (f g : Nat → Int64) : Nat → Nat → Int64
  | 0 => f
  | n + 1 => conv k o (mulN k o f g n) g
theorem l_multiply {nS d k o n : Nat} {M : aM} {x : Int32} {f g : Nat → Int64} (hF : gF 0 M k o) (hx : x = Int32.ofNat n) (hn : n < 1000) (hf : ∀ t, t < o → M.2 25 0 t = f t) (hg : ∀ t, t < o → M.2 27 0 t = g t) : aC nS (d + 3) 114 [vR 24 0, vI x] M (fun v M' => v = none ∧ M'.1 = M.1 ∧ (∀ t, t < o → M'.2 25 0 t = mulN k o f g n t) ∧ ∀ k i j, ¬ k = 25 → ¬ k = 26 → M'.2 k i j = M.2 k i j) (fun _ _ => False) := by
  subst hx
  refine aC_mk rfl rfl ?_
  intro K hK _
  have lp : ∀ (m i : Nat) (y : Int32) (M1 : aM), n - i = m → i ≤ n → y = Int32.ofNat i → M1.1 = M.1 → (∀ t, t < o → M1.2 25 0 t = mulN k o f g i t) → (∀ k i j, ¬ k = 25 → ¬ k = 26 → M1.2 k i j = M.2 k i j) → K 2 [some (vR 24 0), some (vI (Int32.ofNat n)), some (vI y)] [] M1 := by
    intro m
    induction m with
    | zero =>
      intro i y M1 hm hi hy h1 h2 h3
      subst hy
      refine hK _ _ _ _ (hK _ _ _ _ (hK _ _ _ _ (⟨fun h => ?_, fun h => ?_⟩)))
      · refine hK _ _ _ _ (⟨rfl, h1, fun t ht => ?_, h3⟩)
        rw [h2 t ht, show i = n by omega]
      · exact absurd (x_nge (x := i) (y := n) rfl rfl (by omega) (by omega) h) (by omega)
    | succ m ih =>
      intro i y M1 hm hi hy h1 h2 h3
      subst hy
      refine hK _ _ _ _ (hK _ _ _ _ (hK _ _ _ _ (⟨fun h => ?_, fun h => ?_⟩)))
      · exact absurd (x_ge (x := i) (y := n) rfl rfl (by omega) (by omega) h) (by omega)
      · refine hK _ _ _ _ (hK _ _ _ _ (⟨_, l_multiplyOnce (gF_1 hF h1) h2 (fun t ht => (h3 27 0 t (by decide) (by decide)).trans (hg t ht)), rfl, fun v8 M8 g8 => ?_⟩))
        obtain ⟨rfl, q1, q2, q3⟩ := g8
        refine hK _ _ _ _ (hK _ _ _ _ (?_))
        exact ih (i + 1) _ _ (by omega) (by omega) hI_s (q1.trans h1) q2 (fun k i j a b => (q3 k i j a b).trans (h3 k i j a b))
  refine hK _ _ _ _ (hK _ _ _ _ (?_))
  exact lp _ 0 _ M rfl (Nat.zero_le _) rfl rfl hf (fun _ _ _ _ _ => rfl)
/-- a body: squares, handles, crosses -/
def bdW (e : xB) : Nat → Int64 := fun t => (e.2.2.1 t).toInt64
def bdC (e : xB) : Nat → Int64 := fun t => (Int32.ofNat (cmo e.1.1 e.1.2 t e.1.2)).toInt64
def bdR (e : xB) : Nat → Int64 := fun t => (Int32.ofNat (rso e.1.1 e.1.2 t e.1.2)).toInt64
theorem l_ofBody {nS d s h c : Nat} {M : aM} {e : xB} (hB : cB 0 M e) (hs : s < 1000) (hh : h < 1000) (hc : c < 1000) : aC nS (d + 4) 127 [vR 24 0, vI (Int32.ofNat s), vI (Int32.ofNat h), vI (Int32.ofNat c)] M (fun v M' => v = some (vL (mulN e.1.1 e.1.2 (mulN e.1.1 e.1.2 (mulN e.1.1 e.1.2 d0 (bdW e) s) (bdC e) h) (bdR e) c 0)) ∧ M'.1 = M.1) (fun _ _ => False) := by
  obtain ⟨ho, o2, o8, -⟩ := cB_h hB
  have hF := hB.1
  refine aC_mk rfl rfl ?_
  intro K hK _
  have ph1 : ∀ (F : Nat → Int64), (∀ (M1 : aM) (l4 : Option aV), M1.1 = M.1 → (∀ t, t < e.1.2 → M1.2 25 0 t = mulN e.1.1 e.1.2 F (bdW e) s t) → K 49 [some (vR 24 0), some (vI (Int32.ofNat s)), some (vI (Int32.ofNat h)), some (vI (Int32.ofNat c)), l4] [] M1) → ∀ (m t : Nat) (y : Int32) (M1 : aM), e.1.2 - t = m → t ≤ e.1.2 → y = Int32.ofNat t → M1.1 = M.1 → (∀ i, i < e.1.2 → M1.2 25 0 i = F i) → (∀ i, i < t → M1.2 27 0 i = (bdW e) i) → K 7 [some (vR 24 0), some (vI (Int32.ofNat s)), some (vI (Int32.ofNat h)), some (vI (Int32.ofNat c)), some (vI y)] [] M1 := by
    intro F out m
    induction m with
    | zero =>
      intro t y M1 hm ht hy h1 h2 h3
      subst hy
      refine hK _ _ _ _ (hK _ _ _ _ (hK _ _ _ _ (hK _ _ _ _ (⟨_, b_order, rfl, fun v13 M13 g13 => ?_⟩))))
      obtain ⟨rfl, rfl⟩ := g13
      rw [h1, ho]
      refine hK _ _ _ _ (⟨fun h => ?_, fun h => ?_⟩)
      · refine hK _ _ _ _ (hK _ _ _ _ (hK _ _ _ _ (⟨_, l_multiply (f := F) (g := (bdW e)) (gF_1 hF h1) rfl (by omega) h2 (fun i hi => h3 i (by omega)), rfl, fun v46 M46 g46 => ?_⟩)))
        obtain ⟨rfl, q1, q2, -⟩ := g46
        exact out _ _ (q1.trans h1) q2
      · exact absurd (x_nge (x := t) (y := e.1.2) rfl rfl (by omega) (by omega) h) (by omega)
    | succ m ih =>
      intro t y M1 hm ht hy h1 h2 h3
      subst hy
      refine hK _ _ _ _ (hK _ _ _ _ (hK _ _ _ _ (hK _ _ _ _ (⟨_, b_order, rfl, fun v13 M13 g13 => ?_⟩))))
      obtain ⟨rfl, rfl⟩ := g13
      rw [h1, ho]
      refine hK _ _ _ _ (⟨fun h => ?_, fun h => ?_⟩)
      · exact absurd (x_ge (x := t) (y := e.1.2) rfl rfl (by omega) (by omega) h) (by omega)
      · refine hK _ _ _ _ (hK _ _ _ _ (hK _ _ _ _ (hK _ _ _ _ (hK _ _ _ _ (hK _ _ _ _ (hK _ _ _ _ (⟨_, b_weight (show t < 8 by omega), rfl, fun v31 M31 g31 => ?_⟩)))))))
        obtain ⟨rfl, rfl⟩ := g31
        rw [h1, hB.2.2.2.1 t (by omega)]
        refine hK _ _ _ _ (hK _ _ _ _ (⟨_, l_put (Or.inr (Or.inr rfl)) rfl (show t < 8 by omega), rfl, fun v35 M35 g35 => ?_⟩))
        obtain ⟨rfl, rfl⟩ := g35
        refine hK _ _ _ _ (hK _ _ _ _ (?_))
        refine ih (t + 1) _ _ (by omega) (by omega) hI_s h1 (fun i hi => (x_Ln (fun z => absurd z.1 (by decide))).trans (h2 i hi)) (fun i hi => ?_)
        by_cases he : i = t
        · rw [he]
          exact x_Le
        · exact (x_Ln (fun z => he z.2.2)).trans (h3 i (by omega))
  have ph2 : ∀ (F : Nat → Int64), (∀ (M1 : aM) (l4 : Option aV), M1.1 = M.1 → (∀ t, t < e.1.2 → M1.2 25 0 t = mulN e.1.1 e.1.2 F (bdC e) h t) → K 94 [some (vR 24 0), some (vI (Int32.ofNat s)), some (vI (Int32.ofNat h)), some (vI (Int32.ofNat c)), l4] [] M1) → ∀ (m t : Nat) (y : Int32) (M1 : aM), e.1.2 - t = m → t ≤ e.1.2 → y = Int32.ofNat t → M1.1 = M.1 → (∀ i, i < e.1.2 → M1.2 25 0 i = F i) → (∀ i, i < t → M1.2 27 0 i = (bdC e) i) → K 52 [some (vR 24 0), some (vI (Int32.ofNat s)), some (vI (Int32.ofNat h)), some (vI (Int32.ofNat c)), some (vI y)] [] M1 := by
    intro F out m
    induction m with
    | zero =>
      intro t y M1 hm ht hy h1 h2 h3
      subst hy
      refine hK _ _ _ _ (hK _ _ _ _ (hK _ _ _ _ (hK _ _ _ _ (⟨_, b_order, rfl, fun v58 M58 g58 => ?_⟩))))
      obtain ⟨rfl, rfl⟩ := g58
      rw [h1, ho]
      refine hK _ _ _ _ (⟨fun h => ?_, fun h => ?_⟩)
      · refine hK _ _ _ _ (hK _ _ _ _ (hK _ _ _ _ (⟨_, l_multiply (f := F) (g := (bdC e)) (gF_1 hF h1) rfl (by omega) h2 (fun i hi => h3 i (by omega)), rfl, fun v91 M91 g91 => ?_⟩)))
        obtain ⟨rfl, q1, q2, -⟩ := g91
        exact out _ _ (q1.trans h1) q2
      · exact absurd (x_nge (x := t) (y := e.1.2) rfl rfl (by omega) (by omega) h) (by omega)
    | succ m ih =>
      intro t y M1 hm ht hy h1 h2 h3
      subst hy
      refine hK _ _ _ _ (hK _ _ _ _ (hK _ _ _ _ (hK _ _ _ _ (⟨_, b_order, rfl, fun v58 M58 g58 => ?_⟩))))
      obtain ⟨rfl, rfl⟩ := g58
      rw [h1, ho]
      refine hK _ _ _ _ (⟨fun h => ?_, fun h => ?_⟩)
      · exact absurd (x_ge (x := t) (y := e.1.2) rfl rfl (by omega) (by omega) h) (by omega)
      · refine hK _ _ _ _ (hK _ _ _ _ (hK _ _ _ _ (hK _ _ _ _ (hK _ _ _ _ (hK _ _ _ _ (hK _ _ _ _ (⟨_, b_commutators (gF_1 hF h1) rfl (show t < 8 by omega), rfl, fun v76 M76 g76 => ?_⟩)))))))
        obtain ⟨rfl, rfl⟩ := g76
        refine hK _ _ _ _ (hK _ _ _ _ (⟨_, l_put (Or.inr (Or.inr rfl)) rfl (show t < 8 by omega), rfl, fun v80 M80 g80 => ?_⟩))
        obtain ⟨rfl, rfl⟩ := g80
        refine hK _ _ _ _ (hK _ _ _ _ (?_))
        refine ih (t + 1) _ _ (by omega) (by omega) hI_s h1 (fun i hi => (x_Ln (fun z => absurd z.1 (by decide))).trans (h2 i hi)) (fun i hi => ?_)
        by_cases he : i = t
        · rw [he]
          exact x_Le
        · exact (x_Ln (fun z => he z.2.2)).trans (h3 i (by omega))
  have ph3 : ∀ (F : Nat → Int64), (∀ (M1 : aM) (l4 : Option aV), M1.1 = M.1 → (∀ t, t < e.1.2 → M1.2 25 0 t = mulN e.1.1 e.1.2 F (bdR e) c t) → K 139 [some (vR 24 0), some (vI (Int32.ofNat s)), some (vI (Int32.ofNat h)), some (vI (Int32.ofNat c)), l4] [] M1) → ∀ (m t : Nat) (y : Int32) (M1 : aM), e.1.2 - t = m → t ≤ e.1.2 → y = Int32.ofNat t → M1.1 = M.1 → (∀ i, i < e.1.2 → M1.2 25 0 i = F i) → (∀ i, i < t → M1.2 27 0 i = (bdR e) i) → K 97 [some (vR 24 0), some (vI (Int32.ofNat s)), some (vI (Int32.ofNat h)), some (vI (Int32.ofNat c)), some (vI y)] [] M1 := by
    intro F out m
    induction m with
    | zero =>
      intro t y M1 hm ht hy h1 h2 h3
      subst hy
      refine hK _ _ _ _ (hK _ _ _ _ (hK _ _ _ _ (hK _ _ _ _ (⟨_, b_order, rfl, fun v103 M103 g103 => ?_⟩))))
      obtain ⟨rfl, rfl⟩ := g103
      rw [h1, ho]
      refine hK _ _ _ _ (⟨fun h => ?_, fun h => ?_⟩)
      · refine hK _ _ _ _ (hK _ _ _ _ (hK _ _ _ _ (⟨_, l_multiply (f := F) (g := (bdR e)) (gF_1 hF h1) rfl (by omega) h2 (fun i hi => h3 i (by omega)), rfl, fun v136 M136 g136 => ?_⟩)))
        obtain ⟨rfl, q1, q2, -⟩ := g136
        exact out _ _ (q1.trans h1) q2
      · exact absurd (x_nge (x := t) (y := e.1.2) rfl rfl (by omega) (by omega) h) (by omega)
    | succ m ih =>
      intro t y M1 hm ht hy h1 h2 h3
      subst hy
      refine hK _ _ _ _ (hK _ _ _ _ (hK _ _ _ _ (hK _ _ _ _ (⟨_, b_order, rfl, fun v103 M103 g103 => ?_⟩))))
      obtain ⟨rfl, rfl⟩ := g103
      rw [h1, ho]
      refine hK _ _ _ _ (⟨fun h => ?_, fun h => ?_⟩)
      · exact absurd (x_ge (x := t) (y := e.1.2) rfl rfl (by omega) (by omega) h) (by omega)
      · refine hK _ _ _ _ (hK _ _ _ _ (hK _ _ _ _ (hK _ _ _ _ (hK _ _ _ _ (hK _ _ _ _ (hK _ _ _ _ (⟨_, b_roots (gF_1 hF h1) rfl (show t < 8 by omega), rfl, fun v121 M121 g121 => ?_⟩)))))))
        obtain ⟨rfl, rfl⟩ := g121
        refine hK _ _ _ _ (hK _ _ _ _ (⟨_, l_put (Or.inr (Or.inr rfl)) rfl (show t < 8 by omega), rfl, fun v125 M125 g125 => ?_⟩))
        obtain ⟨rfl, rfl⟩ := g125
        refine hK _ _ _ _ (hK _ _ _ _ (?_))
        refine ih (t + 1) _ _ (by omega) (by omega) hI_s h1 (fun i hi => (x_Ln (fun z => absurd z.1 (by decide))).trans (h2 i hi)) (fun i hi => ?_)
        by_cases he : i = t
        · rw [he]
          exact x_Le
        · exact (x_Ln (fun z => he z.2.2)).trans (h3 i (by omega))
  refine hK _ _ _ _ (hK _ _ _ _ (⟨_, l_begin, rfl, fun v1 M1 g1 => ?_⟩))
  obtain ⟨rfl, e1, e2⟩ := g1
  refine hK _ _ _ _ (hK _ _ _ _ (?_))
  refine ph1 d0 (fun M2 l4 h1 h2 => ?_) _ 0 _ _ rfl (Nat.zero_le _) rfl e1 (fun i hi => e2 i (by omega)) (fun i hi => absurd hi (Nat.not_lt_zero _))
  refine hK _ _ _ _ (hK _ _ _ _ (?_))
  refine ph2 _ (fun M3 l4 h1 h2 => ?_) _ 0 _ _ rfl (Nat.zero_le _) rfl h1 h2 (fun i hi => absurd hi (Nat.not_lt_zero _))
  refine hK _ _ _ _ (hK _ _ _ _ (?_))
  refine ph3 _ (fun M4 l4 h1 h2 => ?_) _ 0 _ _ rfl (Nat.zero_le _) rfl h1 h2 (fun i hi => absurd hi (Nat.not_lt_zero _))
  refine hK _ _ _ _ (hK _ _ _ _ (hK _ _ _ _ (hK _ _ _ _ (⟨_, l_at (Or.inl rfl) rfl (show 0 < 8 by decide), rfl, fun v144 M144 g144 => ?_⟩))))
  obtain ⟨rfl, rfl⟩ := g144
  rw [h2 0 (by omega)]
  exact hK _ _ _ _ (⟨rfl, h1⟩)
