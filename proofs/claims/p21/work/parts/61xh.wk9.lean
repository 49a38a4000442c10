theorem l_togetherF {nS d k o : Nat} {M : aM} {f : Nat → Int64} (hF : gF 0 M k o) (hf : ∀ t, t < o → M.2 27 0 t = f t) : aC nS (d + 2) 118 [vR 24 0, vR 27 0] M (fun v M' => v = some (vL (sl f o)) ∧ M = M') (fun _ _ => False) := by
  obtain ⟨o2, o8, k3⟩ := gP_o hF.1.1
  refine aC_mk rfl rfl ?_
  intro K hK _
  have lp : ∀ (m t : Nat) (S : Int64) (y : Int32), o - t = m → t ≤ o → S = sl f t → y = Int32.ofNat t → K 5 [some (vR 24 0), some (vR 27 0), some (vL S), none, some (vI y)] [] M := by
    intro m
    induction m with
    | zero =>
      intro t S y hm ht hS hy
      subst hS
      subst hy
      refine hK _ _ _ _ (hK _ _ _ _ (hK _ _ _ _ (hK _ _ _ _ (⟨_, b_order, rfl, fun v11 M11 g11 => ?_⟩))))
      obtain ⟨rfl, rfl⟩ := g11
      rw [hF.1.2.2]
      refine hK _ _ _ _ (⟨fun h => ?_, fun h => ?_⟩)
      · exact hK _ _ _ _ (hK _ _ _ _ (⟨by rw [show t = o by omega], rfl⟩))
      · exact absurd (x_nge (x := t) (y := o) rfl rfl (by omega) (by omega) h) (by omega)
    | succ m ih =>
      intro t S y hm ht hS hy
      subst hS
      subst hy
      refine hK _ _ _ _ (hK _ _ _ _ (hK _ _ _ _ (hK _ _ _ _ (⟨_, b_order, rfl, fun v11 M11 g11 => ?_⟩))))
      obtain ⟨rfl, rfl⟩ := g11
      rw [hF.1.2.2]
      refine hK _ _ _ _ (⟨fun h => ?_, fun h => ?_⟩)
      · exact absurd (x_ge (x := t) (y := o) rfl rfl (by omega) (by omega) h) (by omega)
      · refine hK _ _ _ _ (hK _ _ _ _ (hK _ _ _ _ (hK _ _ _ _ (⟨_, l_at (Or.inr (Or.inr rfl)) rfl (show t < 8 by omega), rfl, fun v21 M21 g21 => ?_⟩))))
        obtain ⟨rfl, rfl⟩ := g21
        rw [hf t (by omega)]
        refine hK _ _ _ _ (hK _ _ _ _ (hK _ _ _ _ (hK _ _ _ _ (?_))))
        exact ih (t + 1) _ _ (by omega) (by omega) rfl hI_s
  refine hK _ _ _ _ (hK _ _ _ _ (hK _ _ _ _ (hK _ _ _ _ (?_))))
  exact lp _ 0 _ _ rfl (Nat.zero_le _) rfl rfl
theorem wne {p : Prop} [Decidable p] : ¬ (if p then (-1 : Int32) else 1) = 0 := by
  by_cases h : p
  · rw [if_pos h]
    decide
  · rw [if_neg h]
    decide
theorem wnd {c : Nat × Nat} {l : List Nat} {sx sy : Nat} (hp : rpp c l = true) (hx : sx < 3) (hy : sy < 3) : Int32.ofInt (rwn c sx sy l) = bif rwi c sx sy l then (if rar c l < 0 then -1 else 1) else 0 := by
  rw [rpp_w hp hx hy]
  cases rwi c sx sy l with
  | false => rfl
  | true =>
    by_cases h : rar c l < 0
    · rw [if_pos h, if_pos h]
      rfl
    · rw [if_neg h, if_neg h]
      rfl
theorem rpp_r {c : Nat × Nat} {l : List Nat} (q0 : c.1 ≤ 3 ∧ c.2 ≤ 3) (q2 : rok c l = true) (hr : ∀ j, j < 16 → rvs c j l ≤ 1) (hc : rps c l = c) (h4 : 4 ≤ l.length) : rpp c l = true := by
  refine rpp_ok q0.1 q0.2 q2 (fun j => ?_) hc h4
  by_cases hj : j < 16
  · exact hr j hj
  · have hz : cnt (fun i => Nat.beq j (rco4 (rpt c l (i + 1)))) l.length = 0 := cnt_z _ (fun i _ => x_nbeq (fun z => hj (by rw [z]; exact rco4_lt (rpt_3 q0 q2 _))))
    rw [rvs_cnt, hz]
    exact Nat.zero_le _
theorem mrow_le {e : xB} {W : Nat → Nat → Bool} {y : Nat} {s : Nat × Int64 × (Nat → Int64)} : ∀ x, s.1 ≤ (mrow e W y s x).1
  | 0 => Nat.le_refl _
  | x + 1 => by
    have h := mrow_le (e := e) (W := W) (y := y) (s := s) x
    show s.1 ≤ (mst e W y x (mrow e W y s x)).1
    cases hw : W x y with
    | true =>
      rw [mst_t hw]
      exact Nat.le_trans h (Nat.le_succ _)
    | false =>
      rw [mst_f hw]
      exact h
theorem mrow_1 {e : xB} {W : Nat → Nat → Bool} {y a : Nat} {s : Nat × Int64 × (Nat → Int64)} (ha : W a y = true) : ∀ x, a < x → 1 ≤ (mrow e W y s x).1
  | 0, h => absurd h (Nat.not_lt_zero _)
  | x + 1, h => by
    show 1 ≤ (mst e W y x (mrow e W y s x)).1
    cases hw : W x y with
    | true =>
      rw [mst_t hw]
      exact Nat.le_add_left 1 _
    | false =>
      rw [mst_f hw]
      refine mrow_1 ha x ?_
      have hn : ¬ a = x := fun z => by
        rw [z, hw] at ha
        exact absurd ha (by decide)
      omega
theorem mall_1 {e : xB} {W : Nat → Nat → Bool} {a b : Nat} (hb : W a b = true) (ha : a < e.2.1.1) : ∀ y, b < y → 1 ≤ (mall e W y).1
  | 0, h => absurd h (Nat.not_lt_zero _)
  | y + 1, h => by
    show 1 ≤ (mrow e W y (mall e W y) e.2.1.1).1
    by_cases he : b = y
    · rw [he] at hb
      exact mrow_1 hb _ ha
    · exact Nat.le_trans (mall_1 hb ha y (by omega)) (mrow_le _)
theorem b_hasKin {nS d k o : Nat} {M : aM} {a : Int32} (hF : gF 0 M k o) : aC nS (d + 1) 58 [vR 5 0, vI a] M (fun v M' => (((0 ≤ a ∧ a < Int32.ofNat (kc k o)) ∧ v = some (vI 1)) ∨ (¬ (0 ≤ a ∧ a < Int32.ofNat (kc k o)) ∧ v = some (vI 0))) ∧ M = M') (fun _ _ => False) := by
  have hk := hF.2.2.1
  refine aC_mk rfl rfl ?_
  intro K hK _
  refine hK _ _ _ _ (hK _ _ _ _ (⟨fun h5 => ?_, fun h5 => ?_⟩))
  · exact hK _ _ _ _ (hK _ _ _ _ (⟨Or.inl rfl, Or.inr ⟨fun z => absurd z.1 (Int32.not_le.mpr h5), rfl⟩, rfl⟩))
  · refine hK _ _ _ _ (hK _ _ _ _ (hK _ _ _ _ (hK _ _ _ _ (⟨fun h6 => ?_, fun h6 => ?_⟩))))
    · rw [hk] at h6
      exact hK _ _ _ _ (hK _ _ _ _ (⟨Or.inl rfl, Or.inr ⟨fun z => absurd z.2 (Int32.not_lt.mpr h6), rfl⟩, rfl⟩))
    · rw [hk] at h6
      exact hK _ _ _ _ (hK _ _ _ _ (hK _ _ _ _ (⟨Or.inr rfl, Or.inl ⟨⟨x_gen h5, Int32.not_le.mp h6⟩, rfl⟩, rfl⟩)))
theorem b_squaresWithin {nS d : Nat} {M : aM} {e : xB} {c : Nat × Nat} {l : List Nat} (hB : cB 0 M e) (hp : rpp c l = true) (hi : rin e.2.1.1 c l = true) (hR : ∀ j, j < 16 → M.1 19 0 j = rri c j l) : aC nS (d + 3) 149 [vR 17 0] M (fun v M' => v = some (vI (Int32.ofNat (mns e c l).1)) ∧ M = M') (fun _ _ => False) := by
  obtain ⟨ho, o2, o8, hS, w1, w3, h1, h3, s2⟩ := cB_h hB
  refine aC_mk rfl rfl ?_
  intro K hK _
  have xl : ∀ (y : Nat), y < e.2.1.2.1 → (∀ (nn : Int32) (l3 : Option aV), nn = Int32.ofNat (mall e (fun x y => rwi c x y l) (y + 1)).1 → K 51 [some (vR 17 0), some (vI nn), some (vI (Int32.ofNat y)), l3] [] M) → ∀ (m x : Nat) (nn z : Int32), e.2.1.1 - x = m → x ≤ e.2.1.1 → nn = Int32.ofNat (mrow e (fun x y => rwi c x y l) y (mall e (fun x y => rwi c x y l) y) x).1 → z = Int32.ofNat x → K 17 [some (vR 17 0), some (vI nn), some (vI (Int32.ofNat y)), some (vI z)] [] M := by
    intro y hy out m
    induction m with
    | zero =>
      intro x nn z hm hx hn hz
      subst hz
      refine hK _ _ _ _ (hK _ _ _ _ (hK _ _ _ _ (hK _ _ _ _ (⟨_, b_wide, rfl, fun v22 M22 g22 => ?_⟩))))
      obtain ⟨rfl, rfl⟩ := g22
      rw [hS.1]
      refine hK _ _ _ _ (⟨fun h => ?_, fun h => ?_⟩)
      · refine out nn _ ?_
        rw [show x = e.2.1.1 by omega] at hn
        exact hn
      · exact absurd (x_nge (x := x) (y := e.2.1.1) rfl rfl (by omega) (by omega) h) (by omega)
    | succ m ih =>
      intro x nn z hm hx hn hz
      subst hz
      have hxw : x < e.2.1.1 := by omega
      refine hK _ _ _ _ (hK _ _ _ _ (hK _ _ _ _ (hK _ _ _ _ (⟨_, b_wide, rfl, fun v22 M22 g22 => ?_⟩))))
      obtain ⟨rfl, rfl⟩ := g22
      rw [hS.1]
      refine hK _ _ _ _ (⟨fun h => ?_, fun h => ?_⟩)
      · exact absurd (x_ge (x := x) (y := e.2.1.1) rfl rfl (by omega) (by omega) h) (by omega)
      · refine hK _ _ _ _ (hK _ _ _ _ (hK _ _ _ _ (hK _ _ _ _ (hK _ _ _ _ (⟨_, b_windsRound hS w3 hxw (show y < 3 by omega) hR, rfl, fun v32 M32 g32 => ?_⟩)))))
        obtain ⟨rfl, rfl⟩ := g32
        rw [wsu_rwn w3 hxw l hi, wnd hp (by omega) (by omega)]
        cases hw : rwi c x y l with
        | false =>
          refine hK _ _ _ _ (⟨fun q => (by first | exact absurd q (by decide) | exact absurd rfl q | exact absurd (by decide) q), fun _ => ?_⟩)
          refine hK _ _ _ _ (hK _ _ _ _ (hK _ _ _ _ (hK _ _ _ _ (hK _ _ _ _ (hK _ _ _ _ (?_))))))
          refine ih (x + 1) _ _ (by omega) (by omega) ?_ hI_s
          show nn + 0 = Int32.ofNat (mst e (fun x y => rwi c x y l) y x (mrow e (fun x y => rwi c x y l) y (mall e (fun x y => rwi c x y l) y) x)).1
          rw [mst_f (W := (fun x y => rwi c x y l)) hw, hn]
          exact Int32.add_zero _
        | true =>
          refine hK _ _ _ _ (⟨fun _ => ?_, fun q => absurd q wne⟩)
          refine hK _ _ _ _ (hK _ _ _ _ (hK _ _ _ _ (hK _ _ _ _ (hK _ _ _ _ (?_)))))
          refine ih (x + 1) _ _ (by omega) (by omega) ?_ hI_s
          show nn + 1 = Int32.ofNat (mst e (fun x y => rwi c x y l) y x (mrow e (fun x y => rwi c x y l) y (mall e (fun x y => rwi c x y l) y) x)).1
          rw [mst_t (W := (fun x y => rwi c x y l)) hw, hn]
          exact hI_s
  have yl : ∀ (m y : Nat) (nn z : Int32) (l3 : Option aV), e.2.1.2.1 - y = m → y ≤ e.2.1.2.1 → nn = Int32.ofNat (mall e (fun x y => rwi c x y l) y).1 → z = Int32.ofNat y → K 4 [some (vR 17 0), some (vI nn), some (vI z), l3] [] M := by
    intro m
    induction m with
    | zero =>
      intro y nn z l3 hm hy hn hz
      subst hz
      refine hK _ _ _ _ (hK _ _ _ _ (hK _ _ _ _ (hK _ _ _ _ (⟨_, b_high, rfl, fun v9 M9 g9 => ?_⟩))))
      obtain ⟨rfl, rfl⟩ := g9
      rw [hS.2.1]
      refine hK _ _ _ _ (⟨fun h => ?_, fun h => ?_⟩)
      · rw [show y = e.2.1.2.1 by omega] at hn
        exact hK _ _ _ _ (hK _ _ _ _ (⟨congrArg (fun z => some (vI z)) hn, rfl⟩))
      · exact absurd (x_nge (x := y) (y := e.2.1.2.1) rfl rfl (by omega) (by omega) h) (by omega)
    | succ m ih =>
      intro y nn z l3 hm hy hn hz
      subst hz
      refine hK _ _ _ _ (hK _ _ _ _ (hK _ _ _ _ (hK _ _ _ _ (⟨_, b_high, rfl, fun v9 M9 g9 => ?_⟩))))
      obtain ⟨rfl, rfl⟩ := g9
      rw [hS.2.1]
      refine hK _ _ _ _ (⟨fun h => ?_, fun h => ?_⟩)
      · exact absurd (x_ge (x := y) (y := e.2.1.2.1) rfl rfl (by omega) (by omega) h) (by omega)
      · refine hK _ _ _ _ (hK _ _ _ _ (?_))
        refine xl y (by omega) (fun nn l3 hn2 => ?_) _ 0 _ _ rfl (Nat.zero_le _) hn rfl
        refine hK _ _ _ _ (hK _ _ _ _ (?_))
        exact ih (y + 1) _ _ _ (by omega) (by omega) hn2 hI_s
  refine hK _ _ _ _ (hK _ _ _ _ (hK _ _ _ _ (hK _ _ _ _ (?_))))
  exact yl _ 0 _ _ _ rfl (Nat.zero_le _) rfl rfl
/-- the state between squares -/
def CSq (c : Nat × Nat) (l : List Nat) (o : Nat) (M : aM) (s : Nat × Int64 × (Nat → Int64)) (O : Int64) (ow : Int32) : Prop := (∀ t, t < o → M.2 25 0 t = s.2.2 t) ∧ O = s.2.1 ∧ ow = (if s.1 = 0 then (0 : Int32) else i01 (decide (rar c l < 0)))
theorem l_ofWalk {nS d : Nat} {M : aM} {e : xB} {c : Nat × Nat} {l : List Nat} {a : Int32} (hB : cB 0 M e) (hp : rpp c l = true) (hk : rok c l = true) (hi : rin e.2.1.1 c l = true) (hj : rjn e.2.1.2.1 c l = true) (hR : ∀ j, j < 16 → M.1 19 0 j = rri c j l) : aC nS (d + 5) 123 [vR 24 0, vR 17 0, vI a] M (fun v M' => v = some (vL (sl (mkf e c l a (mns e c l).2.2) e.1.2 * (mns e c l).2.1)) ∧ M'.1 = M.1) (fun _ _ => False) := by
  obtain ⟨ho, o2, o8, hS, w1, w3, h1, h3, s2⟩ := cB_h hB
  have hF := hB.1
  refine aC_mk rfl rfl ?_
  intro K hK _
  have fin : ∀ (O : Int64) (ow : Int32) (l6 l7 l8 : Option aV) (M1 : aM), M1.1 = M.1 → CSq c l e.1.2 M1 (mns e c l) O ow → K 111 [some (vR 24 0), some (vR 17 0), some (vI a), some (vL O), none, some (vI ow), l6, l7, l8] [] M1 := by
    intro O ow l6 l7 l8 M1 e1 hs
    obtain ⟨hw, hO, how⟩ := hs
    have hpos : ¬ (mns e c l).1 = 0 := by
      obtain ⟨sx, sy, lx, ly, hz⟩ := rpp_e hp h1 hk hi hj
      have := mall_1 (e := e) (W := (fun x y => rwi c x y l)) (a := sx) (b := sy) hz lx e.2.1.2.1 ly
      exact fun z => by
        have z : (mall e (fun x y => rwi c x y l) e.2.1.2.1).1 = 0 := z
        omega
    rw [if_neg hpos] at how
    subst how
    subst hO
    have hF1 := gF_1 hF e1
    have lp : ∀ (m t : Nat) (A : Int64) (z : Int32), e.1.2 - t = m → t ≤ e.1.2 → A = sl (mkf e c l a (mns e c l).2.2) t → z = Int32.ofNat t → K 117 [some (vR 24 0), some (vR 17 0), some (vI a), some (vL (mns e c l).2.1), none, some (vI (i01 (decide (rar c l < 0)))), some (vL A), none, some (vI z)] [] M1 := by
      intro m
      induction m with
      | zero =>
        intro t A z hm ht hA hz
        subst hz
        refine hK _ _ _ _ (hK _ _ _ _ (hK _ _ _ _ (hK _ _ _ _ (⟨_, b_order, rfl, fun v123 M123 g123 => ?_⟩))))
        obtain ⟨rfl, rfl⟩ := g123
        rw [hF1.1.2.2]
        refine hK _ _ _ _ (⟨fun h => ?_, fun h => ?_⟩)
        · exact hK _ _ _ _ (hK _ _ _ _ (hK _ _ _ _ (hK _ _ _ _ (⟨by rw [hA, show t = e.1.2 by omega], e1⟩))))
        · exact absurd (x_nge (x := t) (y := e.1.2) rfl rfl (by omega) (by omega) h) (by omega)
      | succ m ih =>
        intro t A z hm ht hA hz
        subst hz
        have hto : t < e.1.2 := by omega
        refine hK _ _ _ _ (hK _ _ _ _ (hK _ _ _ _ (hK _ _ _ _ (⟨_, b_order, rfl, fun v123 M123 g123 => ?_⟩))))
        obtain ⟨rfl, rfl⟩ := g123
        rw [hF1.1.2.2]
        refine hK _ _ _ _ (⟨fun h => ?_, fun h => ?_⟩)
        · exact absurd (x_ge (x := t) (y := e.1.2) rfl rfl (by omega) (by omega) h) (by omega)
        have knd : ∀ tt : Nat, tt < e.1.2 → tt = (if rar c l < 0 then ag e.1.1 e.1.2 t else t) → K 152 [some (vR 24 0), some (vR 17 0), some (vI a), some (vL (mns e c l).2.1), none, some (vI (i01 (decide (rar c l < 0)))), some (vL A), none, some (vI (Int32.ofNat t))] [vI (Int32.ofNat tt), vR 5 0] M1 := by
          intro tt htt et
          have ek : mkf e c l a (mns e c l).2.2 t = if Int32.ofNat (kn e.1.1 e.1.2 tt) = a then (mns e c l).2.2 t else 0 := by
            rw [et]
            rfl
          refine hK _ _ _ _ (⟨_, b_kinOf hF1 rfl htt, rfl, fun v152 M152 g152 => ?_⟩)
          obtain ⟨rfl, rfl⟩ := g152
          refine hK _ _ _ _ (hK _ _ _ _ (⟨fun h6 => ?_, fun h6 => ?_⟩))
          · refine hK _ _ _ _ (hK _ _ _ _ (?_))
            refine ih (t + 1) _ _ (by omega) (by omega) ?_ hI_s
            show A = sl (mkf e c l a (mns e c l).2.2) t + mkf e c l a (mns e c l).2.2 t
            rw [ek, if_neg h6, hA]
            exact (Int64.add_zero _).symm
          · refine hK _ _ _ _ (hK _ _ _ _ (hK _ _ _ _ (hK _ _ _ _ (hK _ _ _ _ (⟨_, l_at (Or.inl rfl) rfl (show t < 8 by omega), rfl, fun v167 M167 g167 => ?_⟩)))))
            obtain ⟨rfl, rfl⟩ := g167
            rw [hw t hto]
            refine hK _ _ _ _ (hK _ _ _ _ (hK _ _ _ _ (hK _ _ _ _ (?_))))
            refine ih (t + 1) _ _ (by omega) (by omega) ?_ hI_s
            show A + (mns e c l).2.2 t = sl (mkf e c l a (mns e c l).2.2) t + mkf e c l a (mns e c l).2.2 t
            rw [ek, if_pos h6, hA]
        by_cases hcw : rar c l < 0
        · rw [decide_eq_true hcw] at ⊢
          refine hK _ _ _ _ (hK _ _ _ _ (hK _ _ _ _ (hK _ _ _ _ (⟨fun q => (by first | exact absurd q (by decide) | exact absurd rfl q | exact absurd (by decide) q), fun _ => ?_⟩))))
          refine hK _ _ _ _ (hK _ _ _ _ (hK _ _ _ _ (hK _ _ _ _ (⟨_, g_cagainst hF1.1.1 hF1.2.1 rfl hto, rfl, fun v144 M144 g144 => ?_⟩))))
          obtain ⟨rfl, rfl⟩ := g144
          refine hK _ _ _ _ (?_)
          have kn2 := knd _ (ag_lt hF.1.1 hto) (if_pos hcw).symm
          rw [decide_eq_true hcw] at kn2
          exact kn2
        · rw [decide_eq_false hcw] at ⊢
          refine hK _ _ _ _ (hK _ _ _ _ (hK _ _ _ _ (hK _ _ _ _ (⟨fun _ => ?_, fun q => (by first | exact absurd q (by decide) | exact absurd rfl q | exact absurd (by decide) q)⟩))))
          refine hK _ _ _ _ (?_)
          have kn2 := knd _ hto (if_neg hcw).symm
          rw [decide_eq_false hcw] at kn2
          exact kn2
    refine hK _ _ _ _ (hK _ _ _ _ (hK _ _ _ _ (hK _ _ _ _ (?_))))
    exact lp _ 0 _ _ rfl (Nat.zero_le _) rfl rfl
  have xl : ∀ (y : Nat), y < e.2.1.2.1 → (∀ (O : Int64) (ow : Int32) (l7 l8 : Option aV) (M1 : aM), M1.1 = M.1 → CSq c l e.1.2 M1 (mall e (fun x y => rwi c x y l) (y + 1)) O ow → K 105 [some (vR 24 0), some (vR 17 0), some (vI a), some (vL O), none, some (vI ow), some (vI (Int32.ofNat y)), l7, l8] [] M1) → ∀ (m x : Nat) (O : Int64) (ow z : Int32) (l8 : Option aV) (M1 : aM), e.2.1.1 - x = m → x ≤ e.2.1.1 → z = Int32.ofNat x → M1.1 = M.1 → CSq c l e.1.2 M1 (mrow e (fun x y => rwi c x y l) y (mall e (fun x y => rwi c x y l) y) x) O ow → K 27 [some (vR 24 0), some (vR 17 0), some (vI a), some (vL O), none, some (vI ow), some (vI (Int32.ofNat y)), some (vI z), l8] [] M1 := by
    intro y hy out m
    induction m with
    | zero =>
      intro x O ow z l8 M1 hm hx hz e1 hs
      subst hz
      refine hK _ _ _ _ (hK _ _ _ _ (hK _ _ _ _ (hK _ _ _ _ (⟨_, b_wide, rfl, fun v33 M33 g33 => ?_⟩))))
      obtain ⟨rfl, rfl⟩ := g33
      rw [e1, hS.1]
      refine hK _ _ _ _ (⟨fun h => ?_, fun h => ?_⟩)
      · refine out O ow _ l8 M1 e1 ?_
        rw [show x = e.2.1.1 by omega] at hs
        exact hs
      · exact absurd (x_nge (x := x) (y := e.2.1.1) rfl rfl (by omega) (by omega) h) (by omega)
    | succ m ih =>
      intro x O ow z l8 M1 hm hx hz e1 hs
      subst hz
      have hxw : x < e.2.1.1 := by omega
      refine hK _ _ _ _ (hK _ _ _ _ (hK _ _ _ _ (hK _ _ _ _ (⟨_, b_wide, rfl, fun v33 M33 g33 => ?_⟩))))
      obtain ⟨rfl, rfl⟩ := g33
      rw [e1, hS.1]
      refine hK _ _ _ _ (⟨fun h => ?_, fun h => ?_⟩)
      · exact absurd (x_ge (x := x) (y := e.2.1.1) rfl rfl (by omega) (by omega) h) (by omega)
      have hB1 := cB_1 hB e1
      have hS1 := (cB_h hB1).2.2.2.1
      refine hK _ _ _ _ (hK _ _ _ _ (hK _ _ _ _ (hK _ _ _ _ (hK _ _ _ _ (hK _ _ _ _ (⟨_, b_squareAt hS1 w3 h3, rfl, fun v48 M48 g48 => ?_⟩))))))
      obtain ⟨g48, rfl⟩ := g48
      rcases g48 with ⟨x9, y9, hx9, hy9, ex, ey, rfl⟩ | ⟨no, -⟩
      · have ex := x_inj (by omega) (by omega) ex
        have ey := x_inj (by omega) (by omega) ey
        subst ex
        subst ey
        refine hK _ _ _ _ (⟨_, l_takeSquare hB1 rfl (show y * 4 + x < 16 by omega), rfl, fun v51 M51 g51 => ?_⟩)
        obtain ⟨rfl, f1, f2, f3⟩ := g51
        have hF5 := gF_1 hF (f1.trans e1)
        have hS5 := (cB_h (cB_1 hB (f1.trans e1))).2.2.2.1
        have hR5 : ∀ j, j < 16 → M51.1 19 0 j = rri c j l := by
          rw [f1.trans e1]
          exact hR
        refine hK _ _ _ _ (hK _ _ _ _ (hK _ _ _ _ (hK _ _ _ _ (⟨_, b_windsRound hS5 w3 hxw (show y < 3 by omega) hR5, rfl, fun v59 M59 g59 => ?_⟩))))
        obtain ⟨rfl, rfl⟩ := g59
        rw [wsu_rwn w3 hxw l hi, wnd hp (by omega) (by omega)]
        obtain ⟨hw0, hO, how⟩ := hs
        cases hw : rwi c x y l with
        | false =>
          refine hK _ _ _ _ (hK _ _ _ _ (hK _ _ _ _ (⟨fun q => (by first | exact absurd q (by decide) | exact absurd rfl q | exact absurd (by decide) q), fun _ => ?_⟩)))
          refine hK _ _ _ _ (hK _ _ _ _ (hK _ _ _ _ (hK _ _ _ _ (hK _ _ _ _ (⟨_, l_togetherF (f := gq e x y) hF5 f2, rfl, fun v75 M75 g75 => ?_⟩)))))
          obtain ⟨rfl, rfl⟩ := g75
          refine hK _ _ _ _ (hK _ _ _ _ (hK _ _ _ _ (hK _ _ _ _ (hK _ _ _ _ (?_)))))
          refine ih (x + 1) _ _ _ _ _ (by omega) (by omega) hI_s (f1.trans e1) ?_
          show CSq c l e.1.2 M51 (mst e (fun x y => rwi c x y l) y x (mrow e (fun x y => rwi c x y l) y (mall e (fun x y => rwi c x y l) y) x)) _ _
          rw [mst_f (W := (fun x y => rwi c x y l)) hw]
          exact ⟨fun t ht => (f3 25 0 t (by decide)).trans (hw0 t ht), by rw [hO], how⟩
        | true =>
          refine hK _ _ _ _ (hK _ _ _ _ (hK _ _ _ _ (⟨fun _ => ?_, fun q => absurd q wne⟩)))
          refine hK _ _ _ _ (hK _ _ _ _ (⟨_, l_multiplyOnce (f := (mrow e (fun x y => rwi c x y l) y (mall e (fun x y => rwi c x y l) y) x).2.2) (g := gq e x y) hF5 (fun t ht => (f3 25 0 t (by decide)).trans (hw0 t ht)) f2, rfl, fun v84 M84 g84 => ?_⟩))
          obtain ⟨rfl, q1, q2, -⟩ := g84
          by_cases hr : rar c l < 0
          · rw [if_pos hr]
            refine hK _ _ _ _ (hK _ _ _ _ (⟨fun q => (by first | exact absurd q (by decide) | exact absurd rfl q | exact absurd (by decide) q), fun _ => ?_⟩))
            refine hK _ _ _ _ (hK _ _ _ _ (hK _ _ _ _ (hK _ _ _ _ (hK _ _ _ _ (?_)))))
            refine ih (x + 1) _ _ _ _ _ (by omega) (by omega) hI_s (q1.trans (f1.trans e1)) ?_
            show CSq c l e.1.2 M84 (mst e (fun x y => rwi c x y l) y x (mrow e (fun x y => rwi c x y l) y (mall e (fun x y => rwi c x y l) y) x)) _ _
            rw [mst_t (W := (fun x y => rwi c x y l)) hw]
            refine ⟨q2, hO, ?_⟩
            rw [if_neg (Nat.succ_ne_zero _), decide_eq_true hr]
            rfl
          · rw [if_neg hr]
            refine hK _ _ _ _ (hK _ _ _ _ (⟨fun _ => ?_, fun q => (by first | exact absurd q (by decide) | exact absurd rfl q | exact absurd (by decide) q)⟩))
            refine hK _ _ _ _ (hK _ _ _ _ (hK _ _ _ _ (hK _ _ _ _ (?_))))
            refine ih (x + 1) _ _ _ _ _ (by omega) (by omega) hI_s (q1.trans (f1.trans e1)) ?_
            show CSq c l e.1.2 M84 (mst e (fun x y => rwi c x y l) y x (mrow e (fun x y => rwi c x y l) y (mall e (fun x y => rwi c x y l) y) x)) _ _
            rw [mst_t (W := (fun x y => rwi c x y l)) hw]
            refine ⟨q2, hO, ?_⟩
            rw [if_neg (Nat.succ_ne_zero _), decide_eq_false hr]
            rfl
      · exact absurd ⟨x, y, hxw, hy, rfl, rfl⟩ no
  have yl : ∀ (m y : Nat) (O : Int64) (ow z : Int32) (l7 l8 : Option aV) (M1 : aM), e.2.1.2.1 - y = m → y ≤ e.2.1.2.1 → z = Int32.ofNat y → M1.1 = M.1 → CSq c l e.1.2 M1 (mall e (fun x y => rwi c x y l) y) O ow → K 12 [some (vR 24 0), some (vR 17 0), some (vI a), some (vL O), none, some (vI ow), some (vI z), l7, l8] [] M1 := by
    intro m
    induction m with
    | zero =>
      intro y O ow z l7 l8 M1 hm hy hz e1 hs
      subst hz
      refine hK _ _ _ _ (hK _ _ _ _ (hK _ _ _ _ (hK _ _ _ _ (⟨_, b_high, rfl, fun v18 M18 g18 => ?_⟩))))
      obtain ⟨rfl, rfl⟩ := g18
      rw [e1, hS.2.1]
      refine hK _ _ _ _ (⟨fun h => ?_, fun h => ?_⟩)
      · refine fin O ow _ _ _ M1 e1 ?_
        rw [show y = e.2.1.2.1 by omega] at hs
        exact hs
      · exact absurd (x_nge (x := y) (y := e.2.1.2.1) rfl rfl (by omega) (by omega) h) (by omega)
    | succ m ih =>
      intro y O ow z l7 l8 M1 hm hy hz e1 hs
      subst hz
      refine hK _ _ _ _ (hK _ _ _ _ (hK _ _ _ _ (hK _ _ _ _ (⟨_, b_high, rfl, fun v18 M18 g18 => ?_⟩))))
      obtain ⟨rfl, rfl⟩ := g18
      rw [e1, hS.2.1]
      refine hK _ _ _ _ (⟨fun h => ?_, fun h => ?_⟩)
      · exact absurd (x_ge (x := y) (y := e.2.1.2.1) rfl rfl (by omega) (by omega) h) (by omega)
      · refine hK _ _ _ _ (hK _ _ _ _ (?_))
        refine xl y (by omega) (fun O ow l7 l8 M2 e2 hs2 => ?_) _ 0 _ _ _ _ _ rfl (Nat.zero_le _) rfl e1 hs
        refine hK _ _ _ _ (hK _ _ _ _ (?_))
        exact ih (y + 1) _ _ _ _ _ _ (by omega) (by omega) hI_s e2 hs2
  refine hK _ _ _ _ (hK _ _ _ _ (⟨_, l_begin, rfl, fun v1 M1 g1 => ?_⟩))
  obtain ⟨rfl, e1, e2⟩ := g1
  refine hK _ _ _ _ (hK _ _ _ _ (hK _ _ _ _ (hK _ _ _ _ (hK _ _ _ _ (hK _ _ _ _ (?_))))))
  exact yl _ 0 _ _ _ _ _ _ rfl (Nat.zero_le _) rfl e1 ⟨fun t ht => e2 t (by omega), rfl, (if_pos rfl).symm⟩
theorem c_meanX {nS n : Nat} {M : aM} {a1 : Int32} {e : xB} (hn : M.1 1 0 1 = Int32.ofNat n) (h4 : n ≤ 400) (hB : cB 0 M e) (hO : lO e.2.1.1 e.2.1.2.1 e.2.1.2.2 e.1.2 e.2.2.2.2) : aC nS 60 169 [vR 0 0, vI a1] M (fun v M' => M'.1 1 0 1 = 0 ∧ okK e a1 ∧ ∃ c u, w_read (M.1 2 0) n e = some (c, u) ∧ e.2.1.2.2 = 0 ∧ rsm e c u ∧ v = some (vL (man e c u.2.2 a1))) (fun x M' => M'.1 1 0 1 = 0 ∧ ((x = 2 ∧ ¬ okK e a1) ∨ (x = 0 ∧ okK e a1 ∧ w_read (M.1 2 0) n e = none) ∨ (x = 4 ∧ okK e a1 ∧ ∃ c u, w_read (M.1 2 0) n e = some (c, u) ∧ ¬ (e.2.1.2.2 = 0 ∧ rsm e c u)))) := by
  obtain ⟨hor, o2, o8, hS, w1, w3, h1, h3, s2⟩ := cB_h hB
  refine aC_mk rfl rfl ?_
  intro K hK _
  have kin : ∀ (b : Int32) (M1 : aM), M1.1 1 0 1 = 0 → gF 0 M1 e.1.1 e.1.2 → (okK e a1 → K 45 [some (vR 0 0), some (vI a1), some (vI b)] [] M1) → K 15 [some (vR 0 0), some (vI a1), some (vI b)] [] M1 := by
    intro b M1 z0 hF nx
    refine hK _ _ _ _ (hK _ _ _ _ (hK _ _ _ _ (⟨fun h5 => ?_, fun h5 => ?_⟩)))
    · exact nx (Or.inl h5)
    · refine hK _ _ _ _ (hK _ _ _ _ (hK _ _ _ _ (⟨_, b_group, rfl, fun v24 M24 g24 => ?_⟩)))
      obtain ⟨rfl, rfl⟩ := g24
      refine hK _ _ _ _ (hK _ _ _ _ (⟨_, b_hasKin hF, rfl, fun v28 M28 g28 => ?_⟩))
      obtain ⟨g28, rfl⟩ := g28
      rcases g28 with ⟨hk, rfl⟩ | ⟨hk, rfl⟩
      · refine hK _ _ _ _ (⟨fun _ => ?_, fun q => (by first | exact absurd q (by decide) | exact absurd rfl q | exact absurd (by decide) q)⟩)
        exact nx (Or.inr ((okK_c hF.1.1).mp hk))
      · refine hK _ _ _ _ (⟨fun q => (by first | exact absurd q (by decide) | exact absurd rfl q | exact absurd (by decide) q), fun _ => ?_⟩)
        refine hK _ _ _ _ (⟨rfl, z0, Or.inl ⟨rfl, fun z => ?_⟩⟩)
        rcases z with z | z
        · exact h5 z
        · exact hk ((okK_c hF.1.1).mpr z)
  refine hK _ _ _ _ (hK _ _ _ _ (hK _ _ _ _ (⟨_, b_readW (d := 48) hn h4 hB hO (J := JV e) (JV_ok w1 w3 h1 h3), rfl, fun v4 M4 g4 => ?_⟩)))
  obtain ⟨f4, g4⟩ := g4
  have B4 := cB_v f4 hB
  have B1 : cB 0 (a_pI M4 1 0 1 0) e := cB_fr B4 (fun q j h1 h2 _ => x_pn (fun z => absurd z.1 (by omega)))
  have S1 := (cB_h B1).2.2.2.1
  rcases g4 with ⟨c, u, r1, rfl, c1, c2, z2, hs, ho, jv⟩ | ⟨r1, rfl⟩
  · refine hK _ _ _ _ (hK _ _ _ _ (hK _ _ _ _ (hK _ _ _ _ (⟨_, t_clear (d := 58), rfl, fun v12 M12 g12 => ?_⟩))))
    obtain ⟨rfl, rfl⟩ := g12
    refine kin _ _ x_pe B1.1 (fun ok => ?_)
    refine hK _ _ _ _ (hK _ _ _ _ (⟨fun _ => ?_, fun q => (by first | exact absurd q (by decide) | exact absurd rfl q | exact absurd (by decide) q)⟩))
    refine hK _ _ _ _ (hK _ _ _ _ (hK _ _ _ _ (⟨_, b_isFlat S1.2.2.1 s2, rfl, fun v63 M63 g63 => ?_⟩)))
    obtain ⟨g63, rfl⟩ := g63
    rcases g63 with ⟨s0, rfl⟩ | ⟨s0, rfl⟩
    · refine hK _ _ _ _ (⟨fun q => (by first | exact absurd q (by decide) | exact absurd rfl q | exact absurd (by decide) q), fun _ => ?_⟩)
      obtain ⟨⟨q0, q1, q2, q3, q4⟩, qv, qr⟩ := jv s0
      refine hK _ _ _ _ (hK _ _ _ _ (hK _ _ _ _ (⟨_, b_isSimple (d := 56) (M := (a_pI M4 1 0 1 0)) (u := u) (c := c) B1 hs ho z2 c1 c2 qv (w_read_len r1), rfl, fun v73 M73 g73 => ?_⟩)))
      obtain ⟨g73, rfl⟩ := g73
      rcases g73 with ⟨hr, rfl⟩ | ⟨hr, rfl⟩
      · have hp : rpp c u.2.2 = true := rpp_r q0 q2 hr.1 ((rsm_f s0 ho c1 c2 w3 q1).mp hr.2.1) hr.2.2
        refine hK _ _ _ _ (⟨fun _ => ?_, fun q => (by first | exact absurd q (by decide) | exact absurd rfl q | exact absurd (by decide) q)⟩)
        refine hK _ _ _ _ (hK _ _ _ _ (hK _ _ _ _ (⟨fun h6 => ?_, fun h6 => ?_⟩)))
        · refine hK _ _ _ _ (hK _ _ _ _ (hK _ _ _ _ (hK _ _ _ _ (hK _ _ _ _ (hK _ _ _ _ (⟨_, l_ofWalk (d := 54) (c := c) (l := u.2.2) B1 hp q2 q3 q4 (fun j hj => qr j hj), rfl, fun v115 M115 g115 => ?_⟩))))))
          obtain ⟨rfl, e5⟩ := g115
          refine hK _ _ _ _ (⟨?_, ok, c, u, r1, s0, hr, ?_⟩)
          · rw [e5]
            exact x_pe
          · show some (vL (sl (mkf e c u.2.2 a1 (mns e c u.2.2).2.2) e.1.2 * (mns e c u.2.2).2.1)) = some (vL (if a1 = -1 then (Int32.ofNat (mns e c u.2.2).1).toInt64 else sl (mkf e c u.2.2 a1 (mns e c u.2.2).2.2) e.1.2 * (mns e c u.2.2).2.1))
            rw [if_neg h6]
        · refine hK _ _ _ _ (hK _ _ _ _ (hK _ _ _ _ (⟨_, b_squaresWithin (d := 56) (c := c) (l := u.2.2) B1 hp q3 (fun j hj => qr j hj), rfl, fun v99 M99 g99 => ?_⟩)))
          obtain ⟨rfl, rfl⟩ := g99
          refine hK _ _ _ _ (hK _ _ _ _ (hK _ _ _ _ (⟨x_pe, ok, c, u, r1, s0, hr, ?_⟩)))
          show some (vL (Int32.ofNat (mns e c u.2.2).1).toInt64) = some (vL (if a1 = -1 then (Int32.ofNat (mns e c u.2.2).1).toInt64 else sl (mkf e c u.2.2 a1 (mns e c u.2.2).2.2) e.1.2 * (mns e c u.2.2).2.1))
          rw [if_pos h6]
      · refine hK _ _ _ _ (⟨fun q => (by first | exact absurd q (by decide) | exact absurd rfl q | exact absurd (by decide) q), fun _ => ?_⟩)
        exact hK _ _ _ _ (⟨rfl, x_pe, Or.inr (Or.inr ⟨rfl, ok, c, u, r1, fun z => hr z.2⟩)⟩)
    · refine hK _ _ _ _ (⟨fun _ => ?_, fun q => (by first | exact absurd q (by decide) | exact absurd rfl q | exact absurd (by decide) q)⟩)
      exact hK _ _ _ _ (⟨rfl, x_pe, Or.inr (Or.inr ⟨rfl, ok, c, u, r1, fun z => s0 z.1⟩)⟩)
  · refine hK _ _ _ _ (hK _ _ _ _ (hK _ _ _ _ (hK _ _ _ _ (⟨_, t_clear (d := 58), rfl, fun v12 M12 g12 => ?_⟩))))
    obtain ⟨rfl, rfl⟩ := g12
    refine kin _ _ x_pe B1.1 (fun ok => ?_)
    refine hK _ _ _ _ (hK _ _ _ _ (⟨fun q => (by first | exact absurd q (by decide) | exact absurd rfl q | exact absurd (by decide) q), fun _ => ?_⟩))
    exact hK _ _ _ _ (⟨rfl, x_pe, Or.inr (Or.inl ⟨rfl, ok, r1⟩)⟩)
