theorem x_t0 : (10 : Int32) - 0 = Int32.ofNat 10 := by decide
theorem x_t1 : (10 : Int32) - 1 = Int32.ofNat 9 := by decide
/-- one turn's part: what stands behind k places -/
def kup (w c' : Nat) (fa : Nat → Int64) (m : Int64) (nx : Nat → Nat → Int64) : Nat → Nat → Nat → Int64
  | 0 => nx
  | k + 1 => fun c j => if c = c' ∧ j = k + w then kup w c' fa m nx k c j + fa k * m else kup w c' fa m nx k c j
def fsi (k o : Nat) (w : Nat → Nat) (mm : Nat → Int64) (F : Nat → Nat → Int64) (a : Nat) (nx : Nat → Nat → Int64) : Nat → Nat → Nat → Int64
  | 0 => nx
  | t + 1 => kup (w t) (rt k o a t) (F a) (mm t) (fsi k o w mm F a nx t) (10 - w t)
def fso (k o : Nat) (w : Nat → Nat) (mm : Nat → Int64) (F : Nat → Nat → Int64) : Nat → Nat → Nat → Int64
  | 0 => fun _ _ => 0
  | a + 1 => fsi k o w mm F a (fso k o w mm F a) o
/-- a row of sums -/
def FR (q : Nat) (M : aM) (F : Nat → Nat → Int64) : Prop := ∀ c j, c < 8 → j < 10 → M.2 q 0 (c * 10 + j) = F c j
theorem FR_m {q : Nat} {M M1 : aM} {F : Nat → Nat → Int64} (h : FR q M F) (h1 : ∀ j, M1.2 q 0 j = M.2 q 0 j) : FR q M1 F := fun c j hc hj => (h1 _).trans (h c j hc hj)
theorem rB_1 {M M1 : aM} {e : xB} (h : rB 37 M e) (h1 : M1.1 = M.1) : rB 37 M1 e := rB_fr h (fun j _ _ _ _ => by rw [h1])
theorem gM_1 {M M1 : aM} {k o : Nat} (h : gM M k o) (h1 : M1.1 = M.1) : gM M1 k o := ⟨h.1, by rw [h1]; exact h.2.1, by rw [h1]; exact h.2.2⟩
def sqw (e : xB) (x y : Nat) (cb : Bool) (t : Nat) : Nat := if cb = true ∧ ¬ t = 0 ∧ ¬ e.2.2.2.1 (y * 4 + x) = 1 then 1 else 0
def sqm (e : xB) (x y : Nat) (cb : Bool) (t : Nat) : Int64 := if cb = true then 1 else (wi e (y * 4 + x) t).toInt64
def fsq (e : xB) (x y : Nat) (cb : Bool) (F : Nat → Nat → Int64) : Nat → Nat → Int64 := fso e.1.1 e.1.2 (sqw e x y cb) (sqm e x y cb) F e.1.2
theorem sqw_1 {e : xB} {x y t : Nat} {cb : Bool} : sqw e x y cb t ≤ 1 := by
  unfold sqw
  by_cases h : cb = true ∧ ¬ t = 0 ∧ ¬ e.2.2.2.1 (y * 4 + x) = 1
  · rw [if_pos h]
    exact Nat.le_refl _
  · rw [if_neg h]
    exact Nat.zero_le _
theorem r_weightOf {nS d x y t : Nat} {M : aM} {e : xB} (hB : rB 37 M e) (hx : x < 3) (hy : y < 3) (ht : t < 8) : aC nS (d + 2) 233 [vR 36 0, vI (Int32.ofNat x), vI (Int32.ofNat y), vI (Int32.ofNat t)] M (fun v M' => v = some (vI (wi e (y * 4 + x) t)) ∧ M = M') (fun _ _ => False) := by
  refine aC_mk rfl rfl ?_
  intro K hK _
  refine hK _ _ _ _ (hK _ _ _ _ (hK _ _ _ _ (hK _ _ _ _ (⟨_, r_isHole hB.2.2.2.2 hx hy, rfl, fun v3 M3 g3 => ?_⟩))))
  obtain ⟨g3, rfl⟩ := g3
  rcases g3 with ⟨h, rfl⟩ | ⟨h, rfl⟩
  · refine hK _ _ _ _ (⟨fun q => ?_, fun q => ?_⟩)
    · exact absurd q (by decide)
    · exact hK _ _ _ _ (hK _ _ _ _ (hK _ _ _ _ (⟨by rw [show wi e (y * 4 + x) t = 1 from if_pos h], rfl⟩)))
  · refine hK _ _ _ _ (⟨fun q => ?_, fun q => ?_⟩)
    · refine hK _ _ _ _ (hK _ _ _ _ (hK _ _ _ _ (hK _ _ _ _ (hK _ _ _ _ (hK _ _ _ _ (⟨x_vp (a := 10 + t) (hI_ad (a := 10)) (by omega) (by decide), ?_⟩))))))
      rw [x_cl (j := 10 + Int32.ofNat t) (a := 10 + t) (hI_ad (a := 10)) (by omega), hB.2.2.2.1 t ht]
      exact hK _ _ _ _ (⟨by rw [show wi e (y * 4 + x) t = e.2.2.1 t from if_neg h], rfl⟩)
    · exact absurd rfl q
def Fz0 (c j : Nat) : Int64 := if c = 0 ∧ j = 0 then 1 else 0
theorem r_folds0 {nS d : Nat} {M : aM} : aC nS (d + 1) 234 [vR 36 0] M (fun v M' => v = none ∧ M'.1 = M.1 ∧ FR 43 M' Fz0) (fun _ _ => False) := by
  refine aC_mk rfl rfl ?_
  intro K hK _
  have lp : ∀ (m j : Nat) (y : Int32) (M1 : aM), 80 - j = m → j ≤ 80 → y = Int32.ofNat j → M1.1 = M.1 → (∀ i, i < j → M1.2 43 0 i = if i = 0 then 1 else 0) → K 2 [some (vR 36 0), some (vI y)] [] M1 := by
    intro m
    induction m with
    | zero =>
      intro j y M1 hm hj hy h1 h2
      subst hy
      refine hK _ _ _ _ (hK _ _ _ _ (hK _ _ _ _ (⟨fun h => ?_, fun h => ?_⟩)))
      · refine hK _ _ _ _ (⟨rfl, h1, fun c j' hc hj' => ?_⟩)
        rw [h2 _ (show c * 10 + j' < j by omega)]
        unfold Fz0
        by_cases hz : c = 0 ∧ j' = 0
        · rw [if_pos hz, if_pos (show c * 10 + j' = 0 by omega)]
        · rw [if_neg hz, if_neg (show ¬ c * 10 + j' = 0 by omega)]
      · exact absurd (x_nge (x := j) (y := 80) rfl rfl (by omega) (by decide) h) (by omega)
    | succ m ih =>
      intro j y M1 hm hj hy h1 h2
      subst hy
      refine hK _ _ _ _ (hK _ _ _ _ (hK _ _ _ _ (⟨fun h => ?_, fun h => ?_⟩)))
      · exact absurd (x_ge (x := j) (y := 80) rfl rfl (by omega) (by decide) h) (by omega)
      · have nx : ∀ x : Int64, x = (if j = 0 then 1 else 0) → K 22 [some (vR 36 0), some (vI (Int32.ofNat j))] [vL x, vI (Int32.ofNat j), vR 43 0] M1 := by
          intro x hx
          refine hK _ _ _ _ ⟨x_vp rfl (show j < 80 by omega) (by decide), ?_⟩
          rw [x_cl rfl (by omega)]
          refine hK _ _ _ _ (hK _ _ _ _ (?_))
          refine ih (j + 1) _ _ (by omega) (by omega) hI_s h1 (fun i hi => ?_)
          by_cases he : i = j
          · rw [he]
            exact x_Le.trans hx
          · exact (x_Ln (fun z => he z.2.2)).trans (h2 i (by omega))
        refine hK _ _ _ _ (hK _ _ _ _ (hK _ _ _ _ (hK _ _ _ _ (hK _ _ _ _ (⟨fun q => ?_, fun q => ?_⟩)))))
        · refine hK _ _ _ _ (?_)
          exact nx _ (if_neg (fun z => q (by rw [z]; rfl))).symm
        · refine hK _ _ _ _ (hK _ _ _ _ (?_))
          exact nx _ (if_pos (x_eq (y := 0) rfl rfl (by omega) (by decide) q)).symm
  refine hK _ _ _ _ (hK _ _ _ _ (?_))
  exact lp _ 0 _ _ rfl (Nat.zero_le _) rfl rfl (fun i hi => absurd hi (Nat.not_lt_zero _))
set_option maxRecDepth 4000 in
theorem r_foldsSquare {nS d x y : Nat} {M : aM} {e : xB} {cb : Bool} {F : Nat → Nat → Int64} (hB : rB 37 M e) (hx : x < 3) (hy : y < 3) (hf : FR 43 M F) : aC nS (d + 3) 235 [vR 36 0, vI (Int32.ofNat x), vI (Int32.ofNat y), vI (i01 cb)] M (fun v M' => v = none ∧ M'.1 = M.1 ∧ FR 43 M' (fsq e x y cb F)) (fun _ _ => False) := by
  obtain ⟨ho, o2, o8, -⟩ := rB_h hB
  have hg := rB_g hB
  refine aC_mk rfl rfl ?_
  intro K hK _
  have od : ∀ {M1 : aM}, M1.1 = M.1 → M1.1 37 0 2 = Int32.ofNat e.1.2 := fun h => by rw [h]; exact ho
  have lt : ∀ {a b : Nat}, a < 1000 → b < 1000 → ¬ Int32.ofNat b ≤ Int32.ofNat a → a < b := fun ha hb h => x_nge rfl rfl (by omega) (by omega) h
  have ge : ∀ {a b : Nat}, a < 1000 → b < 1000 → Int32.ofNat b ≤ Int32.ofNat a → b ≤ a := fun ha hb h => x_ge rfl rfl (by omega) (by omega) h
  -- the row is taken over
  have l4 : ∀ (m j : Nat) (l5 l6 l7 l8 : Option aV) (M1 : aM), j + m = 80 → M1.1 = M.1 → FR 44 M1 (fsq e x y cb F) → (∀ i, i < j → M1.2 43 0 i = M1.2 44 0 i) → K 187 [some (vR 36 0), some (vI (Int32.ofNat x)), some (vI (Int32.ofNat y)), some (vI (i01 cb)), some (vI (Int32.ofNat j)), l5, l6, l7, l8] [] M1 := by
    intro m
    induction m with
    | zero =>
      intro j l5 l6 l7 l8 M1 hj h1 h2 h3
      refine hK _ _ _ _ (hK _ _ _ _ (hK _ _ _ _ (⟨fun q => ?_, fun q => ?_⟩)))
      · exact hK _ _ _ _ (⟨rfl, h1, fun c i hc hi => (h3 _ (by omega)).trans (h2 c i hc hi)⟩)
      · exact absurd (lt (b := 80) (by omega) (by decide) q) (by omega)
    | succ m ih =>
      intro j l5 l6 l7 l8 M1 hj h1 h2 h3
      refine hK _ _ _ _ (hK _ _ _ _ (hK _ _ _ _ (⟨fun q => ?_, fun q => ?_⟩)))
      · exact absurd (ge (b := 80) (by omega) (by decide) q) (by omega)
      · refine hK _ _ _ _ (hK _ _ _ _ (hK _ _ _ _ (hK _ _ _ _ (hK _ _ _ _ (hK _ _ _ _ (?_))))))
        refine hK _ _ _ _ ⟨x_vp rfl (show j < 80 by omega) (by decide), ?_⟩
        refine hK _ _ _ _ ⟨x_vp rfl (show j < 80 by omega) (by decide), ?_⟩
        rw [x_cl rfl (by omega)]
        refine hK _ _ _ _ (hK _ _ _ _ (?_))
        rw [hI_s]
        refine ih (j + 1) _ _ _ _ _ (by omega) h1 (FR_m h2 (fun i => x_Ln (fun z => absurd z.1 (by decide)))) (fun i hi => ?_)
        have e4 : ∀ i, (a_pL M1 43 0 j (M1.2 44 0 j)).2 44 0 i = M1.2 44 0 i := fun i => x_Ln (fun z => absurd z.1 (by decide))
        rw [e4]
        by_cases he : i = j
        · rw [he]
          exact x_Le
        · exact (x_Ln (fun z => he z.2.2)).trans (h3 i (by omega))
  -- turn by turn
  have la : ∀ (m a : Nat) (l5 l6 l7 l8 : Option aV) (M1 : aM), a + m = e.1.2 → M1.1 = M.1 → FR 43 M1 F → FR 44 M1 (fso e.1.1 e.1.2 (sqw e x y cb) (sqm e x y cb) F a) → K 27 [some (vR 36 0), some (vI (Int32.ofNat x)), some (vI (Int32.ofNat y)), some (vI (i01 cb)), some (vI (Int32.ofNat a)), l5, l6, l7, l8] [] M1 := by
    intro m
    induction m with
    | zero =>
      intro a l5 l6 l7 l8 M1 ha h1 h2 h3
      refine hK _ _ _ _ (hK _ _ _ _ (hK _ _ _ _ (hK _ _ _ _ (hK _ _ _ _ (⟨x_vp (a := 2) rfl (by decide) (by decide), ?_⟩)))))
      rw [x_cl (j := 2) (a := 2) rfl (by decide), od h1]
      refine hK _ _ _ _ (⟨fun q => ?_, fun q => ?_⟩)
      · refine hK _ _ _ _ (hK _ _ _ _ (?_))
        rw [show a = e.1.2 by omega] at h3
        exact l4 80 0 _ _ _ _ _ rfl h1 h3 (fun i hi => absurd hi (Nat.not_lt_zero _))
      · exact absurd (lt (by omega) (by omega) q) (by omega)
    | succ m iha =>
      intro a l5 l6 l7 l8 M1 ha h1 h2 h3
      have hao : a < e.1.2 := by omega
      refine hK _ _ _ _ (hK _ _ _ _ (hK _ _ _ _ (hK _ _ _ _ (hK _ _ _ _ (⟨x_vp (a := 2) rfl (by decide) (by decide), ?_⟩)))))
      rw [x_cl (j := 2) (a := 2) rfl (by decide), od h1]
      refine hK _ _ _ _ (⟨fun q => ?_, fun q => ?_⟩)
      · exact absurd (ge (by omega) (by omega) q) (by omega)
      clear q
      have lt2 : ∀ (m t : Nat) (l6 l7 l8 : Option aV) (M1 : aM), t + m = e.1.2 → M1.1 = M.1 → FR 43 M1 F → FR 44 M1 (fsi e.1.1 e.1.2 (sqw e x y cb) (sqm e x y cb) F a (fso e.1.1 e.1.2 (sqw e x y cb) (sqm e x y cb) F a) t) → K 41 [some (vR 36 0), some (vI (Int32.ofNat x)), some (vI (Int32.ofNat y)), some (vI (i01 cb)), some (vI (Int32.ofNat a)), some (vI (Int32.ofNat t)), l6, l7, l8] [] M1 := by
        intro m
        induction m with
        | zero =>
          intro t l6 l7 l8 M1 ht h1 h2 h3
          refine hK _ _ _ _ (hK _ _ _ _ (hK _ _ _ _ (hK _ _ _ _ (hK _ _ _ _ (⟨x_vp (a := 2) rfl (by decide) (by decide), ?_⟩)))))
          rw [x_cl (j := 2) (a := 2) rfl (by decide), od h1]
          refine hK _ _ _ _ (⟨fun q => ?_, fun q => ?_⟩)
          · refine hK _ _ _ _ (hK _ _ _ _ (?_))
            rw [hI_s]
            rw [show t = e.1.2 by omega] at h3
            exact iha (a + 1) _ _ _ _ _ (by omega) h1 h2 h3
          · exact absurd (lt (by omega) (by omega) q) (by omega)
        | succ m iht =>
          intro t l6 l7 l8 M1 ht h1 h2 h3
          have hto : t < e.1.2 := by omega
          refine hK _ _ _ _ (hK _ _ _ _ (hK _ _ _ _ (hK _ _ _ _ (hK _ _ _ _ (⟨x_vp (a := 2) rfl (by decide) (by decide), ?_⟩)))))
          rw [x_cl (j := 2) (a := 2) rfl (by decide), od h1]
          refine hK _ _ _ _ (⟨fun q => ?_, fun q => ?_⟩)
          · exact absurd (ge (by omega) (by omega) q) (by omega)
          clear q
          refine hK _ _ _ _ (hK _ _ _ _ (hK _ _ _ _ (hK _ _ _ _ (hK _ _ _ _ (⟨_, g_times (d := d + 1) (gM_1 hg h1) hao hto, rfl, fun v59 M59 g59 => ?_⟩)))))
          obtain ⟨rfl, rfl⟩ := g59
          have hu : rt e.1.1 e.1.2 a t < 8 := Nat.lt_of_lt_of_le (rt_lt hg.1 hao hto) o8
          obtain ⟨u, hru⟩ : ∃ u, u = rt e.1.1 e.1.2 a t := ⟨_, rfl⟩
          rw [← hru] at hu ⊢
          -- place by place
          have lk : ∀ (w : Nat), w ≤ 1 → sqw e x y cb t = w → ∀ (m k : Nat) (M1 : aM), k + m = 10 - w → M1.1 = M.1 → FR 43 M1 F → FR 44 M1 (kup w u (F a) (sqm e x y cb t) (fsi e.1.1 e.1.2 (sqw e x y cb) (sqm e x y cb) F a (fso e.1.1 e.1.2 (sqw e x y cb) (sqm e x y cb) F a) t) k) → K 93 [some (vR 36 0), some (vI (Int32.ofNat x)), some (vI (Int32.ofNat y)), some (vI (i01 cb)), some (vI (Int32.ofNat a)), some (vI (Int32.ofNat t)), some (vI (Int32.ofNat (10 * u))), some (vI (Int32.ofNat w)), some (vI (Int32.ofNat k))] [] M1 := by
            intro w hw hsw m
            have b10 : ∀ (k : Nat) (M1 : aM), (10 - w ≤ k → K 172 [some (vR 36 0), some (vI (Int32.ofNat x)), some (vI (Int32.ofNat y)), some (vI (i01 cb)), some (vI (Int32.ofNat a)), some (vI (Int32.ofNat t)), some (vI (Int32.ofNat (10 * u))), some (vI (Int32.ofNat w)), some (vI (Int32.ofNat k))] [] M1) → (k < 10 - w → K 111 [some (vR 36 0), some (vI (Int32.ofNat x)), some (vI (Int32.ofNat y)), some (vI (i01 cb)), some (vI (Int32.ofNat a)), some (vI (Int32.ofNat t)), some (vI (Int32.ofNat (10 * u))), some (vI (Int32.ofNat w)), some (vI (Int32.ofNat k))] [] M1) → k ≤ 10 → K 93 [some (vR 36 0), some (vI (Int32.ofNat x)), some (vI (Int32.ofNat y)), some (vI (i01 cb)), some (vI (Int32.ofNat a)), some (vI (Int32.ofNat t)), some (vI (Int32.ofNat (10 * u))), some (vI (Int32.ofNat w)), some (vI (Int32.ofNat k))] [] M1 := by
              intro k M1 h1 h2 hk
              rcases (show w = 0 ∨ w = 1 by omega) with rfl | rfl
              · refine hK _ _ _ _ (hK _ _ _ _ (hK _ _ _ _ (hK _ _ _ _ (⟨fun z => ?_, fun z => ?_⟩))))
                · refine hK _ _ _ _ (hK _ _ _ _ (hK _ _ _ _ (⟨fun q => ?_, fun q => ?_⟩)))
                  · exact h1 (ge (a := k) (b := 10) (by omega) (by decide) (x_t0 ▸ q))
                  · exact h2 (lt (a := k) (b := 10) (by omega) (by decide) (x_t0 ▸ q))
                · exact absurd rfl z
              · refine hK _ _ _ _ (hK _ _ _ _ (hK _ _ _ _ (hK _ _ _ _ (⟨fun z => ?_, fun z => ?_⟩))))
                · exact absurd z (by decide)
                · refine hK _ _ _ _ (hK _ _ _ _ (hK _ _ _ _ (hK _ _ _ _ (⟨fun q => ?_, fun q => ?_⟩))))
                  · exact h1 (ge (a := k) (b := 9) (by omega) (by decide) (x_t1 ▸ q))
                  · exact h2 (lt (a := k) (b := 9) (by omega) (by decide) (x_t1 ▸ q))
            induction m with
            | zero =>
              intro k M1 hk h1 h2 h3
              refine b10 k M1 (fun _ => ?_) (fun h => absurd h (by omega)) (by omega)
              refine hK _ _ _ _ (hK _ _ _ _ (?_))
              rw [hI_s]
              refine iht (t + 1) _ _ _ _ (by omega) h1 h2 ?_
              have e9 : fsi e.1.1 e.1.2 (sqw e x y cb) (sqm e x y cb) F a (fso e.1.1 e.1.2 (sqw e x y cb) (sqm e x y cb) F a) (t + 1) = kup (sqw e x y cb t) (rt e.1.1 e.1.2 a t) (F a) (sqm e x y cb t) (fsi e.1.1 e.1.2 (sqw e x y cb) (sqm e x y cb) F a (fso e.1.1 e.1.2 (sqw e x y cb) (sqm e x y cb) F a) t) (10 - sqw e x y cb t) := rfl
              rw [e9, ← hru, hsw, ← show k = 10 - w by omega]
              exact h3
            | succ m ihk =>
              intro k M1 hk h1 h2 h3
              refine b10 k M1 (fun h => absurd h (by omega)) (fun _ => ?_) (by omega)
              have hfa : M1.2 43 0 (a * 10 + k) = F a k := h2 a k (by omega) (by omega)
              -- what is added
              have ad : ∀ (v : Int32), v.toInt64 = sqm e x y cb t → K 162 [some (vR 36 0), some (vI (Int32.ofNat x)), some (vI (Int32.ofNat y)), some (vI (i01 cb)), some (vI (Int32.ofNat a)), some (vI (Int32.ofNat t)), some (vI (Int32.ofNat (10 * u))), some (vI (Int32.ofNat w)), some (vI (Int32.ofNat k))] [vI v, vL (M1.2 43 0 (a * 10 + k)), vL (M1.2 44 0 (u * 10 + k + w)), vI (Int32.ofNat (u * 10 + k + w)), vR 44 0] M1 := by
                intro v hv
                refine hK _ _ _ _ (hK _ _ _ _ (hK _ _ _ _ (hK _ _ _ _ (⟨x_vp rfl (show u * 10 + k + w < 80 by omega) (by decide), ?_⟩))))
                rw [x_cl rfl (by omega)]
                refine hK _ _ _ _ (hK _ _ _ _ (?_))
                rw [hI_s]
                refine ihk (k + 1) _ (by omega) h1 (FR_m h2 (fun i => x_Ln (fun z => absurd z.1 (by decide)))) (fun c j hc hj => ?_)
                have e9 : kup w u (F a) (sqm e x y cb t) (fsi e.1.1 e.1.2 (sqw e x y cb) (sqm e x y cb) F a (fso e.1.1 e.1.2 (sqw e x y cb) (sqm e x y cb) F a) t) (k + 1) c j = if c = u ∧ j = k + w then kup w u (F a) (sqm e x y cb t) (fsi e.1.1 e.1.2 (sqw e x y cb) (sqm e x y cb) F a (fso e.1.1 e.1.2 (sqw e x y cb) (sqm e x y cb) F a) t) k c j + F a k * sqm e x y cb t else kup w u (F a) (sqm e x y cb t) (fsi e.1.1 e.1.2 (sqw e x y cb) (sqm e x y cb) F a (fso e.1.1 e.1.2 (sqw e x y cb) (sqm e x y cb) F a) t) k c j := rfl
                rw [e9]
                by_cases hz : c = u ∧ j = k + w
                · rw [if_pos hz, show c * 10 + j = u * 10 + k + w by omega, x_Le, hfa, hv, show u * 10 + k + w = c * 10 + j by omega, h3 c j hc hj]
                · rw [if_neg hz]
                  exact (x_Ln (fun z => hz (by omega))).trans (h3 c j hc hj)
              have nx : K 130 [some (vR 36 0), some (vI (Int32.ofNat x)), some (vI (Int32.ofNat y)), some (vI (i01 cb)), some (vI (Int32.ofNat a)), some (vI (Int32.ofNat t)), some (vI (Int32.ofNat (10 * u))), some (vI (Int32.ofNat w)), some (vI (Int32.ofNat k))] [vI (Int32.ofNat w), vI (Int32.ofNat (10 * u) + Int32.ofNat k), vR 44 0] M1 := by
                have e1 : Int32.ofNat (10 * u) + Int32.ofNat k + Int32.ofNat w = Int32.ofNat (u * 10 + k + w) := by
                  rw [hI_ad, hI_ad, Nat.mul_comm]
                have e2 : (10 : Int32) * Int32.ofNat a + Int32.ofNat k = Int32.ofNat (a * 10 + k) := by
                  rw [show (10 : Int32) * Int32.ofNat a = Int32.ofNat (10 * a) from x_mul (a := 10) (by decide) (by omega), hI_ad, Nat.mul_comm]
                refine hK _ _ _ _ (hK _ _ _ _ (hK _ _ _ _ (⟨x_vp e1 (show u * 10 + k + w < 80 by omega) (by decide), ?_⟩)))
                rw [x_cl e1 (by omega)]
                refine hK _ _ _ _ (hK _ _ _ _ (hK _ _ _ _ (hK _ _ _ _ (hK _ _ _ _ (hK _ _ _ _ (hK _ _ _ _ (hK _ _ _ _ (⟨x_vp e2 (show a * 10 + k < 80 by omega) (by decide), ?_⟩))))))))
                rw [x_cl e2 (by omega), e1]
                cases hcb : cb with
                | false =>
                  subst hcb
                  refine hK _ _ _ _ (hK _ _ _ _ (⟨fun z => ?_, fun z => ?_⟩))
                  · refine hK _ _ _ _ (hK _ _ _ _ (hK _ _ _ _ (hK _ _ _ _ (hK _ _ _ _ (⟨_, r_weightOf (rB_1 hB h1) hx hy (show t < 8 by omega), rfl, fun v159 M159 g159 => ?_⟩)))))
                    obtain ⟨rfl, rfl⟩ := g159
                    exact ad _ (if_neg (by decide)).symm
                  · exact absurd rfl z
                | true =>
                  subst hcb
                  refine hK _ _ _ _ (hK _ _ _ _ (⟨fun z => ?_, fun z => ?_⟩))
                  · exact absurd z (by decide)
                  · refine hK _ _ _ _ (hK _ _ _ _ (?_))
                    exact ad _ (show (1 : Int32).toInt64 = sqm e x y true t by rw [show sqm e x y true t = 1 from if_pos rfl]; decide)
              refine hK _ _ _ _ (hK _ _ _ _ (hK _ _ _ _ (hK _ _ _ _ (hK _ _ _ _ (hK _ _ _ _ (hK _ _ _ _ (⟨fun z => ?_, fun z => ?_⟩)))))))
              · have hw0 : w = 0 := x_eq (x := w) (y := 0) rfl rfl (by omega) (by decide) z
                refine hK _ _ _ _ (?_)
                rw [hw0] at nx ⊢
                exact nx
              · have hw1 : w = 1 := by
                  have : ¬ w = 0 := fun e => z (by rw [e]; rfl)
                  omega
                refine hK _ _ _ _ (hK _ _ _ _ (?_))
                rw [hw1] at nx ⊢
                exact nx
          have mul : (10 : Int32) * Int32.ofNat u = Int32.ofNat (10 * u) := x_mul (a := 10) (by decide) (by omega)
          have one : ∀ (w : Nat) (wv : Int32), w ≤ 1 → wv = Int32.ofNat w → sqw e x y cb t = w → K 88 [some (vR 36 0), some (vI (Int32.ofNat x)), some (vI (Int32.ofNat y)), some (vI (i01 cb)), some (vI (Int32.ofNat a)), some (vI (Int32.ofNat t)), some (vI (Int32.ofNat (10 * u))), l7, l8] [vI wv] M1 := by
            intro w wv hw hwv hsw
            subst hwv
            refine hK _ _ _ _ (hK _ _ _ _ (hK _ _ _ _ (?_)))
            exact lk w hw hsw (10 - w) 0 M1 (by omega) h1 h2 h3
          refine hK _ _ _ _ (hK _ _ _ _ (?_))
          rw [mul]
          cases hcb : cb with
          | false =>
            subst hcb
            refine hK _ _ _ _ (hK _ _ _ _ (⟨fun z => ?_, fun z => ?_⟩))
            · refine hK _ _ _ _ (?_)
              exact one 0 0 (by decide) rfl (if_neg (fun z => absurd z.1 (by decide)))
            · exact absurd rfl z
          | true =>
            subst hcb
            refine hK _ _ _ _ (hK _ _ _ _ (⟨fun z => ?_, fun z => ?_⟩))
            · exact absurd z (by decide)
            · refine hK _ _ _ _ (hK _ _ _ _ (⟨fun z => ?_, fun z => ?_⟩))
              · have t0 : t = 0 := x_eq (y := 0) rfl rfl (by omega) (by decide) z
                refine hK _ _ _ _ (?_)
                exact one 0 0 (by decide) rfl (if_neg (fun w => w.2.1 t0))
              · have t0 : ¬ t = 0 := fun e => z (by rw [e]; rfl)
                refine hK _ _ _ _ (hK _ _ _ _ (hK _ _ _ _ (hK _ _ _ _ (⟨_, r_isHole (d := d + 1) (rB_1 hB h1).2.2.2.2 hx hy, rfl, fun v77 M77 g77 => ?_⟩))))
                obtain ⟨g77, rfl⟩ := g77
                rcases g77 with ⟨hh, rfl⟩ | ⟨hh, rfl⟩
                · refine hK _ _ _ _ (⟨fun z => ?_, fun z => ?_⟩)
                  · refine hK _ _ _ _ (?_)
                    exact one 0 0 (by decide) rfl (if_neg (fun w => w.2.2 hh))
                  · exact absurd z (by decide)
                · refine hK _ _ _ _ (⟨fun z => ?_, fun z => ?_⟩)
                  · exact absurd rfl z
                  · refine hK _ _ _ _ (hK _ _ _ _ (?_))
                    exact one 1 1 (by decide) rfl (if_pos ⟨rfl, t0, hh⟩)
      refine hK _ _ _ _ (hK _ _ _ _ (?_))
      exact lt2 e.1.2 0 _ _ _ _ (by omega) h1 h2 h3
  -- the row is emptied
  have l0 : ∀ (m j : Nat) (M1 : aM), j + m = 80 → M1.1 = M.1 → FR 43 M1 F → (∀ i, i < j → M1.2 44 0 i = 0) → K 3 [some (vR 36 0), some (vI (Int32.ofNat x)), some (vI (Int32.ofNat y)), some (vI (i01 cb)), some (vI (Int32.ofNat j)), none, none, none, none] [] M1 := by
    intro m
    induction m with
    | zero =>
      intro j M1 hj h1 h2 h3
      refine hK _ _ _ _ (hK _ _ _ _ (hK _ _ _ _ (⟨fun q => ?_, fun q => ?_⟩)))
      · refine hK _ _ _ _ (hK _ _ _ _ (?_))
        exact la e.1.2 0 _ _ _ _ _ (by omega) h1 h2 (fun c i hc hi => h3 _ (by omega))
      · exact absurd (lt (b := 80) (by omega) (by decide) q) (by omega)
    | succ m ih =>
      intro j M1 hj h1 h2 h3
      refine hK _ _ _ _ (hK _ _ _ _ (hK _ _ _ _ (⟨fun q => ?_, fun q => ?_⟩)))
      · exact absurd (ge (b := 80) (by omega) (by decide) q) (by omega)
      · refine hK _ _ _ _ (hK _ _ _ _ (hK _ _ _ _ (hK _ _ _ _ (?_))))
        refine hK _ _ _ _ ⟨x_vp rfl (show j < 80 by omega) (by decide), ?_⟩
        rw [x_cl rfl (by omega)]
        refine hK _ _ _ _ (hK _ _ _ _ (?_))
        rw [hI_s]
        refine ih (j + 1) _ (by omega) h1 (FR_m h2 (fun i => x_Ln (fun z => absurd z.1 (by decide)))) (fun i hi => ?_)
        by_cases he : i = j
        · rw [he]
          exact x_Le
        · exact (x_Ln (fun z => he z.2.2)).trans (h3 i (by omega))
  refine hK _ _ _ _ (hK _ _ _ _ (?_))
  exact l0 80 0 M rfl rfl hf (fun i hi => absurd hi (Nat.not_lt_zero _))
/-- what is told by places 0 of a row: ways -/
theorem kup_0 {u : Nat} {fa : Nat → Int64} {m : Int64} {nx : Nat → Nat → Int64} {c : Nat} : ∀ k, kup 0 u fa m nx (k + 1) c 0 = if c = u then nx c 0 + fa 0 * m else nx c 0
  | 0 => by
    show (if c = u ∧ 0 = 0 + 0 then nx c 0 + fa 0 * m else nx c 0) = _
    by_cases h : c = u
    · rw [if_pos h, if_pos ⟨h, rfl⟩]
    · rw [if_neg h, if_neg (fun z => h z.1)]
  | k + 1 => by
    show (if c = u ∧ 0 = k + 1 + 0 then kup 0 u fa m nx (k + 1) c 0 + fa (k + 1) * m else kup 0 u fa m nx (k + 1) c 0) = _
    rw [if_neg (fun z => absurd z.2 (by omega)), kup_0 k]
theorem fsi_0 {k o a c : Nat} {w : Nat → Nat} {mm : Nat → Int64} {F nx : Nat → Nat → Int64} (hw : ∀ t, w t = 0) : ∀ n, fsi k o w mm F a nx n c 0 = cvi k o (fun a => F a 0) mm a (fun c => nx c 0) n c
  | 0 => rfl
  | n + 1 => by
    show kup (w n) (rt k o a n) (F a) (mm n) (fsi k o w mm F a nx n) (10 - w n) c 0 = if c = rt k o a n then cvi k o (fun a => F a 0) mm a (fun c => nx c 0) n c + F a 0 * mm n else cvi k o (fun a => F a 0) mm a (fun c => nx c 0) n c
    rw [hw n, kup_0 9, fsi_0 hw n]
theorem cvi_e {k o a : Nat} {f g nx nx2 : Nat → Int64} (h : ∀ c, nx c = nx2 c) : ∀ n c, cvi k o f g a nx n c = cvi k o f g a nx2 n c := fun n c => by rw [show nx = nx2 from funext h]
theorem fso_0 {k o c : Nat} {w : Nat → Nat} {mm : Nat → Int64} {F : Nat → Nat → Int64} (hw : ∀ t, w t = 0) : ∀ n c, fso k o w mm F n c 0 = cvo k o (fun a => F a 0) mm n c
  | 0, _ => rfl
  | n + 1, c => (fsi_0 hw o).trans (cvi_e (fun c => fso_0 (c := c) hw n c) o c)
theorem fsq_0 {e : xB} {x y : Nat} {F : Nat → Nat → Int64} (c : Nat) : fsq e x y false F c 0 = conv e.1.1 e.1.2 (fun a => F a 0) (fun t => (wi e (y * 4 + x) t).toInt64) c := by
  have h : sqm e x y false = fun t => (wi e (y * 4 + x) t).toInt64 := funext (fun t => if_neg (by decide))
  rw [← h]
  exact fso_0 (c := c) (fun t => if_neg (fun z => absurd z.1 (by decide))) e.1.2 c
def fx (e : xB) (cb : Bool) (F : Nat → Nat → Int64) (y : Nat) : Nat → Nat → Nat → Int64
  | 0 => F
  | x + 1 => fsq e x y cb (fx e cb F y x)
def fy (e : xB) (cb : Bool) : Nat → Nat → Nat → Int64
  | 0 => Fz0
  | y + 1 => fx e cb (fy e cb y) y e.2.1.1
theorem fx_0 {e : xB} {F : Nat → Nat → Int64} {y : Nat} : ∀ n, (fun c => fx e false F y n c 0) = wq e (fun c => F c 0) y n
  | 0 => rfl
  | n + 1 => by
    funext c
    show fsq e n y false (fx e false F y n) c 0 = conv e.1.1 e.1.2 (wq e (fun c => F c 0) y n) (fun t => (wi e (y * 4 + n) t).toInt64) c
    rw [fsq_0 c, fx_0 n]
theorem fy_0 {e : xB} : ∀ n, (fun c => fy e false n c 0) = wy e n
  | 0 => by
    funext c
    show (if c = 0 ∧ 0 = 0 then (1 : Int64) else 0) = if c = 0 then 1 else 0
    by_cases h : c = 0
    · rw [if_pos h, if_pos ⟨h, rfl⟩]
    · rw [if_neg h, if_neg (fun z => h z.1)]
  | n + 1 => by
    show (fun c => fx e false (fy e false n) n e.2.1.1 c 0) = wq e (wy e n) n e.2.1.1
    rw [fx_0, fy_0 n]
def bshf (e : xB) (t : Nat) : Int32 := if e.2.1.2.2 = 0 then 1 else if e.2.1.2.2 = 1 then Int32.ofNat e.1.2 else Int32.ofNat (cmo e.1.1 e.1.2 t e.1.2)
def bsh (e : xB) (j : Nat) (F : Nat → Nat → Int64) : Int64 := sl (fun t => F t j * (bshf e t).toInt64) e.1.2
theorem bsh_osh {e : xB} (s2 : e.2.1.2.2 ≤ 2) {F : Nat → Nat → Int64} : bsh e 0 F = osh e.1.1 e.1.2 e.2.1.2.2 (fun c => F c 0) := by
  unfold bsh osh
  by_cases h0 : e.2.1.2.2 = 0
  · rw [if_pos h0]
    refine sl_e _ (fun t _ => ?_)
    rw [show bshf e t = 1 from if_pos h0, show (1 : Int32).toInt64 = 1 from by decide, Int64.mul_one]
  · rw [if_neg h0]
    by_cases h2 : e.2.1.2.2 = 2
    · rw [if_pos h2]
      refine sl_e _ (fun t _ => ?_)
      rw [show bshf e t = Int32.ofNat (cmo e.1.1 e.1.2 t e.1.2) from (if_neg h0).trans (if_neg (by omega))]
    · rw [if_neg h2]
      refine sl_c (fun t => ?_) _
      rw [show bshf e t = Int32.ofNat e.1.2 from (if_neg h0).trans (if_pos (by omega)), Int64.mul_comm]
theorem r_byShape {nS d j : Nat} {M : aM} {e : xB} {F : Nat → Nat → Int64} (hB : rB 37 M e) (hj : j < 10) (hf : FR 43 M F) : aC nS (d + 5) 237 [vR 36 0, vI (Int32.ofNat j)] M (fun v M' => v = some (vL (bsh e j F)) ∧ M = M') (fun _ _ => False) := by
  obtain ⟨ho, o2, o8, hs, w1, w3, h1, h3, s2⟩ := rB_h hB
  have hg := rB_g hB
  refine aC_mk rfl rfl ?_
  intro K hK _
  have lp : ∀ (m t : Nat) (S : Int64) (z : Int32), e.1.2 - t = m → t ≤ e.1.2 → S = sl (fun t => F t j * (bshf e t).toInt64) t → z = Int32.ofNat t → K 5 [some (vR 36 0), some (vI (Int32.ofNat j)), some (vL S), none, some (vI z)] [] M := by
    intro m
    induction m with
    | zero =>
      intro t S z hm ht hS hz
      subst hS
      subst hz
      refine hK _ _ _ _ (hK _ _ _ _ (hK _ _ _ _ (hK _ _ _ _ (hK _ _ _ _ (⟨x_vp (a := 2) rfl (by decide) (by decide), ?_⟩)))))
      rw [x_cl (j := 2) (a := 2) rfl (by decide), ho]
      refine hK _ _ _ _ (⟨fun h => ?_, fun h => ?_⟩)
      · exact hK _ _ _ _ (hK _ _ _ _ (⟨by rw [show t = e.1.2 by omega]; rfl, rfl⟩))
      · exact absurd (x_nge (x := t) (y := e.1.2) rfl rfl (by omega) (by omega) h) (by omega)
    | succ m ih =>
      intro t S z hm ht hS hz
      subst hS
      subst hz
      have hto : t < e.1.2 := by omega
      have fin : ∀ u : Int32, u = bshf e t → K 67 [some (vR 36 0), some (vI (Int32.ofNat j)), some (vL (sl (fun t => F t j * (bshf e t).toInt64) t)), none, some (vI (Int32.ofNat t))] [vI u, vL (F t j), vL (sl (fun t => F t j * (bshf e t).toInt64) t)] M := by
        intro u hu
        subst hu
        refine hK _ _ _ _ (hK _ _ _ _ (hK _ _ _ _ (hK _ _ _ _ (hK _ _ _ _ (hK _ _ _ _ (?_))))))
        exact ih (t + 1) _ _ (by omega) (by omega) rfl hI_s
      have ej : (10 : Int32) * Int32.ofNat t + Int32.ofNat j = Int32.ofNat (t * 10 + j) := by
        rw [show (10 : Int32) * Int32.ofNat t = Int32.ofNat (10 * t) from x_mul (a := 10) (by decide) (by omega), hI_ad, Nat.mul_comm]
      refine hK _ _ _ _ (hK _ _ _ _ (hK _ _ _ _ (hK _ _ _ _ (hK _ _ _ _ (⟨x_vp (a := 2) rfl (by decide) (by decide), ?_⟩)))))
      rw [x_cl (j := 2) (a := 2) rfl (by decide), ho]
      refine hK _ _ _ _ (⟨fun h => ?_, fun h => ?_⟩)
      · exact absurd (x_ge (x := t) (y := e.1.2) rfl rfl (by omega) (by omega) h) (by omega)
      · refine hK _ _ _ _ (hK _ _ _ _ (hK _ _ _ _ (hK _ _ _ _ (hK _ _ _ _ (hK _ _ _ _ (hK _ _ _ _ (hK _ _ _ _ (hK _ _ _ _ (⟨x_vp ej (show t * 10 + j < 80 by omega) (by decide), ?_⟩)))))))))
        rw [x_cl ej (by omega), hf t j (by omega) hj]
        refine hK _ _ _ _ (hK _ _ _ _ (hK _ _ _ _ (hK _ _ _ _ (⟨x_vp (a := 5) rfl (by decide) (by decide), ?_⟩))))
        rw [x_cl (j := 5) (a := 5) rfl (by decide), hs.2.2]
        refine hK _ _ _ _ (⟨fun q => ?_, fun q => ?_⟩)
        · have s0 : ¬ e.2.1.2.2 = 0 := fun z => q (by rw [z]; rfl)
          refine hK _ _ _ _ (hK _ _ _ _ (hK _ _ _ _ (hK _ _ _ _ (⟨x_vp (a := 5) rfl (by decide) (by decide), ?_⟩))))
          rw [x_cl (j := 5) (a := 5) rfl (by decide), hs.2.2]
          refine hK _ _ _ _ (hK _ _ _ _ (⟨fun q => ?_, fun q => ?_⟩))
          · have s1 : ¬ e.2.1.2.2 = 1 := fun z => q (by rw [z]; rfl)
            refine hK _ _ _ _ (hK _ _ _ _ (hK _ _ _ _ (⟨_, r_commutators hg hto, rfl, fun v64 M64 g64 => ?_⟩)))
            obtain ⟨rfl, rfl⟩ := g64
            exact fin _ ((if_neg s0).trans (if_neg s1)).symm
          · have s1 : e.2.1.2.2 = 1 := x_eq (y := 1) rfl rfl (by omega) (by decide) q
            refine hK _ _ _ _ (hK _ _ _ _ (hK _ _ _ _ (hK _ _ _ _ (⟨x_vp (a := 2) rfl (by decide) (by decide), ?_⟩))))
            rw [x_cl (j := 2) (a := 2) rfl (by decide), ho]
            refine hK _ _ _ _ (?_)
            exact fin _ ((if_neg s0).trans (if_pos s1)).symm
        · have s0 : e.2.1.2.2 = 0 := x_eq (y := 0) rfl rfl (by omega) (by decide) q
          refine hK _ _ _ _ (hK _ _ _ _ (?_))
          exact fin _ (if_pos s0).symm
  refine hK _ _ _ _ (hK _ _ _ _ (hK _ _ _ _ (hK _ _ _ _ (?_))))
  exact lp _ 0 _ _ rfl (Nat.zero_le _) rfl rfl
theorem r_foldsAll {nS d : Nat} {M : aM} {e : xB} {cb : Bool} (hB : rB 37 M e) : aC nS (d + 4) 236 [vR 36 0, vI (i01 cb)] M (fun v M' => v = none ∧ M'.1 = M.1 ∧ FR 43 M' (fy e cb e.2.1.2.1)) (fun _ _ => False) := by
  obtain ⟨ho, o2, o8, hs, w1, w3, h1, h3, s2⟩ := rB_h hB
  refine aC_mk rfl rfl ?_
  intro K hK _
  have xl : ∀ (y : Nat), y < e.2.1.2.1 → (∀ (l3 : Option aV) (M1 : aM), M1.1 = M.1 → FR 43 M1 (fy e cb (y + 1)) → K 41 [some (vR 36 0), some (vI (i01 cb)), some (vI (Int32.ofNat y)), l3] [] M1) → ∀ (m x : Nat) (z : Int32) (M1 : aM), e.2.1.1 - x = m → x ≤ e.2.1.1 → z = Int32.ofNat x → M1.1 = M.1 → FR 43 M1 (fx e cb (fy e cb y) y x) → K 18 [some (vR 36 0), some (vI (i01 cb)), some (vI (Int32.ofNat y)), some (vI z)] [] M1 := by
    intro y hy out m
    induction m with
    | zero =>
      intro x z M1 hm hx hz e1 e2
      subst hz
      refine hK _ _ _ _ (hK _ _ _ _ (hK _ _ _ _ (hK _ _ _ _ (hK _ _ _ _ (⟨x_vp (a := 3) rfl (by decide) (by decide), ?_⟩)))))
      rw [x_cl (j := 3) (a := 3) rfl (by decide), e1, hs.1]
      refine hK _ _ _ _ (⟨fun h => ?_, fun h => ?_⟩)
      · refine out _ _ e1 ?_
        rw [show x = e.2.1.1 by omega] at e2
        exact e2
      · exact absurd (x_nge (x := x) (y := e.2.1.1) rfl rfl (by omega) (by omega) h) (by omega)
    | succ m ih =>
      intro x z M1 hm hx hz e1 e2
      subst hz
      refine hK _ _ _ _ (hK _ _ _ _ (hK _ _ _ _ (hK _ _ _ _ (hK _ _ _ _ (⟨x_vp (a := 3) rfl (by decide) (by decide), ?_⟩)))))
      rw [x_cl (j := 3) (a := 3) rfl (by decide), e1, hs.1]
      refine hK _ _ _ _ (⟨fun h => ?_, fun h => ?_⟩)
      · exact absurd (x_ge (x := x) (y := e.2.1.1) rfl rfl (by omega) (by omega) h) (by omega)
      · refine hK _ _ _ _ (hK _ _ _ _ (hK _ _ _ _ (hK _ _ _ _ (hK _ _ _ _ (⟨_, r_foldsSquare (x := x) (y := y) (rB_1 hB e1) (show x < 3 by omega) (show y < 3 by omega) e2, rfl, fun v32 M32 g32 => ?_⟩)))))
        obtain ⟨rfl, q1, q2⟩ := g32
        refine hK _ _ _ _ (hK _ _ _ _ (?_))
        exact ih (x + 1) _ _ (by omega) (by omega) hI_s (q1.trans e1) q2
  have yl : ∀ (m y : Nat) (z : Int32) (l3 : Option aV) (M1 : aM), e.2.1.2.1 - y = m → y ≤ e.2.1.2.1 → z = Int32.ofNat y → M1.1 = M.1 → FR 43 M1 (fy e cb y) → K 6 [some (vR 36 0), some (vI (i01 cb)), some (vI z), l3] [] M1 := by
    intro m
    induction m with
    | zero =>
      intro y z l3 M1 hm hy hz e1 e2
      subst hz
      refine hK _ _ _ _ (hK _ _ _ _ (hK _ _ _ _ (hK _ _ _ _ (hK _ _ _ _ (⟨x_vp (a := 4) rfl (by decide) (by decide), ?_⟩)))))
      rw [x_cl (j := 4) (a := 4) rfl (by decide), e1, hs.2.1]
      refine hK _ _ _ _ (⟨fun h => ?_, fun h => ?_⟩)
      · refine hK _ _ _ _ (⟨rfl, e1, ?_⟩)
        rw [show y = e.2.1.2.1 by omega] at e2
        exact e2
      · exact absurd (x_nge (x := y) (y := e.2.1.2.1) rfl rfl (by omega) (by omega) h) (by omega)
    | succ m ih =>
      intro y z l3 M1 hm hy hz e1 e2
      subst hz
      refine hK _ _ _ _ (hK _ _ _ _ (hK _ _ _ _ (hK _ _ _ _ (hK _ _ _ _ (⟨x_vp (a := 4) rfl (by decide) (by decide), ?_⟩)))))
      rw [x_cl (j := 4) (a := 4) rfl (by decide), e1, hs.2.1]
      refine hK _ _ _ _ (⟨fun h => ?_, fun h => ?_⟩)
      · exact absurd (x_ge (x := y) (y := e.2.1.2.1) rfl rfl (by omega) (by omega) h) (by omega)
      · refine hK _ _ _ _ (hK _ _ _ _ (?_))
        refine xl y (by omega) (fun l3 M2 e1 e2 => ?_) _ 0 _ _ rfl (Nat.zero_le _) rfl e1 e2
        refine hK _ _ _ _ (hK _ _ _ _ (?_))
        exact ih (y + 1) _ _ _ (by omega) (by omega) hI_s e1 e2
  refine hK _ _ _ _ (hK _ _ _ _ (⟨_, r_folds0, rfl, fun v1 M1 g1 => ?_⟩))
  obtain ⟨rfl, e1, e2⟩ := g1
  refine hK _ _ _ _ (hK _ _ _ _ (?_))
  exact yl _ 0 _ _ _ rfl (Nat.zero_le _) rfl e1 e2
theorem r_sumX {nS : Nat} {M : aM} {e : xB} (hB : rB 37 M e) : aC nS 60 238 [vR 36 0] M (fun v M' => v = some (vL (osh e.1.1 e.1.2 e.2.1.2.2 (wy e e.2.1.2.1)))) (fun _ _ => False) := by
  have hB2 := rB_p (x := 0) hB
  have s2 := (rB_h hB).2.2.2.2.2.2.2.2
  refine aC_mk rfl rfl ?_
  intro K hK _
  refine hK _ _ _ _ (hK _ _ _ _ (hK _ _ _ _ (hK _ _ _ _ (hK _ _ _ _ (hK _ _ _ _ (⟨_, r_foldsAll (d := 55) (cb := false) hB2, rfl, fun v7 M7 g7 => ?_⟩))))))
  obtain ⟨rfl, q1, q2⟩ := g7
  refine hK _ _ _ _ (hK _ _ _ _ (hK _ _ _ _ (⟨_, r_byShape (d := 54) (j := 0) (rB_1 hB2 q1) (by decide) q2, rfl, fun v12 M12 g12 => ?_⟩)))
  obtain ⟨rfl, rfl⟩ := g12
  rw [bsh_osh s2, fy_0]
  exact hK _ _ _ _ (rfl)
