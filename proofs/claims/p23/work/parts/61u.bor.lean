/-- places 0 of a row of sums -/
def FZ (q : Nat) (M : aM) (f : Nat → Int64) : Prop := ∀ c, c < 8 → M.2 q 0 (c * 10) = f c
theorem FZ_m {q : Nat} {M M1 : aM} {f : Nat → Int64} (h : FZ q M f) (h1 : ∀ j, M1.2 q 0 j = M.2 q 0 j) : FZ q M1 f := fun c hc => (h1 _).trans (h c hc)
def bdX (e : xB) (w : Nat) : Nat → Int64 := if w = 0 then bdW e else if w = 1 then bdC e else bdR e
theorem r_foldsPart {nS d w : Nat} {M : aM} {e : xB} {f : Nat → Int64} (hB : rB 37 M e) (hw : w ≤ 2) (hf : FZ 43 M f) : aC nS (d + 5) 250 [vR 36 0, vI (Int32.ofNat w)] M (fun v M' => v = none ∧ M'.1 = M.1 ∧ FZ 43 M' (conv e.1.1 e.1.2 f (bdX e w))) (fun _ _ => False) := by
  obtain ⟨ho, o2, o8, -⟩ := rB_h hB
  have hg := rB_g hB
  refine aC_mk rfl rfl ?_
  intro K hK _
  have od : ∀ {M1 : aM}, M1.1 = M.1 → M1.1 37 0 2 = Int32.ofNat e.1.2 := fun h => by rw [h]; exact ho
  have lt : ∀ {a b : Nat}, a < 1000 → b < 1000 → ¬ Int32.ofNat b ≤ Int32.ofNat a → a < b := fun ha hb h => x_nge rfl rfl (by omega) (by omega) h
  have ge : ∀ {a b : Nat}, a < 1000 → b < 1000 → Int32.ofNat b ≤ Int32.ofNat a → b ≤ a := fun ha hb h => x_ge rfl rfl (by omega) (by omega) h
  have l4 : ∀ (m j : Nat) (l3 : Option aV) (M1 : aM), j + m = 80 → M1.1 = M.1 → FZ 44 M1 (conv e.1.1 e.1.2 f (bdX e w)) → (∀ i, i < j → M1.2 43 0 i = M1.2 44 0 i) → K 121 [some (vR 36 0), some (vI (Int32.ofNat w)), some (vI (Int32.ofNat j)), l3] [] M1 := by
    intro m
    induction m with
    | zero =>
      intro j l3 M1 hj h1 h2 h3
      refine hK _ _ _ _ (hK _ _ _ _ (hK _ _ _ _ (⟨fun q => ?_, fun q => ?_⟩)))
      · exact hK _ _ _ _ (⟨rfl, h1, fun c hc => (h3 _ (by omega)).trans (h2 c hc)⟩)
      · exact absurd (lt (b := 80) (by omega) (by decide) q) (by omega)
    | succ m ih =>
      intro j l3 M1 hj h1 h2 h3
      refine hK _ _ _ _ (hK _ _ _ _ (hK _ _ _ _ (⟨fun q => ?_, fun q => ?_⟩)))
      · exact absurd (ge (b := 80) (by omega) (by decide) q) (by omega)
      · refine hK _ _ _ _ (hK _ _ _ _ (hK _ _ _ _ (hK _ _ _ _ (hK _ _ _ _ (hK _ _ _ _ (?_))))))
        refine hK _ _ _ _ ⟨x_vp rfl (show j < 80 by omega) (by decide), ?_⟩
        refine hK _ _ _ _ ⟨x_vp rfl (show j < 80 by omega) (by decide), ?_⟩
        rw [x_cl rfl (by omega)]
        refine hK _ _ _ _ (hK _ _ _ _ (?_))
        rw [hI_s]
        refine ih (j + 1) _ _ (by omega) h1 (FZ_m h2 (fun i => x_Ln (fun z => absurd z.1 (by decide)))) (fun i hi => ?_)
        have e4 : ∀ i, (a_pL M1 43 0 j (M1.2 44 0 j)).2 44 0 i = M1.2 44 0 i := fun i => x_Ln (fun z => absurd z.1 (by decide))
        rw [e4]
        by_cases he : i = j
        · rw [he]
          exact x_Le
        · exact (x_Ln (fun z => he z.2.2)).trans (h3 i (by omega))
  have la : ∀ (m a : Nat) (l3 : Option aV) (M1 : aM), a + m = e.1.2 → M1.1 = M.1 → FZ 43 M1 f → FZ 44 M1 (cvo e.1.1 e.1.2 f (bdX e w) a) → K 23 [some (vR 36 0), some (vI (Int32.ofNat w)), some (vI (Int32.ofNat a)), l3] [] M1 := by
    intro m
    induction m with
    | zero =>
      intro a l3 M1 ha h1 h2 h3
      refine hK _ _ _ _ (hK _ _ _ _ (hK _ _ _ _ (hK _ _ _ _ (hK _ _ _ _ (⟨x_vp (a := 2) rfl (by decide) (by decide), ?_⟩)))))
      rw [x_cl (j := 2) (a := 2) rfl (by decide), od h1]
      refine hK _ _ _ _ (⟨fun q => ?_, fun q => ?_⟩)
      · refine hK _ _ _ _ (hK _ _ _ _ (?_))
        rw [show a = e.1.2 by omega] at h3
        exact l4 80 0 _ _ rfl h1 h3 (fun i hi => absurd hi (Nat.not_lt_zero _))
      · exact absurd (lt (by omega) (by omega) q) (by omega)
    | succ m iha =>
      intro a l3 M1 ha h1 h2 h3
      have hao : a < e.1.2 := by omega
      refine hK _ _ _ _ (hK _ _ _ _ (hK _ _ _ _ (hK _ _ _ _ (hK _ _ _ _ (⟨x_vp (a := 2) rfl (by decide) (by decide), ?_⟩)))))
      rw [x_cl (j := 2) (a := 2) rfl (by decide), od h1]
      refine hK _ _ _ _ (⟨fun q => ?_, fun q => ?_⟩)
      · exact absurd (ge (by omega) (by omega) q) (by omega)
      clear q
      have lt2 : ∀ (m t : Nat) (M1 : aM), t + m = e.1.2 → M1.1 = M.1 → FZ 43 M1 f → FZ 44 M1 (cvi e.1.1 e.1.2 f (bdX e w) a (cvo e.1.1 e.1.2 f (bdX e w) a) t) → K 35 [some (vR 36 0), some (vI (Int32.ofNat w)), some (vI (Int32.ofNat a)), some (vI (Int32.ofNat t))] [] M1 := by
        intro m
        induction m with
        | zero =>
          intro t M1 ht h1 h2 h3
          refine hK _ _ _ _ (hK _ _ _ _ (hK _ _ _ _ (hK _ _ _ _ (hK _ _ _ _ (⟨x_vp (a := 2) rfl (by decide) (by decide), ?_⟩)))))
          rw [x_cl (j := 2) (a := 2) rfl (by decide), od h1]
          refine hK _ _ _ _ (⟨fun q => ?_, fun q => ?_⟩)
          · refine hK _ _ _ _ (hK _ _ _ _ (?_))
            rw [hI_s]
            rw [show t = e.1.2 by omega] at h3
            exact iha (a + 1) _ _ (by omega) h1 h2 h3
          · exact absurd (lt (by omega) (by omega) q) (by omega)
        | succ m iht =>
          intro t M1 ht h1 h2 h3
          have hto : t < e.1.2 := by omega
          have hg1 := gM_1 hg h1
          have hB1 := rB_1 hB h1
          refine hK _ _ _ _ (hK _ _ _ _ (hK _ _ _ _ (hK _ _ _ _ (hK _ _ _ _ (⟨x_vp (a := 2) rfl (by decide) (by decide), ?_⟩)))))
          rw [x_cl (j := 2) (a := 2) rfl (by decide), od h1]
          refine hK _ _ _ _ (⟨fun q => ?_, fun q => ?_⟩)
          · exact absurd (ge (by omega) (by omega) q) (by omega)
          clear q
          refine hK _ _ _ _ (hK _ _ _ _ (hK _ _ _ _ (hK _ _ _ _ (hK _ _ _ _ (hK _ _ _ _ (hK _ _ _ _ (⟨_, g_times hg1 hao hto, rfl, fun v54 M54 g54 => ?_⟩)))))))
          obtain ⟨rfl, rfl⟩ := g54
          have hu : rt e.1.1 e.1.2 a t < 8 := Nat.lt_of_lt_of_le (rt_lt hg.1 hao hto) o8
          obtain ⟨u, hru⟩ : ∃ u, u = rt e.1.1 e.1.2 a t := ⟨_, rfl⟩
          rw [← hru] at hu ⊢
          have e1 : (10 : Int32) * Int32.ofNat u = Int32.ofNat (u * 10) := by
            rw [show (10 : Int32) * Int32.ofNat u = Int32.ofNat (10 * u) from x_mul (a := 10) (by decide) (by omega), Nat.mul_comm]
          have e2 : (10 : Int32) * Int32.ofNat a = Int32.ofNat (a * 10) := by
            rw [show (10 : Int32) * Int32.ofNat a = Int32.ofNat (10 * a) from x_mul (a := 10) (by decide) (by omega), Nat.mul_comm]
          have hfa : M1.2 43 0 (a * 10) = f a := h2 a (by omega)
          have ad : ∀ (v : Int32), v.toInt64 = bdX e w t → K 103 [some (vR 36 0), some (vI (Int32.ofNat w)), some (vI (Int32.ofNat a)), some (vI (Int32.ofNat t))] [vI v, vL (M1.2 43 0 (a * 10)), vL (M1.2 44 0 (u * 10)), vI (Int32.ofNat (u * 10)), vR 44 0] M1 := by
            intro v hv
            refine hK _ _ _ _ (hK _ _ _ _ (hK _ _ _ _ (hK _ _ _ _ (⟨x_vp rfl (show u * 10 < 80 by omega) (by decide), ?_⟩))))
            rw [x_cl rfl (by omega)]
            refine hK _ _ _ _ (hK _ _ _ _ (?_))
            rw [hI_s]
            refine iht (t + 1) _ (by omega) h1 (FZ_m h2 (fun i => x_Ln (fun z => absurd z.1 (by decide)))) (fun c hc => ?_)
            have e9 : cvi e.1.1 e.1.2 f (bdX e w) a (cvo e.1.1 e.1.2 f (bdX e w) a) (t + 1) c = if c = rt e.1.1 e.1.2 a t then cvi e.1.1 e.1.2 f (bdX e w) a (cvo e.1.1 e.1.2 f (bdX e w) a) t c + f a * bdX e w t else cvi e.1.1 e.1.2 f (bdX e w) a (cvo e.1.1 e.1.2 f (bdX e w) a) t c := rfl
            rw [e9, ← hru]
            by_cases hz : c = u
            · rw [if_pos hz, hz, x_Le, hfa, hv, h3 u hu]
            · rw [if_neg hz]
              exact (x_Ln (fun z => hz (by omega))).trans (h3 c hc)
          refine hK _ _ _ _ (hK _ _ _ _ (hK _ _ _ _ (⟨x_vp e1 (show u * 10 < 80 by omega) (by decide), ?_⟩)))
          rw [x_cl e1 (by omega)]
          refine hK _ _ _ _ (hK _ _ _ _ (hK _ _ _ _ (hK _ _ _ _ (hK _ _ _ _ (hK _ _ _ _ (⟨x_vp e2 (show a * 10 < 80 by omega) (by decide), ?_⟩))))))
          rw [x_cl e2 (by omega), e1]
          refine hK _ _ _ _ (hK _ _ _ _ (⟨fun q => ?_, fun q => ?_⟩))
          · have w0 : ¬ w = 0 := fun z => q (by rw [z]; rfl)
            refine hK _ _ _ _ (hK _ _ _ _ (hK _ _ _ _ (⟨fun q => ?_, fun q => ?_⟩)))
            · have w1 : ¬ w = 1 := fun z => q (by rw [z]; rfl)
              refine hK _ _ _ _ (hK _ _ _ _ (hK _ _ _ _ (⟨_, r_roots hg1 hto, rfl, fun v100 M100 g100 => ?_⟩)))
              obtain ⟨rfl, rfl⟩ := g100
              exact ad _ (by rw [show bdX e w = bdR e from (if_neg w0).trans (if_neg w1)]; rfl)
            · have w1 : w = 1 := x_eq (y := 1) rfl rfl (by omega) (by decide) q
              refine hK _ _ _ _ (hK _ _ _ _ (hK _ _ _ _ (⟨_, r_commutators hg1 hto, rfl, fun v92 M92 g92 => ?_⟩)))
              obtain ⟨rfl, rfl⟩ := g92
              refine hK _ _ _ _ (?_)
              exact ad _ (by rw [show bdX e w = bdC e from (if_neg w0).trans (if_pos w1)]; rfl)
          · have w0 : w = 0 := x_eq (y := 0) rfl rfl (by omega) (by decide) q
            refine hK _ _ _ _ (hK _ _ _ _ (hK _ _ _ _ (hK _ _ _ _ (hK _ _ _ _ (hK _ _ _ _ (⟨x_vp (a := 10 + t) (hI_ad (a := 10)) (by omega) (by decide), ?_⟩))))))
            rw [x_cl (j := 10 + Int32.ofNat t) (a := 10 + t) (hI_ad (a := 10)) (by omega), hB1.2.2.2.1 t (by omega)]
            refine hK _ _ _ _ (?_)
            exact ad _ (by rw [show bdX e w = bdW e from if_pos w0]; rfl)
      refine hK _ _ _ _ (hK _ _ _ _ (?_))
      exact lt2 e.1.2 0 _ (by omega) h1 h2 h3
  have l0 : ∀ (m j : Nat) (M1 : aM), j + m = 80 → M1.1 = M.1 → FZ 43 M1 f → (∀ i, i < j → M1.2 44 0 i = 0) → K 2 [some (vR 36 0), some (vI (Int32.ofNat w)), some (vI (Int32.ofNat j)), none] [] M1 := by
    intro m
    induction m with
    | zero =>
      intro j M1 hj h1 h2 h3
      refine hK _ _ _ _ (hK _ _ _ _ (hK _ _ _ _ (⟨fun q => ?_, fun q => ?_⟩)))
      · refine hK _ _ _ _ (hK _ _ _ _ (?_))
        exact la e.1.2 0 _ _ (by omega) h1 h2 (fun c hc => h3 _ (by omega))
      · exact absurd (lt (b := 80) (by omega) (by decide) q) (by omega)
    | succ m ih =>
      intro j M1 hj h1 h2 h3
      refine hK _ _ _ _ (hK _ _ _ _ (hK _ _ _ _ (⟨fun q => ?_, fun q => ?_⟩)))
      · exact absurd (ge (b := 80) (by omega) (by decide) q) (by omega)
      · refine hK _ _ _ _ (hK _ _ _ _ (hK _ _ _ _ (hK _ _ _ _ (?_))))
        refine hK _ _ _ _ ⟨x_vp rfl (show j < 80 by omega) (by decide), ?_⟩
        rw [x_cl rfl (by omega)]
        refine hK _ _ _ _ (hK _ _ _ _ (?_))
        rw [hI_s]
        refine ih (j + 1) _ (by omega) h1 (FZ_m h2 (fun i => x_Ln (fun z => absurd z.1 (by decide)))) (fun i hi => ?_)
        by_cases he : i = j
        · rw [he]
          exact x_Le
        · exact (x_Ln (fun z => he z.2.2)).trans (h3 i (by omega))
  refine hK _ _ _ _ (hK _ _ _ _ (?_))
  exact l0 80 0 M rfl rfl hf (fun i hi => absurd hi (Nat.not_lt_zero _))
