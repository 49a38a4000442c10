theorem gM_p {M : aM} {k o : Nat} {x : Int32} (h : gM M k o) : gM (a_pI M 36 0 0 x) k o := ⟨h.1, (x_pn (fun z => absurd z.1 (by decide))).trans h.2.1, (x_pn (fun z => absurd z.1 (by decide))).trans h.2.2⟩
theorem rB_p {M : aM} {e : xB} {x : Int32} (h : rB 37 M e) : rB 37 (a_pI M 36 0 0 x) e := rB_fr h (fun j _ _ _ _ => x_pn (fun z => absurd z.1 (by decide)))
theorem rB_g {M : aM} {e : xB} (h : rB 37 M e) : gM M e.1.1 e.1.2 := ⟨h.1, h.2.2.1.1, h.2.2.1.2.1⟩
/-- what turn answers -/
def tv (k o : Nat) (W : Nat → Int32) (t : Nat) : Nat → Int32
  | 0 => Int32.ofNat (ag k o t)
  | 1 => Int32.ofNat (kn k o t)
  | 2 => Int32.ofNat (ksf k o (kn k o t) o)
  | 3 => Int32.ofNat (trf k o t 7 t 1)
  | 4 => Int32.ofNat (cmo k o t o)
  | 5 => Int32.ofNat (rso k o t o)
  | _ => W t
def okW (a : Int32) : Prop := ∃ q, q ≤ 6 ∧ a = Int32.ofNat q
theorem x_7 {q : Nat} (h : q ≤ 6) : q = 0 ∨ q = 1 ∨ q = 2 ∨ q = 3 ∨ q = 4 ∨ q = 5 ∨ q = 6 := by omega
theorem c_byX {nS : Nat} {M : aM} {a1 a2 : Int32} {e : xB} (hB : cB 0 M e) : aC nS 60 154 [vR 0 0, vI a1, vI a2] M (fun v M' => (∃ a b, a < e.1.2 ∧ b < e.1.2 ∧ a1 = Int32.ofNat a ∧ a2 = Int32.ofNat b ∧ v = some (vI (Int32.ofNat (rt e.1.1 e.1.2 a b)))) ∧ M = M') (fun q M' => q = 2 ∧ ¬ (okT e.1.2 a1 ∧ okT e.1.2 a2) ∧ M' = M) := by
  obtain ⟨ho, o2, o8, -⟩ := cB_h hB
  have hF := hB.1
  refine aC_mk rfl rfl ?_
  intro K hK _
  have t1 : ¬ (okT e.1.2 a1 ∧ okT e.1.2 a2) → K 24 [some (vR 0 0), some (vI a1), some (vI a2), some (vR 5 0)] [] M := fun no => hK _ _ _ _ (⟨rfl, rfl, no, rfl⟩)
  refine hK _ _ _ _ (hK _ _ _ _ (hK _ _ _ _ (⟨_, b_group, rfl, fun v4 M4 g4 => ?_⟩)))
  obtain ⟨rfl, rfl⟩ := g4
  refine hK _ _ _ _ (hK _ _ _ _ (hK _ _ _ _ (hK _ _ _ _ (⟨_, b_has (d := 58) ho o8, rfl, fun v10 M10 g10 => ?_⟩))))
  obtain ⟨g10, rfl⟩ := g10
  rcases g10 with ⟨k1, rfl⟩ | ⟨k1, rfl⟩
  · refine hK _ _ _ _ (⟨fun q => ?_, fun q => ?_⟩)
    · exact absurd q (by decide)
    · refine hK _ _ _ _ (hK _ _ _ _ (hK _ _ _ _ (⟨_, b_has (d := 58) ho o8, rfl, fun v18 M18 g18 => ?_⟩)))
      obtain ⟨g18, rfl⟩ := g18
      rcases g18 with ⟨k2, rfl⟩ | ⟨k2, rfl⟩
      · refine hK _ _ _ _ (⟨fun q => ?_, fun q => ?_⟩)
        · obtain ⟨a, ha, rfl⟩ := k1
          obtain ⟨b, hb, rfl⟩ := k2
          refine hK _ _ _ _ (hK _ _ _ _ (hK _ _ _ _ (hK _ _ _ _ (⟨_, g_ctimes (d := 58) hF.1.1 hF.2.1 rfl rfl ha hb, rfl, fun v37 M37 g37 => ?_⟩))))
          obtain ⟨rfl, rfl⟩ := g37
          exact hK _ _ _ _ (⟨⟨a, b, ha, hb, rfl, rfl, rfl⟩, rfl⟩)
        · exact absurd q (by decide)
      · refine hK _ _ _ _ (⟨fun q => ?_, fun q => ?_⟩)
        · exact absurd rfl q
        · exact t1 (fun z => k2 z.2)
  · refine hK _ _ _ _ (⟨fun q => ?_, fun q => ?_⟩)
    · exact t1 (fun z => k1 z.1)
    · exact absurd rfl q
theorem c_turnX {nS : Nat} {M : aM} {a1 a2 : Int32} {e : xB} (hB : cB 0 M e) : aC nS 60 155 [vR 0 0, vI a1, vI a2] M (fun v M' => (∃ a q, a < e.1.2 ∧ q ≤ 6 ∧ a1 = Int32.ofNat a ∧ a2 = Int32.ofNat q ∧ v = some (vI (tv e.1.1 e.1.2 e.2.2.1 a q))) ∧ M = M') (fun x M' => ((x = 2 ∧ ¬ okT e.1.2 a1) ∨ (x = 3 ∧ okT e.1.2 a1 ∧ ¬ okW a2)) ∧ M' = M) := by
  obtain ⟨ho, o2, o8, -⟩ := cB_h hB
  have hF := hB.1
  refine aC_mk rfl rfl ?_
  intro K hK _
  refine hK _ _ _ _ (hK _ _ _ _ (hK _ _ _ _ (⟨_, b_group, rfl, fun v4 M4 g4 => ?_⟩)))
  obtain ⟨rfl, rfl⟩ := g4
  refine hK _ _ _ _ (hK _ _ _ _ (hK _ _ _ _ (hK _ _ _ _ (⟨_, b_has (d := 58) ho o8, rfl, fun v10 M10 g10 => ?_⟩))))
  obtain ⟨g10, rfl⟩ := g10
  rcases g10 with ⟨k1, rfl⟩ | ⟨k1, rfl⟩
  · refine hK _ _ _ _ (⟨fun q => ?_, fun q => ?_⟩)
    · obtain ⟨a, ha, rfl⟩ := k1
      refine hK _ _ _ _ (hK _ _ _ _ (⟨⟨fun q => ?_, fun q => ?_, fun q => ?_, fun q => ?_, fun q => ?_, fun q => ?_, fun q => ?_, trivial⟩, fun q => ?_⟩))
      · subst q
        refine hK _ _ _ _ (hK _ _ _ _ (hK _ _ _ _ (⟨_, g_cagainst (d := 58) hF.1.1 hF.2.1 rfl ha, rfl, fun v70 M70 g70 => ?_⟩)))
        obtain ⟨rfl, rfl⟩ := g70
        exact hK _ _ _ _ (⟨⟨a, 0, ha, by decide, rfl, rfl, rfl⟩, rfl⟩)
      · subst q
        refine hK _ _ _ _ (hK _ _ _ _ (hK _ _ _ _ (⟨_, b_kinOf (d := 57) hF rfl ha, rfl, fun v76 M76 g76 => ?_⟩)))
        obtain ⟨rfl, rfl⟩ := g76
        exact hK _ _ _ _ (⟨⟨a, 1, ha, by decide, rfl, rfl, rfl⟩, rfl⟩)
      · subst q
        refine hK _ _ _ _ (hK _ _ _ _ (hK _ _ _ _ (⟨_, b_kinSize (d := 56) hF rfl ha, rfl, fun v82 M82 g82 => ?_⟩)))
        obtain ⟨rfl, rfl⟩ := g82
        exact hK _ _ _ _ (⟨⟨a, 2, ha, by decide, rfl, rfl, rfl⟩, rfl⟩)
      · subst q
        refine hK _ _ _ _ (hK _ _ _ _ (hK _ _ _ _ (⟨_, b_timesToRest (d := 57) hF rfl ha, rfl, fun v88 M88 g88 => ?_⟩)))
        obtain ⟨rfl, rfl⟩ := g88
        exact hK _ _ _ _ (⟨⟨a, 3, ha, by decide, rfl, rfl, rfl⟩, rfl⟩)
      · subst q
        refine hK _ _ _ _ (hK _ _ _ _ (hK _ _ _ _ (⟨_, b_commutators (d := 57) hF rfl (by omega), rfl, fun v94 M94 g94 => ?_⟩)))
        obtain ⟨rfl, rfl⟩ := g94
        exact hK _ _ _ _ (⟨⟨a, 4, ha, by decide, rfl, rfl, rfl⟩, rfl⟩)
      · subst q
        refine hK _ _ _ _ (hK _ _ _ _ (hK _ _ _ _ (⟨_, b_roots (d := 57) hF rfl (by omega), rfl, fun v100 M100 g100 => ?_⟩)))
        obtain ⟨rfl, rfl⟩ := g100
        exact hK _ _ _ _ (⟨⟨a, 5, ha, by decide, rfl, rfl, rfl⟩, rfl⟩)
      · subst q
        refine hK _ _ _ _ (hK _ _ _ _ (hK _ _ _ _ (hK _ _ _ _ (⟨_, b_weight (d := 57) (show a < 8 by omega), rfl, fun v109 M109 g109 => ?_⟩))))
        obtain ⟨rfl, rfl⟩ := g109
        rw [hB.2.2.2.1 a (by omega)]
        exact hK _ _ _ _ (⟨⟨a, 6, ha, by decide, rfl, rfl, rfl⟩, rfl⟩)
      · exact hK _ _ _ _ (⟨rfl, Or.inr ⟨rfl, ⟨a, ha, rfl⟩, fun z => by
        obtain ⟨u, hu, e9⟩ := z
        exact q u (show u < 7 by omega) e9⟩, rfl⟩)
    · exact absurd q (by decide)
  · refine hK _ _ _ _ (⟨fun q => ?_, fun q => ?_⟩)
    · exact absurd rfl q
    · exact hK _ _ _ _ (⟨rfl, Or.inl ⟨rfl, k1⟩, rfl⟩)
theorem r_byX {nS : Nat} {M : aM} {a1 a2 : Int32} {e : xB} (hB : rB 37 M e) : aC nS 60 213 [vR 36 0, vI a1, vI a2] M (fun v M' => (¬ (okT e.1.2 a1 ∧ okT e.1.2 a2) ∧ v = some (vI 0) ∧ M' = a_pI M 36 0 0 1) ∨ (∃ a b, a < e.1.2 ∧ b < e.1.2 ∧ a1 = Int32.ofNat a ∧ a2 = Int32.ofNat b ∧ v = some (vI (Int32.ofNat (rt e.1.1 e.1.2 a b))) ∧ M' = a_pI M 36 0 0 0)) (fun _ _ => False) := by
  obtain ⟨ho, o2, o8, -⟩ := rB_h hB
  have hg := gM_p (x := 0) (rB_g hB)
  refine aC_mk rfl rfl ?_
  intro K hK _
  have t1 : ¬ (okT e.1.2 a1 ∧ okT e.1.2 a2) → K 17 [some (vR 36 0), some (vI a1), some (vI a2)] [vR 36 0] M := by
    intro no
    refine hK _ _ _ _ (hK _ _ _ _ (hK _ _ _ _ (hK _ _ _ _ (hK _ _ _ _ (hK _ _ _ _ (⟨fun h => ?_, fun h => ?_⟩))))))
    · exact absurd h (by first | (rw [x_pe]; decide) | rw [x_pe])
    · exact hK _ _ _ _ (hK _ _ _ _ (Or.inl ⟨no, rfl, rfl⟩))
  refine hK _ _ _ _ (hK _ _ _ _ (hK _ _ _ _ (hK _ _ _ _ (⟨_, r_isTurn (d := 57) ho o2 o8, rfl, fun v3 M3 g3 => ?_⟩))))
  obtain ⟨g3, rfl⟩ := g3
  rcases g3 with ⟨k1, rfl⟩ | ⟨k1, rfl⟩
  · refine hK _ _ _ _ (⟨fun q => ?_, fun q => ?_⟩)
    · exact absurd q (by decide)
    · refine hK _ _ _ _ (hK _ _ _ _ (hK _ _ _ _ (⟨_, r_isTurn (d := 57) ho o2 o8, rfl, fun v11 M11 g11 => ?_⟩)))
      obtain ⟨g11, rfl⟩ := g11
      rcases g11 with ⟨k2, rfl⟩ | ⟨k2, rfl⟩
      · refine hK _ _ _ _ (⟨fun q => ?_, fun q => ?_⟩)
        · obtain ⟨a, ha, rfl⟩ := k1
          obtain ⟨b, hb, rfl⟩ := k2
          refine hK _ _ _ _ (hK _ _ _ _ (hK _ _ _ _ (hK _ _ _ _ (hK _ _ _ _ (⟨fun h => ?_, fun h => ?_⟩)))))
          · refine hK _ _ _ _ (hK _ _ _ _ (hK _ _ _ _ (hK _ _ _ _ (⟨_, g_times (d := 58) hg ha hb, rfl, fun v37 M37 g37 => ?_⟩))))
            obtain ⟨rfl, rfl⟩ := g37
            exact hK _ _ _ _ (Or.inr ⟨a, b, ha, hb, rfl, rfl, rfl, rfl⟩)
          · exact absurd (by first | (rw [x_pe]; decide) | rw [x_pe]) h
        · exact absurd q (by decide)
      · refine hK _ _ _ _ (⟨fun q => ?_, fun q => ?_⟩)
        · exact absurd rfl q
        · exact t1 (fun z => k2 z.2)
  · refine hK _ _ _ _ (⟨fun q => ?_, fun q => ?_⟩)
    · exact t1 (fun z => k1 z.1)
    · exact absurd rfl q
theorem r_turnX {nS : Nat} {M : aM} {a1 a2 : Int32} {e : xB} (hB : rB 37 M e) : aC nS 60 214 [vR 36 0, vI a1, vI a2] M (fun v M' => (¬ okT e.1.2 a1 ∧ v = some (vI 0) ∧ M' = a_pI M 36 0 0 1) ∨ (okT e.1.2 a1 ∧ ¬ okW a2 ∧ v = some (vI 0) ∧ M' = a_pI M 36 0 0 2) ∨ (∃ a q, a < e.1.2 ∧ q ≤ 6 ∧ a1 = Int32.ofNat a ∧ a2 = Int32.ofNat q ∧ v = some (vI (tv e.1.1 e.1.2 e.2.2.1 a q)) ∧ M' = a_pI M 36 0 0 0)) (fun _ _ => False) := by
  obtain ⟨ho, o2, o8, -⟩ := rB_h hB
  have hg := gM_p (x := 0) (rB_g hB)
  have hw : ∀ t, t < 8 → (a_pI M 36 0 0 0).1 37 0 (10 + t) = e.2.2.1 t := (rB_p hB).2.2.2.1
  refine aC_mk rfl rfl ?_
  intro K hK _
  refine hK _ _ _ _ (hK _ _ _ _ (hK _ _ _ _ (hK _ _ _ _ (⟨_, r_isTurn (d := 57) ho o2 o8, rfl, fun v3 M3 g3 => ?_⟩))))
  obtain ⟨g3, rfl⟩ := g3
  rcases g3 with ⟨k1, rfl⟩ | ⟨k1, rfl⟩
  · obtain ⟨a, ha, rfl⟩ := k1
    refine hK _ _ _ _ (⟨fun q => ?_, fun q => ?_⟩)
    · refine hK _ _ _ _ (hK _ _ _ _ (hK _ _ _ _ (hK _ _ _ _ (⟨_, t_isIn (d := 58), rfl, fun v17 M17 g17 => ?_⟩))))
      obtain ⟨rfl, rfl⟩ := g17
      by_cases hq : 0 ≤ a2 ∧ a2 ≤ 6
      · rw [if_pos hq]
        obtain ⟨q0, hq0, e0⟩ := hI_of hq.1
        have q6 : q0 ≤ 6 := by
          have h2 := hq.2
          rw [e0] at h2
          exact (hI_le (b := 6) (by omega) (by decide)).mp h2
        subst e0
        refine hK _ _ _ _ (⟨fun q => ?_, fun q => ?_⟩)
        · refine hK _ _ _ _ (hK _ _ _ _ (hK _ _ _ _ (hK _ _ _ _ (hK _ _ _ _ (⟨fun h => ?_, fun h => ?_⟩)))))
          · have l2 : q0 = 2 → ∀ (m b : Nat) (x y : Int32), e.1.2 - b = m → b ≤ e.1.2 → x = Int32.ofNat (cnt (fun b => isk e.1.1 e.1.2 a b e.1.2) b) → y = Int32.ofNat b → K 118 [some (vR 36 0), some (vI (Int32.ofNat a)), some (vI (Int32.ofNat 2)), some (vI x), some (vI y)] [] (a_pI M 36 0 0 0) := by
              intro e2 m
              induction m with
              | zero =>
                intro b x y hm hb hx hy
                subst hx
                subst hy
                refine hK _ _ _ _ (hK _ _ _ _ (hK _ _ _ _ (hK _ _ _ _ (hK _ _ _ _ (⟨x_vp (a := 2) rfl (by decide) (by decide), ?_⟩)))))
                rw [x_cl (j := 2) (a := 2) rfl (by decide), hg.2.2]
                refine hK _ _ _ _ (⟨fun h => ?_, fun h => ?_⟩)
                · exact hK _ _ _ _ (hK _ _ _ _ (hK _ _ _ _ (Or.inr (Or.inr ⟨a, 2, ha, by decide, rfl, by rw [e2], by rw [show b = e.1.2 by omega, rks_ksf hg.1 ha]; rfl, rfl⟩))))
                · exact absurd (x_nge (x := b) (y := e.1.2) rfl rfl (by omega) (by omega) h) (by omega)
              | succ m ih =>
                intro b x y hm hb hx hy
                subst hx
                subst hy
                have hbo : b < e.1.2 := by omega
                refine hK _ _ _ _ (hK _ _ _ _ (hK _ _ _ _ (hK _ _ _ _ (hK _ _ _ _ (⟨x_vp (a := 2) rfl (by decide) (by decide), ?_⟩)))))
                rw [x_cl (j := 2) (a := 2) rfl (by decide), hg.2.2]
                refine hK _ _ _ _ (⟨fun h => ?_, fun h => ?_⟩)
                · exact absurd (x_ge (x := b) (y := e.1.2) rfl rfl (by omega) (by omega) h) (by omega)
                · refine hK _ _ _ _ (hK _ _ _ _ (hK _ _ _ _ (hK _ _ _ _ (hK _ _ _ _ (⟨_, r_isKin (d := 56) hg ha hbo, rfl, fun v134 M134 g134 => ?_⟩)))))
                  obtain ⟨rfl, rfl⟩ := g134
                  cases hi : isk e.1.1 e.1.2 a b e.1.2 with
                  | true =>
                    refine hK _ _ _ _ (⟨fun q => ?_, fun q => ?_⟩)
                    · exact absurd q (by decide)
                    · refine hK _ _ _ _ (hK _ _ _ _ (hK _ _ _ _ (hK _ _ _ _ (hK _ _ _ _ (hK _ _ _ _ (?_))))))
                      exact ih (b + 1) _ _ (by omega) (by omega) (cnt_t hi) hI_s
                  | false =>
                    refine hK _ _ _ _ (⟨fun q => ?_, fun q => ?_⟩)
                    · refine hK _ _ _ _ (hK _ _ _ _ (hK _ _ _ _ (hK _ _ _ _ (hK _ _ _ _ (?_)))))
                      exact ih (b + 1) _ _ (by omega) (by omega) (cnt_f hi) hI_s
                    · exact absurd rfl q
            have l3 : q0 = 3 → ∀ (f r n : Nat) (x y : Int32), trz e.1.1 e.1.2 a f r = true → r < e.1.2 → trf e.1.1 e.1.2 a f r n = trf e.1.1 e.1.2 a 7 a 1 → x = Int32.ofNat n → y = Int32.ofNat r → K 159 [some (vR 36 0), some (vI (Int32.ofNat a)), some (vI (Int32.ofNat 3)), some (vI x), some (vI y)] [] (a_pI M 36 0 0 0) := by
              intro e2 f
              induction f with
              | zero =>
                intro r n x y hz hr he hx hy
                subst hx
                subst hy
                refine hK _ _ _ _ (hK _ _ _ _ (⟨fun q => ?_, fun q => ?_⟩))
                · exact hK _ _ _ _ (hK _ _ _ _ (Or.inr (Or.inr ⟨a, 3, ha, by decide, rfl, by rw [e2], by rw [show tv e.1.1 e.1.2 e.2.2.1 a 3 = Int32.ofNat (trf e.1.1 e.1.2 a 7 a 1) from rfl, ← he]; rfl, rfl⟩)))
                · exact absurd (show Int32.ofNat r = 0 by rw [Nat.eq_of_beq_eq_true hz]; rfl) q
              | succ f ih =>
                intro r n x y hz hr he hx hy
                subst hx
                subst hy
                have e1 : trf e.1.1 e.1.2 a (f + 1) r n = bif Nat.beq r 0 then n else trf e.1.1 e.1.2 a f (rt e.1.1 e.1.2 r a) (n + 1) := rfl
                refine hK _ _ _ _ (hK _ _ _ _ (⟨fun q => ?_, fun q => ?_⟩))
                · have r0 : r = 0 := x_eq (y := 0) rfl rfl (by omega) (by decide) q
                  rw [x_beq r0, cond_true] at e1
                  exact hK _ _ _ _ (hK _ _ _ _ (Or.inr (Or.inr ⟨a, 3, ha, by decide, rfl, by rw [e2], by rw [show tv e.1.1 e.1.2 e.2.2.1 a 3 = Int32.ofNat (trf e.1.1 e.1.2 a 7 a 1) from rfl, ← he, e1], rfl⟩)))
                · have r0 : ¬ r = 0 := fun z => q (by rw [z]; rfl)
                  rw [x_nbq r0, cond_false] at e1
                  have hz : (Nat.beq r 0 || trz e.1.1 e.1.2 a f (rt e.1.1 e.1.2 r a)) = true := hz
                  rw [x_nbq r0, Bool.false_or] at hz
                  refine hK _ _ _ _ (hK _ _ _ _ (hK _ _ _ _ (hK _ _ _ _ (hK _ _ _ _ (⟨_, g_times (d := 58) hg hr ha, rfl, fun v171 M171 g171 => ?_⟩)))))
                  obtain ⟨rfl, rfl⟩ := g171
                  refine hK _ _ _ _ (hK _ _ _ _ (?_))
                  exact ih _ (n + 1) _ _ hz (rt_lt hg.1 hr ha) (e1.symm.trans he) hI_s rfl
            rcases x_7 q6 with rfl | rfl | rfl | rfl | rfl | rfl | rfl
            · refine hK _ _ _ _ (hK _ _ _ _ (⟨fun h => absurd (by decide) h, fun _ => ?_⟩))
              refine hK _ _ _ _ (hK _ _ _ _ (hK _ _ _ _ (⟨_, g_against (d := 57) hg ha, rfl, fun v46 M46 g46 => ?_⟩)))
              obtain ⟨rfl, rfl⟩ := g46
              exact hK _ _ _ _ (Or.inr (Or.inr ⟨a, 0, ha, by decide, rfl, rfl, rfl, rfl⟩))
            · refine hK _ _ _ _ (hK _ _ _ _ (⟨fun _ => ?_, fun h => absurd h (by decide)⟩))
              refine hK _ _ _ _ (hK _ _ _ _ (hK _ _ _ _ (⟨fun h => absurd (by decide) h, fun _ => ?_⟩)))
              refine hK _ _ _ _ (hK _ _ _ _ (hK _ _ _ _ (⟨_, r_kinOf (d := 54) hg ha, rfl, fun v57 M57 g57 => ?_⟩)))
              obtain ⟨rfl, rfl⟩ := g57
              exact hK _ _ _ _ (Or.inr (Or.inr ⟨a, 1, ha, by decide, rfl, rfl, rfl, rfl⟩))
            · refine hK _ _ _ _ (hK _ _ _ _ (⟨fun _ => ?_, fun h => absurd h (by decide)⟩))
              refine hK _ _ _ _ (hK _ _ _ _ (hK _ _ _ _ (⟨fun _ => ?_, fun h => absurd h (by decide)⟩)))
              refine hK _ _ _ _ (hK _ _ _ _ (hK _ _ _ _ (⟨fun _ => ?_, fun h => absurd h (by decide)⟩)))
              refine hK _ _ _ _ (hK _ _ _ _ (hK _ _ _ _ (⟨fun _ => ?_, fun h => absurd h (by decide)⟩)))
              refine hK _ _ _ _ (hK _ _ _ _ (hK _ _ _ _ (⟨fun _ => ?_, fun h => absurd h (by decide)⟩)))
              refine hK _ _ _ _ (hK _ _ _ _ (hK _ _ _ _ (⟨fun _ => ?_, fun h => absurd h (by decide)⟩)))
              refine hK _ _ _ _ (hK _ _ _ _ (?_))
              refine hK _ _ _ _ (hK _ _ _ _ (hK _ _ _ _ (⟨fun h => absurd (by decide) h, fun _ => ?_⟩)))
              refine hK _ _ _ _ (hK _ _ _ _ (?_))
              exact l2 rfl _ 0 _ _ rfl (Nat.zero_le _) rfl rfl
            · refine hK _ _ _ _ (hK _ _ _ _ (⟨fun _ => ?_, fun h => absurd h (by decide)⟩))
              refine hK _ _ _ _ (hK _ _ _ _ (hK _ _ _ _ (⟨fun _ => ?_, fun h => absurd h (by decide)⟩)))
              refine hK _ _ _ _ (hK _ _ _ _ (hK _ _ _ _ (⟨fun _ => ?_, fun h => absurd h (by decide)⟩)))
              refine hK _ _ _ _ (hK _ _ _ _ (hK _ _ _ _ (⟨fun _ => ?_, fun h => absurd h (by decide)⟩)))
              refine hK _ _ _ _ (hK _ _ _ _ (hK _ _ _ _ (⟨fun _ => ?_, fun h => absurd h (by decide)⟩)))
              refine hK _ _ _ _ (hK _ _ _ _ (hK _ _ _ _ (⟨fun h => absurd (by decide) h, fun _ => ?_⟩)))
              refine hK _ _ _ _ (hK _ _ _ _ (hK _ _ _ _ (?_)))
              refine hK _ _ _ _ (hK _ _ _ _ (hK _ _ _ _ (⟨fun _ => ?_, fun h => absurd h (by decide)⟩)))
              refine hK _ _ _ _ (hK _ _ _ _ (?_))
              exact l3 rfl 7 a 1 _ _ (trz_ok hg.1 ha) ha rfl rfl rfl
            · refine hK _ _ _ _ (hK _ _ _ _ (⟨fun _ => ?_, fun h => absurd h (by decide)⟩))
              refine hK _ _ _ _ (hK _ _ _ _ (hK _ _ _ _ (⟨fun _ => ?_, fun h => absurd h (by decide)⟩)))
              refine hK _ _ _ _ (hK _ _ _ _ (hK _ _ _ _ (⟨fun h => absurd (by decide) h, fun _ => ?_⟩)))
              refine hK _ _ _ _ (hK _ _ _ _ (hK _ _ _ _ (⟨_, r_commutators (d := 55) hg ha, rfl, fun v68 M68 g68 => ?_⟩)))
              obtain ⟨rfl, rfl⟩ := g68
              exact hK _ _ _ _ (Or.inr (Or.inr ⟨a, 4, ha, by decide, rfl, rfl, rfl, rfl⟩))
            · refine hK _ _ _ _ (hK _ _ _ _ (⟨fun _ => ?_, fun h => absurd h (by decide)⟩))
              refine hK _ _ _ _ (hK _ _ _ _ (hK _ _ _ _ (⟨fun _ => ?_, fun h => absurd h (by decide)⟩)))
              refine hK _ _ _ _ (hK _ _ _ _ (hK _ _ _ _ (⟨fun _ => ?_, fun h => absurd h (by decide)⟩)))
              refine hK _ _ _ _ (hK _ _ _ _ (hK _ _ _ _ (⟨fun h => absurd (by decide) h, fun _ => ?_⟩)))
              refine hK _ _ _ _ (hK _ _ _ _ (hK _ _ _ _ (⟨_, r_roots (d := 57) hg ha, rfl, fun v79 M79 g79 => ?_⟩)))
              obtain ⟨rfl, rfl⟩ := g79
              exact hK _ _ _ _ (Or.inr (Or.inr ⟨a, 5, ha, by decide, rfl, rfl, rfl, rfl⟩))
            · refine hK _ _ _ _ (hK _ _ _ _ (⟨fun _ => ?_, fun h => absurd h (by decide)⟩))
              refine hK _ _ _ _ (hK _ _ _ _ (hK _ _ _ _ (⟨fun _ => ?_, fun h => absurd h (by decide)⟩)))
              refine hK _ _ _ _ (hK _ _ _ _ (hK _ _ _ _ (⟨fun _ => ?_, fun h => absurd h (by decide)⟩)))
              refine hK _ _ _ _ (hK _ _ _ _ (hK _ _ _ _ (⟨fun _ => ?_, fun h => absurd h (by decide)⟩)))
              refine hK _ _ _ _ (hK _ _ _ _ (hK _ _ _ _ (⟨fun h => absurd (by decide) h, fun _ => ?_⟩)))
              refine hK _ _ _ _ (hK _ _ _ _ (hK _ _ _ _ (hK _ _ _ _ (hK _ _ _ _ (hK _ _ _ _ (⟨x_vp (a := 10 + a) (hI_ad (a := 10)) (by omega) (by decide), ?_⟩))))))
              rw [x_cl (j := 10 + Int32.ofNat a) (a := 10 + a) (hI_ad (a := 10)) (by omega), hw a (by omega)]
              exact hK _ _ _ _ (Or.inr (Or.inr ⟨a, 6, ha, by decide, rfl, rfl, rfl, rfl⟩))
          · exact absurd (by first | (rw [x_pe]; decide) | rw [x_pe]) h
        · exact absurd q (by decide)
      · rw [if_neg hq]
        refine hK _ _ _ _ (⟨fun q => ?_, fun q => ?_⟩)
        · exact absurd rfl q
        · refine hK _ _ _ _ (hK _ _ _ _ (hK _ _ _ _ (hK _ _ _ _ (hK _ _ _ _ (hK _ _ _ _ (⟨fun h => ?_, fun h => ?_⟩))))))
          · exact absurd h (by first | (rw [x_pe]; decide) | rw [x_pe])
          · exact hK _ _ _ _ (hK _ _ _ _ (Or.inr (Or.inl ⟨⟨a, ha, rfl⟩, fun z => hq (by
            obtain ⟨u, hu, e9⟩ := z
            rw [e9]
            exact ⟨(hI_le (a := 0) (by decide) (by omega)).mpr (Nat.zero_le _), (hI_le (b := 6) (by omega) (by decide)).mpr hu⟩), rfl, rfl⟩)))
    · exact absurd q (by decide)
  · refine hK _ _ _ _ (⟨fun q => ?_, fun q => ?_⟩)
    · exact absurd rfl q
    · refine hK _ _ _ _ (hK _ _ _ _ (hK _ _ _ _ (hK _ _ _ _ (hK _ _ _ _ (hK _ _ _ _ (⟨fun h => ?_, fun h => ?_⟩))))))
      · exact absurd h (by first | (rw [x_pe]; decide) | rw [x_pe])
      · exact hK _ _ _ _ (hK _ _ _ _ (Or.inl ⟨k1, rfl, rfl⟩))
