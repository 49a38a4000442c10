/-- alike but for frames -/
def alP (e e2 : xB) : Prop := e.1 = e2.1 ∧ e.2.1 = e2.2.1 ∧ ∃ t, t < e.1.2 ∧ sot e.1.1 e.1.2 e.2.1.1 e.2.1.2.1 e.2.1.2.2 e.2.2.2.2 e2.2.2.2.2 t
theorem b_isReframed {nS d : Nat} {M : aM} {e e2 : xB} (hB : cB 0 M e) (hB2 : cB 2 M e2) (hO : lO e.2.1.1 e.2.1.2.1 e.2.1.2.2 e.1.2 e.2.2.2.2) (hO2 : lO e2.2.1.1 e2.2.1.2.1 e2.2.1.2.2 e2.1.2 e2.2.2.2.2) : aC nS (d + 5) 38 [vR 4 0, vR 4 2] M (fun v M' => ((alP e e2 ∧ v = some (vI 1)) ∨ (¬ alP e e2 ∧ v = some (vI 0))) ∧ fr (PR 15 0) M M') (fun _ _ => False) := by
  obtain ⟨ho, o2, o8, hS, w1, w3, h1, h3, s2⟩ := cB_h hB
  obtain ⟨ho', o2', o8', hS', w1', w3', h1', h3', s2'⟩ := cB_h hB2
  have hF := hB.1
  have hF' := hB2.1
  have k3 := (gP_o hF.1.1).2.2
  have k3' := (gP_o hF'.1.1).2.2
  refine aC_mk rfl rfl ?_
  intro K hK _
  have no : ∀ (l2 l3 l4 : Option aV), ¬ alP e e2 → K 87 [some (vR 4 0), some (vR 4 2), l2, l3, l4] [] M := fun l2 l3 l4 hn => hK _ _ _ _ (hK _ _ _ _ (⟨Or.inl rfl, Or.inr ⟨hn, rfl⟩, fr_r⟩))
  have go : ∀ (b c : Int32), e.1 = e2.1 → e.2.1 = e2.2.1 → K 89 [some (vR 4 0), some (vR 4 2), some (vI b), some (vI c), none] [] M := by
    intro b c g1 g2
    have hO3 : lO e.2.1.1 e.2.1.2.1 e.2.1.2.2 e.1.2 e2.2.2.2.2 := by
      rw [g1, g2]
      exact hO2
    have lp : ∀ (m t : Nat) (z : Int32) (M1 : aM), e.1.2 - t = m → t ≤ e.1.2 → z = Int32.ofNat t → fr (PR 15 0) M M1 → (∀ q, q < t → ¬ sot e.1.1 e.1.2 e.2.1.1 e.2.1.2.1 e.2.1.2.2 e.2.2.2.2 e2.2.2.2.2 q) → K 92 [some (vR 4 0), some (vR 4 2), some (vI b), some (vI c), some (vI z)] [] M1 := by
      intro m
      induction m with
      | zero =>
        intro t z M1 hm ht hz f1 hn
        subst hz
        refine hK _ _ _ _ (hK _ _ _ _ (hK _ _ _ _ (hK _ _ _ _ (⟨_, b_order, rfl, fun v98 M98 g98 => ?_⟩))))
        obtain ⟨rfl, rfl⟩ := g98
        rw [f1.1 5 0 1 rfl, hF.1.2.2]
        refine hK _ _ _ _ (⟨fun h => ?_, fun h => ?_⟩)
        · have hn2 : ¬ alP e e2 := fun z => by
            obtain ⟨-, -, q, hq, hs⟩ := z
            exact hn q (by omega) hs
          exact hK _ _ _ _ (hK _ _ _ _ (⟨Or.inl rfl, Or.inr ⟨hn2, rfl⟩, f1⟩))
        · exact absurd (x_nge (x := t) (y := e.1.2) rfl rfl (by omega) (by omega) h) (by omega)
      | succ m ih =>
        intro t z M1 hm ht hz f1 hn
        subst hz
        have hto : t < e.1.2 := by omega
        refine hK _ _ _ _ (hK _ _ _ _ (hK _ _ _ _ (hK _ _ _ _ (⟨_, b_order, rfl, fun v98 M98 g98 => ?_⟩))))
        obtain ⟨rfl, rfl⟩ := g98
        rw [f1.1 5 0 1 rfl, hF.1.2.2]
        refine hK _ _ _ _ (⟨fun h => ?_, fun h => ?_⟩)
        · exact absurd (x_ge (x := t) (y := e.1.2) rfl rfl (by omega) (by omega) h) (by omega)
        have B1 : cS 0 M1 e.2.1.1 e.2.1.2.1 e.2.1.2.2 := ⟨(f1.1 4 0 1 rfl).trans hS.1, (f1.1 4 0 2 rfl).trans hS.2.1, (f1.1 4 0 3 rfl).trans hS.2.2.1, (f1.1 4 0 5 rfl).trans hS.2.2.2.1, (f1.1 4 0 6 rfl).trans hS.2.2.2.2⟩
        have G1 : gF 0 M1 e.1.1 e.1.2 := gF_fr hF (fun q j a b => f1.1 q 0 j (by
          show (Nat.beq q 15 && Nat.beq 0 0) = false
          rw [x_nbeq (show ¬ q = 15 by omega)]
          rfl))
        refine hK _ _ _ _ (hK _ _ _ _ (hK _ _ _ _ (hK _ _ _ _ (⟨_, b_refFrom B1 w1 w3 h1 h3 s2 G1 hO hO3 (fun l hl9 => (f1.1 12 0 l rfl).trans (hB.2.2.2.2.2 l hl9)) (fun l hl9 => (f1.1 12 2 l rfl).trans (hB2.2.2.2.2.2 l hl9)) hto, rfl, fun v108 M108 g108 => ?_⟩))))
        obtain ⟨g108, f108⟩ := g108
        rcases g108 with ⟨hs, rfl⟩ | ⟨hs, rfl⟩
        · refine hK _ _ _ _ (⟨fun q => (by first | exact absurd q (by decide) | exact absurd rfl q | exact absurd (by decide) q), fun _ => ?_⟩)
          exact hK _ _ _ _ (hK _ _ _ _ (⟨Or.inr rfl, Or.inl ⟨⟨g1, g2, t, hto, hs⟩, rfl⟩, fr_t f1 f108⟩))
        · refine hK _ _ _ _ (⟨fun _ => ?_, fun q => (by first | exact absurd q (by decide) | exact absurd rfl q | exact absurd (by decide) q)⟩)
          refine hK _ _ _ _ (hK _ _ _ _ (?_))
          refine ih (t + 1) _ _ (by omega) (by omega) hI_s (fr_t f1 f108) (fun q hq => ?_)
          by_cases e9 : q = t
          · rw [e9]
            exact hs
          · exact hn q (by omega)
    refine hK _ _ _ _ (hK _ _ _ _ (?_))
    exact lp _ 0 _ _ rfl (Nat.zero_le _) rfl fr_r (fun q hq => absurd hq (Nat.not_lt_zero _))
  have s79 : ∀ (b c : Int32), ((b = 1 ∧ e.2.1 = e2.2.1) ∨ (b = 0 ∧ ¬ e.2.1 = e2.2.1)) → ((c = 1 ∧ e.1 = e2.1) ∨ (c = 0 ∧ ¬ e.1 = e2.1)) → K 79 [some (vR 4 0), some (vR 4 2), some (vI b), some (vI c), none] [] M := by
    intro b c hb hc
    rcases hb with ⟨rfl, hb⟩ | ⟨rfl, hb⟩
    · refine hK _ _ _ _ (hK _ _ _ _ (⟨fun q => (by first | exact absurd q (by decide) | exact absurd rfl q | exact absurd (by decide) q), fun _ => ?_⟩))
      rcases hc with ⟨rfl, hc⟩ | ⟨rfl, hc⟩
      · refine hK _ _ _ _ (hK _ _ _ _ (⟨fun _ => ?_, fun q => (by first | exact absurd q (by decide) | exact absurd rfl q | exact absurd (by decide) q)⟩))
        exact go _ _ hc hb
      · refine hK _ _ _ _ (hK _ _ _ _ (⟨fun q => (by first | exact absurd q (by decide) | exact absurd rfl q | exact absurd (by decide) q), fun _ => ?_⟩))
        exact no _ _ _ (fun z => hc z.1)
    · refine hK _ _ _ _ (hK _ _ _ _ (⟨fun _ => ?_, fun q => (by first | exact absurd q (by decide) | exact absurd rfl q | exact absurd (by decide) q)⟩))
      exact no _ _ _ (fun z => hb z.2.1)
  have s39 : ∀ b : Int32, ((b = 1 ∧ e.2.1 = e2.2.1) ∨ (b = 0 ∧ ¬ e.2.1 = e2.2.1)) → K 39 [some (vR 4 0), some (vR 4 2), some (vI b), none, none] [] M := by
    intro b hb
    refine hK _ _ _ _ (hK _ _ _ _ (hK _ _ _ _ (⟨_, b_kind, rfl, fun v43 M43 g43 => ?_⟩)))
    obtain ⟨rfl, rfl⟩ := g43
    refine hK _ _ _ _ (hK _ _ _ _ (hK _ _ _ _ (⟨_, b_kind, rfl, fun v50 M50 g50 => ?_⟩)))
    obtain ⟨rfl, rfl⟩ := g50
    rw [hF.1.2.1, hF'.1.2.1]
    refine hK _ _ _ _ (⟨fun h5 => ?_, fun h5 => ?_⟩)
    · refine hK _ _ _ _ (hK _ _ _ _ (?_))
      exact s79 _ _ hb (Or.inr ⟨rfl, fun z => h5 (by rw [z])⟩)
    · have q1 := x_inj (x := e.1.1) (y := e2.1.1) (by omega) (by omega) h5
      refine hK _ _ _ _ (hK _ _ _ _ (hK _ _ _ _ (⟨_, b_order, rfl, fun v60 M60 g60 => ?_⟩)))
      obtain ⟨rfl, rfl⟩ := g60
      refine hK _ _ _ _ (hK _ _ _ _ (hK _ _ _ _ (⟨_, b_order, rfl, fun v67 M67 g67 => ?_⟩)))
      obtain ⟨rfl, rfl⟩ := g67
      rw [hF.1.2.2, hF'.1.2.2]
      refine hK _ _ _ _ (⟨fun h6 => ?_, fun h6 => ?_⟩)
      · refine hK _ _ _ _ (hK _ _ _ _ (?_))
        exact s79 _ _ hb (Or.inr ⟨rfl, fun z => h6 (by rw [z])⟩)
      · have q2 := x_inj (x := e.1.2) (y := e2.1.2) (by omega) (by omega) h6
        refine hK _ _ _ _ (hK _ _ _ _ (hK _ _ _ _ (?_)))
        exact s79 _ _ hb (Or.inl ⟨rfl, Prod.ext q1 q2⟩)
  refine hK _ _ _ _ (hK _ _ _ _ (hK _ _ _ _ (hK _ _ _ _ (hK _ _ _ _ (⟨fun h7 => ?_, fun h7 => ?_⟩)))))
  · rw [hS.1, hS'.1] at h7
    refine hK _ _ _ _ (hK _ _ _ _ (?_))
    exact s39 _ (Or.inr ⟨rfl, fun z => h7 (by rw [z])⟩)
  · rw [hS.1, hS'.1] at h7
    have q1 := x_inj (x := e.2.1.1) (y := e2.2.1.1) (by omega) (by omega) h7
    refine hK _ _ _ _ (hK _ _ _ _ (hK _ _ _ _ (hK _ _ _ _ (hK _ _ _ _ (⟨fun h8 => ?_, fun h8 => ?_⟩)))))
    · rw [hS.2.1, hS'.2.1] at h8
      refine hK _ _ _ _ (hK _ _ _ _ (?_))
      exact s39 _ (Or.inr ⟨rfl, fun z => h8 (by rw [z])⟩)
    · rw [hS.2.1, hS'.2.1] at h8
      have q2 := x_inj (x := e.2.1.2.1) (y := e2.2.1.2.1) (by omega) (by omega) h8
      refine hK _ _ _ _ (hK _ _ _ _ (hK _ _ _ _ (hK _ _ _ _ (hK _ _ _ _ (⟨fun h9 => ?_, fun h9 => ?_⟩)))))
      · rw [hS.2.2.1, hS'.2.2.1] at h9
        refine hK _ _ _ _ (hK _ _ _ _ (?_))
        exact s39 _ (Or.inr ⟨rfl, fun z => h9 (by rw [z])⟩)
      · rw [hS.2.2.1, hS'.2.2.1] at h9
        have q3 := x_inj (x := e.2.1.2.2) (y := e2.2.1.2.2) (by omega) (by omega) h9
        refine hK _ _ _ _ (hK _ _ _ _ (hK _ _ _ _ (?_)))
        exact s39 _ (Or.inl ⟨rfl, Prod.ext q1 (Prod.ext q2 q3)⟩)
theorem c_alikeX {nS : Nat} {M : aM} {e e2 : xB} (hB : cB 0 M e) (hO : lO e.2.1.1 e.2.1.2.1 e.2.1.2.2 e.1.2 e.2.2.2.2) (hk : M.1 0 0 5 = 0 ∨ (M.1 0 0 5 = 1 ∧ cB 2 M e2 ∧ lO e2.2.1.1 e2.2.1.2.1 e2.2.1.2.2 e2.1.2 e2.2.2.2.2)) : aC nS 60 165 [vR 0 0] M (fun v M' => M.1 0 0 5 = 1 ∧ ((alP e e2 ∧ v = some (vI 1)) ∨ (¬ alP e e2 ∧ v = some (vI 0)))) (fun x M' => x = 4 ∧ M.1 0 0 5 = 0 ∧ M' = M) := by
  refine aC_mk rfl rfl ?_
  intro K hK _
  rcases hk with h0 | ⟨h1, hB2, hO2⟩
  · refine hK _ _ _ _ (hK _ _ _ _ (hK _ _ _ _ (⟨fun h5 => ?_, fun h5 => ?_⟩)))
    · exact absurd h0 h5
    · exact hK _ _ _ _ (⟨rfl, rfl, h0, rfl⟩)
  · refine hK _ _ _ _ (hK _ _ _ _ (hK _ _ _ _ (⟨fun h5 => ?_, fun h5 => ?_⟩)))
    · refine hK _ _ _ _ (hK _ _ _ _ (hK _ _ _ _ (hK _ _ _ _ (hK _ _ _ _ (⟨_, b_isReframed (d := 54) hB hB2 hO hO2, rfl, fun v25 M25 g25 => ?_⟩)))))
      obtain ⟨g25, f25⟩ := g25
      rcases g25 with ⟨hp, rfl⟩ | ⟨hp, rfl⟩
      · exact hK _ _ _ _ (⟨Or.inr rfl, h1, Or.inl ⟨hp, rfl⟩⟩)
      · exact hK _ _ _ _ (⟨Or.inl rfl, h1, Or.inr ⟨hp, rfl⟩⟩)
    · rw [h1] at h5
      exact absurd h5 (by decide)
theorem r_alikeX {nS : Nat} {M : aM} {e e2 : xB} (hB : rB 37 M e) (hL : LL 37 M e) (hk : M.1 36 0 3 = 0 ∨ (M.1 36 0 3 = 1 ∧ rB 38 M e2 ∧ LL 38 M e2)) : aC nS 60 232 [vR 36 0] M (fun v M' => (M.1 36 0 3 = 0 ∧ v = some (vI 0) ∧ M'.1 36 0 0 = 1) ∨ (M.1 36 0 3 = 1 ∧ ((alP e e2 ∧ v = some (vI 1)) ∨ (¬ alP e e2 ∧ v = some (vI 0))) ∧ M'.1 36 0 0 = 0)) (fun _ _ => False) := by
  refine aC_mk rfl rfl ?_
  intro K hK _
  rcases hk with h0 | ⟨h1, hB2, hL2⟩
  · refine hK _ _ _ _ (hK _ _ _ _ (hK _ _ _ _ (hK _ _ _ _ (⟨fun h5 => ?_, fun h5 => ?_⟩))))
    · exact absurd h0 h5
    · refine hK _ _ _ _ (hK _ _ _ _ (hK _ _ _ _ (hK _ _ _ _ (hK _ _ _ _ (hK _ _ _ _ (⟨fun h6 => ?_, fun h6 => ?_⟩))))))
      · rw [x_pe] at h6
        exact absurd h6 (by decide)
      · exact hK _ _ _ _ (hK _ _ _ _ (⟨Or.inl rfl, Or.inl ⟨h0, rfl, x_pe⟩⟩))
  · refine hK _ _ _ _ (hK _ _ _ _ (hK _ _ _ _ (hK _ _ _ _ (⟨fun h5 => ?_, fun h5 => ?_⟩))))
    · refine hK _ _ _ _ (hK _ _ _ _ (hK _ _ _ _ (hK _ _ _ _ (hK _ _ _ _ (⟨fun h6 => ?_, fun h6 => ?_⟩)))))
      · obtain ⟨M1, hM1⟩ : ∃ M1, M1 = a_pI M 36 0 0 0 := ⟨_, rfl⟩
        have c0 : ∀ q j, ¬ q = 36 → M1.1 q 0 j = M.1 q 0 j := fun q j hq => by
          rw [hM1]
          exact x_pn (fun z => hq z.1)
        have t0 : M1.1 36 0 0 = 0 := by
          rw [hM1]
          exact x_pe
        rw [← hM1]
        have B1 : rB 37 M1 e := rB_fr hB (fun j _ _ _ _ => c0 37 j (by decide))
        have B2 : rB 38 M1 e2 := rB_fr hB2 (fun j _ _ _ _ => c0 38 j (by decide))
        have L1 : LL 37 M1 e := LL_f hB.2.1 hL (fun u _ => c0 37 _ (by decide))
        have L2 : LL 38 M1 e2 := LL_f hB2.2.1 hL2 (fun u _ => c0 38 _ (by decide))
        obtain ⟨hor, o2, o8, hS, w1, w3, h1', h3, s2⟩ := rB_h B1
        have k3 := (gP_o (rB_g B1).1).2.2
        obtain ⟨w1', w3', h1'', h3', s2'⟩ := B2.2.1
        have o8' : e2.1.2 ≤ 8 := (gP_o (k := e2.1.1) (o := e2.1.2) B2.1).2.1
        have k3' : e2.1.1 ≤ 3 := (gP_o (k := e2.1.1) (o := e2.1.2) B2.1).2.2
        obtain ⟨a1, a2, a3, a4, a5⟩ := B1.2.2.1
        obtain ⟨c1, c2, c3, c4, c5⟩ := B2.2.2.1
        have no : ∀ (i : Int32), ¬ alP e e2 → K 47 [some (vR 36 0), some (vI i)] [] M1 := fun i hn => hK _ _ _ _ (hK _ _ _ _ (⟨Or.inl rfl, Or.inr ⟨h1, Or.inr ⟨hn, rfl⟩, t0⟩⟩))
        have go : e.1 = e2.1 → e.2.1 = e2.2.1 → ∀ (m t : Nat) (z : Int32) (M2 : aM), e.1.2 - t = m → t ≤ e.1.2 → z = Int32.ofNat t → fr (PR 45 0) M1 M2 → (∀ q, q < t → ¬ sot e.1.1 e.1.2 e.2.1.1 e.2.1.2.1 e.2.1.2.2 e.2.2.2.2 e2.2.2.2.2 q) → K 57 [some (vR 36 0), some (vI z)] [] M2 := by
          intro g1 g2 m
          have hO3 : lO e.2.1.1 e.2.1.2.1 e.2.1.2.2 e.1.2 e2.2.2.2.2 := by
            rw [g1, g2]
            exact L2.2
          have hL3 : lR 38 20 M1 e.2.1.1 e.2.1.2.1 e.2.1.2.2 e2.2.2.2.2 := by
            rw [g2]
            exact L2.1
          induction m with
          | zero =>
            intro t z M2 hm ht hz f1 hn
            subst hz
            refine hK _ _ _ _ (hK _ _ _ _ (hK _ _ _ _ (hK _ _ _ _ (hK _ _ _ _ (⟨x_vp (a := 2) rfl (by decide) (by decide), ?_⟩)))))
            rw [x_cl (j := 2) (a := 2) rfl (by decide), f1.1 37 0 2 rfl, a2]
            refine hK _ _ _ _ (⟨fun h7 => ?_, fun h7 => ?_⟩)
            · have hn2 : ¬ alP e e2 := fun z => by
                obtain ⟨-, -, q, hq, hs⟩ := z
                exact hn q (by omega) hs
              exact hK _ _ _ _ (hK _ _ _ _ (⟨Or.inl rfl, Or.inr ⟨h1, Or.inr ⟨hn2, rfl⟩, (f1.1 36 0 0 rfl).trans t0⟩⟩))
            · exact absurd (x_nge (x := t) (y := e.1.2) rfl rfl (by omega) (by omega) h7) (by omega)
          | succ m ih =>
            intro t z M2 hm ht hz f1 hn
            subst hz
            have hto : t < e.1.2 := by omega
            refine hK _ _ _ _ (hK _ _ _ _ (hK _ _ _ _ (hK _ _ _ _ (hK _ _ _ _ (⟨x_vp (a := 2) rfl (by decide) (by decide), ?_⟩)))))
            rw [x_cl (j := 2) (a := 2) rfl (by decide), f1.1 37 0 2 rfl, a2]
            refine hK _ _ _ _ (⟨fun h7 => ?_, fun h7 => ?_⟩)
            · exact absurd (x_ge (x := t) (y := e.1.2) rfl rfl (by omega) (by omega) h7) (by omega)
            have gm2 : gM M2 e.1.1 e.1.2 := ⟨B1.1, (f1.1 37 0 1 rfl).trans a1, (f1.1 37 0 2 rfl).trans a2⟩
            have rs2 : rS M2 e.2.1.1 e.2.1.2.1 e.2.1.2.2 := ⟨(f1.1 37 0 3 rfl).trans a3, (f1.1 37 0 4 rfl).trans a4, (f1.1 37 0 5 rfl).trans a5⟩
            refine hK _ _ _ _ (hK _ _ _ _ (hK _ _ _ _ (⟨_, r_alikeBy (d := 55) gm2 rs2 w1 w3 h1' h3 s2 L1.2 hO3 (fun l p q => (f1.1 37 0 _ rfl).trans (L1.1 l p q)) (fun l p q => (f1.1 38 0 _ rfl).trans (hL3 l p q)) hto, rfl, fun v69 M69 g69 => ?_⟩)))
            obtain ⟨g69, f69⟩ := g69
            rcases g69 with ⟨hs, rfl⟩ | ⟨hs, rfl⟩
            · refine hK _ _ _ _ (⟨fun q => (by first | exact absurd q (by decide) | exact absurd rfl q | exact absurd (by decide) q), fun _ => ?_⟩)
              exact hK _ _ _ _ (hK _ _ _ _ (⟨Or.inr rfl, Or.inr ⟨h1, Or.inl ⟨⟨g1, g2, t, hto, hs⟩, rfl⟩, ((f69.1 36 0 0 rfl).trans (f1.1 36 0 0 rfl)).trans t0⟩⟩))
            · refine hK _ _ _ _ (⟨fun _ => ?_, fun q => (by first | exact absurd q (by decide) | exact absurd rfl q | exact absurd (by decide) q)⟩)
              refine hK _ _ _ _ (hK _ _ _ _ (?_))
              refine ih (t + 1) _ _ (by omega) (by omega) hI_s (fr_t f1 f69) (fun q hq => ?_)
              by_cases e9 : q = t
              · rw [e9]
                exact hs
              · exact hn q (by omega)
        have fin : e.1 = e2.1 → e.2.1 = e2.2.1 → K 55 [some (vR 36 0), some (vI 6)] [] M1 := by
          intro g1 g2
          refine hK _ _ _ _ (hK _ _ _ _ (?_))
          exact go g1 g2 _ 0 _ _ rfl (Nat.zero_le _) rfl fr_r (fun q hq => absurd hq (Nat.not_lt_zero _))
        have five : ∀ (i : Nat) (x y : Nat), i ≤ 5 → M1.1 37 0 i = Int32.ofNat x → M1.1 38 0 i = Int32.ofNat y → x < 1000 → y < 1000 → (¬ x = y → ¬ alP e e2) → (x = y → K 27 [some (vR 36 0), some (vI (Int32.ofNat (i + 1)))] [] M1) → K 27 [some (vR 36 0), some (vI (Int32.ofNat i))] [] M1 := by
          intro i x y hi ex ey hx hy hno nx
          refine hK _ _ _ _ (hK _ _ _ _ (hK _ _ _ _ (⟨fun h7 => ?_, fun h7 => ?_⟩)))
          · have h8 := x_lt (x := 5) (y := i) rfl rfl (by decide) (by omega) h7
            exact absurd h8 (by omega)
          · refine hK _ _ _ _ (hK _ _ _ _ (hK _ _ _ _ (hK _ _ _ _ (⟨x_vp (a := i) rfl (show i < 1010 by omega) (by decide), ?_⟩))))
            rw [x_cl (j := Int32.ofNat i) (a := i) rfl (by omega), ex]
            refine hK _ _ _ _ (hK _ _ _ _ (hK _ _ _ _ (hK _ _ _ _ (⟨x_vp (a := i) rfl (show i < 1010 by omega) (by decide), ?_⟩))))
            rw [x_cl (j := Int32.ofNat i) (a := i) rfl (by omega), ey]
            refine hK _ _ _ _ (⟨fun h8 => ?_, fun h8 => ?_⟩)
            · refine hK _ _ _ _ (hK _ _ _ _ (?_))
              rw [hI_s]
              exact nx (x_inj (by omega) (by omega) h8)
            · exact no _ (hno (fun z => h8 (by rw [z])))
        refine hK _ _ _ _ (hK _ _ _ _ (?_))
        refine five 1 e.1.1 e2.1.1 (by decide) a1 c1 (by omega) (by omega) (fun q z => q (by rw [z.1])) (fun q1 => ?_)
        refine five 2 e.1.2 e2.1.2 (by decide) a2 c2 (by omega) (by omega) (fun q z => q (by rw [z.1])) (fun q2 => ?_)
        refine five 3 e.2.1.1 e2.2.1.1 (by decide) a3 c3 (by omega) (by omega) (fun q z => q (by rw [z.2.1])) (fun q3 => ?_)
        refine five 4 e.2.1.2.1 e2.2.1.2.1 (by decide) a4 c4 (by omega) (by omega) (fun q z => q (by rw [z.2.1])) (fun q4 => ?_)
        refine five 5 e.2.1.2.2 e2.2.1.2.2 (by decide) a5 c5 (by omega) (by omega) (fun q z => q (by rw [z.2.1])) (fun q5 => ?_)
        refine hK _ _ _ _ (hK _ _ _ _ (hK _ _ _ _ (⟨fun _ => ?_, fun q => absurd (by decide) q⟩)))
        exact fin (Prod.ext q1 q2) (Prod.ext q3 (Prod.ext q4 q5))
      · rw [x_pe] at h6
        exact absurd (by decide) h6
    · rw [h1] at h5
      exact absurd h5 (by decide)
