/-- boardLine, whatever the group -/
theorem i_bl {nS d : Nat} {M : aM} (hd : 10 ≤ d) (hT : z_MT (zTb, [], []) M) (hp : iP 37 M) (hf : M.1 36 0 9 = -1) : aC nS d 209 [vR 36 0] M (fun v M' => v = none ∧ z_M (zTb, [(36, 8, 8), (36, 9, 9), (36, 10, 10), (37, 1, 6), (37, 10, 17), (37, 18, 43)], []) M [] M' ∧ iP 37 M') (fun _ _ => False) := by
  obtain ⟨q, hq, q1, q2⟩ := hp
  have hf2 : z_b (M.1 36 0 9) = 2147483647 := by rw [hf]; exact z_b_m1
  have key : ∀ (c : zCt), z_ctH zTb c → c.1 = 209 → c.2.1 = [.inr (.inr (36, 0))] → c.2.2.2.1 = [(36, 8, 8), (36, 9, 9), (36, 10, 10), (37, 1, 6), (37, 10, 17), (37, 18, 43)] → c.2.2.2.2.2 ≤ 10 → z_MG c.2.2.1 M → i_oP c.2.2.2.2.1 = true → aC nS d 209 [vR 36 0] M (fun v M' => v = none ∧ z_M (zTb, [(36, 8, 8), (36, 9, 9), (36, 10, 10), (37, 1, 6), (37, 10, 17), (37, 18, 43)], []) M [] M' ∧ iP 37 M') (fun _ _ => False) := by
    intro c hc h1 h2 h3 h4 hG h5
    have h6 := hc nS d [vR 36 0] M (by omega) (by rw [h2]; exact h_R trivial) hT hG
    rw [h1] at h6
    refine aC_post h6 (fun v M' hv => ?_) (fun x M' hx => ?_)
    · obtain ⟨v', g', a, b, e⟩ := hv
      obtain ⟨r1, r2⟩ := i_oP_ok h5 v' g' a
      rw [h3] at e
      refine ⟨?_, h_Md e, r2 M' e.1 e.2.2⟩
      rcases v' with _ | (u | (u | u))
      · exact h_ovN b
      · cases r1
      · cases r1
      · cases r1
    · obtain ⟨g', a, e⟩ := hx
      exact False.elim (i_oP_x h5 _ a)
  revert q1 q2
  refine i_pairs (P := fun a b => z_b (M.1 37 0 1) = a → z_b (M.1 37 0 2) = b → _) (fun q1 q2 => key ct_boardLine_0_2 hct_boardLine_0_2 rfl rfl rfl (show (10 : Nat) ≤ 10 by decide) (h_MG1 (k := 36) (j := 9) (by decide) rfl (h_eqI hf2) (h_MG1 (k := 37) (j := 1) (by decide) rfl (h_eqI q1) (h_MG1 (k := 37) (j := 2) (by decide) rfl (h_eqI q2) h_MG0))) rfl) (fun q1 q2 => key ct_boardLine_0_3 hct_boardLine_0_3 rfl rfl rfl (show (10 : Nat) ≤ 10 by decide) (h_MG1 (k := 36) (j := 9) (by decide) rfl (h_eqI hf2) (h_MG1 (k := 37) (j := 1) (by decide) rfl (h_eqI q1) (h_MG1 (k := 37) (j := 2) (by decide) rfl (h_eqI q2) h_MG0))) rfl) (fun q1 q2 => key ct_boardLine_0_4 hct_boardLine_0_4 rfl rfl rfl (show (10 : Nat) ≤ 10 by decide) (h_MG1 (k := 36) (j := 9) (by decide) rfl (h_eqI hf2) (h_MG1 (k := 37) (j := 1) (by decide) rfl (h_eqI q1) (h_MG1 (k := 37) (j := 2) (by decide) rfl (h_eqI q2) h_MG0))) rfl) (fun q1 q2 => key ct_boardLine_0_5 hct_boardLine_0_5 rfl rfl rfl (show (10 : Nat) ≤ 10 by decide) (h_MG1 (k := 36) (j := 9) (by decide) rfl (h_eqI hf2) (h_MG1 (k := 37) (j := 1) (by decide) rfl (h_eqI q1) (h_MG1 (k := 37) (j := 2) (by decide) rfl (h_eqI q2) h_MG0))) rfl) (fun q1 q2 => key ct_boardLine_0_6 hct_boardLine_0_6 rfl rfl rfl (show (10 : Nat) ≤ 10 by decide) (h_MG1 (k := 36) (j := 9) (by decide) rfl (h_eqI hf2) (h_MG1 (k := 37) (j := 1) (by decide) rfl (h_eqI q1) (h_MG1 (k := 37) (j := 2) (by decide) rfl (h_eqI q2) h_MG0))) rfl) (fun q1 q2 => key ct_boardLine_0_7 hct_boardLine_0_7 rfl rfl rfl (show (10 : Nat) ≤ 10 by decide) (h_MG1 (k := 36) (j := 9) (by decide) rfl (h_eqI hf2) (h_MG1 (k := 37) (j := 1) (by decide) rfl (h_eqI q1) (h_MG1 (k := 37) (j := 2) (by decide) rfl (h_eqI q2) h_MG0))) rfl) (fun q1 q2 => key ct_boardLine_0_8 hct_boardLine_0_8 rfl rfl rfl (show (10 : Nat) ≤ 10 by decide) (h_MG1 (k := 36) (j := 9) (by decide) rfl (h_eqI hf2) (h_MG1 (k := 37) (j := 1) (by decide) rfl (h_eqI q1) (h_MG1 (k := 37) (j := 2) (by decide) rfl (h_eqI q2) h_MG0))) rfl) (fun q1 q2 => key ct_boardLine_1_4 hct_boardLine_1_4 rfl rfl rfl (show (10 : Nat) ≤ 10 by decide) (h_MG1 (k := 36) (j := 9) (by decide) rfl (h_eqI hf2) (h_MG1 (k := 37) (j := 1) (by decide) rfl (h_eqI q1) (h_MG1 (k := 37) (j := 2) (by decide) rfl (h_eqI q2) h_MG0))) rfl) (fun q1 q2 => key ct_boardLine_1_6 hct_boardLine_1_6 rfl rfl rfl (show (10 : Nat) ≤ 10 by decide) (h_MG1 (k := 36) (j := 9) (by decide) rfl (h_eqI hf2) (h_MG1 (k := 37) (j := 1) (by decide) rfl (h_eqI q1) (h_MG1 (k := 37) (j := 2) (by decide) rfl (h_eqI q2) h_MG0))) rfl) (fun q1 q2 => key ct_boardLine_1_8 hct_boardLine_1_8 rfl rfl rfl (show (10 : Nat) ≤ 10 by decide) (h_MG1 (k := 36) (j := 9) (by decide) rfl (h_eqI hf2) (h_MG1 (k := 37) (j := 1) (by decide) rfl (h_eqI q1) (h_MG1 (k := 37) (j := 2) (by decide) rfl (h_eqI q2) h_MG0))) rfl) (fun q1 q2 => key ct_boardLine_2_8 hct_boardLine_2_8 rfl rfl rfl (show (10 : Nat) ≤ 10 by decide) (h_MG1 (k := 36) (j := 9) (by decide) rfl (h_eqI hf2) (h_MG1 (k := 37) (j := 1) (by decide) rfl (h_eqI q1) (h_MG1 (k := 37) (j := 2) (by decide) rfl (h_eqI q2) h_MG0))) rfl) (fun q1 q2 => key ct_boardLine_3_2 hct_boardLine_3_2 rfl rfl rfl (show (10 : Nat) ≤ 10 by decide) (h_MG1 (k := 36) (j := 9) (by decide) rfl (h_eqI hf2) (h_MG1 (k := 37) (j := 1) (by decide) rfl (h_eqI q1) (h_MG1 (k := 37) (j := 2) (by decide) rfl (h_eqI q2) h_MG0))) rfl) (fun q1 q2 => key ct_boardLine_3_4 hct_boardLine_3_4 rfl rfl rfl (show (10 : Nat) ≤ 10 by decide) (h_MG1 (k := 36) (j := 9) (by decide) rfl (h_eqI hf2) (h_MG1 (k := 37) (j := 1) (by decide) rfl (h_eqI q1) (h_MG1 (k := 37) (j := 2) (by decide) rfl (h_eqI q2) h_MG0))) rfl) (fun q1 q2 => key ct_boardLine_3_8 hct_boardLine_3_8 rfl rfl rfl (show (10 : Nat) ≤ 10 by decide) (h_MG1 (k := 36) (j := 9) (by decide) rfl (h_eqI hf2) (h_MG1 (k := 37) (j := 1) (by decide) rfl (h_eqI q1) (h_MG1 (k := 37) (j := 2) (by decide) rfl (h_eqI q2) h_MG0))) rfl) q hq
theorem h_pG {T : zT} {c : zCt} (hc : z_ctH T c) {o : Option zV} {g0 : zG} (h1 : c.2.2.1 = []) (h3 : c.2.2.2.2.1 = [.inl (o, g0)]) {nS d : Nat} {as : List aV} {M : aM} (hd : c.2.2.2.2.2 ≤ d) (hS : z_S c.2.1 as) (hT : z_MT (T, [], []) M) : aC nS d c.1 as M (fun v M' => z_ov o v ∧ z_M (T, c.2.2.2.1, []) M g0 M') (fun _ _ => False) := by
  refine aC_post (hc nS d as M hd hS hT (by rw [h1]; exact h_MG0)) (fun v M' hv => ?_) (fun x M' hx => ?_)
  · rw [h3] at hv
    obtain ⟨v', g', h4, h5, h6⟩ := hv
    have h4 := List.mem_singleton.mp h4
    cases h4
    exact ⟨h5, h6⟩
  · rw [h3] at hx
    obtain ⟨g', h4, h6⟩ := hx
    have h4 := List.mem_singleton.mp h4
    cases h4
theorem h_gm {g : zG} {n : Nat} {v : zI} (h : decide ((n, v) ∈ g) = true) : (n, v) ∈ g := of_decide_eq_true h
/-- between the lines of a text -/
def iB (M M1 : aM) : Prop := z_M (zTb, [(36, 0, 0), (36, 6, 10), (37, 0, 49), (39, 0, 49)], []) M [] M1 ∧ iP 37 M1 ∧ (∀ u, u < 50 → M1.1 39 0 u = M.1 37 0 u) ∧ z_b (M1.1 36 0 6) = 2147483648
def iBf (V : zW) : Bool := z_WI [(36, 0, 0), (36, 6, 10), (37, 0, 49), (39, 0, 49)] V && (!(z_w V 36 6 6) && V.all (fun w => !(Nat.beq w.1 39)))
theorem iB_to {V : zW} {M M1 M2 : aM} {g : zG} (h : iB M M1) (h2 : z_M (zTb, V, []) M1 g M2) (hV : iBf V = true) (hp : iP 37 M2) : iB M M2 := by
  unfold iBf at hV
  rw [Bool.and_eq_true, Bool.and_eq_true] at hV
  refine ⟨h_Mt h.1 (h_Md h2) hV.1, hp, fun u hu => ?_, ?_⟩
  · rw [(h2.2.1 39 0 u ?_).1]
    · exact h.2.2.1 u hu
    · cases hq : z_w V 39 u u with
      | false => rfl
      | true =>
        obtain ⟨w, g1, g2, -⟩ := z_w_at hq
        have := List.all_eq_true.mp hV.2.2 w g1
        rw [g2] at this
        cases this
  · rw [i_nw h2.2.1 hV.2.1]
    exact h.2.2.2
theorem iB_p {V : zW} {M1 M2 : aM} {g : zG} (h : iP 37 M1) (h2 : z_M (zTb, V, []) M1 g M2) (h3 : (!(z_w V 37 1 1)) = true) (h4 : (!(z_w V 37 2 2)) = true) : iP 37 M2 := iP_eq (i_nw h2.2.1 h3) (i_nw h2.2.1 h4) h
theorem e_board {nS : Nat} {M : aM} (hT : z_MT (zTb, [], []) M) (hi : iM M) : aC nS 60 211 [vR 36 0] M (fun v M' => (∃ x, v = some (vI x)) ∧ mPost 2147483648 M M' ∧ M'.1 36 0 3 = M.1 36 0 3) (fun _ _ => False) := by
  refine aC_mk rfl rfl ?_
  intro K hK hF
  have un : ∀ {M1 : aM}, z_M (zTb, [(36, 0, 0), (36, 6, 10), (37, 0, 49), (39, 0, 49)], []) M [] M1 → ∀ k u, z_w [(36, 0, 0), (36, 6, 10), (37, 0, 49), (39, 0, 49)] k u u = false → M1.1 k 0 u = M.1 k 0 u := fun h k u hw => (h.2.1 k 0 u hw).1
  have kk : ∀ {M1 : aM}, z_M (zTb, [(36, 0, 0), (36, 6, 10), (37, 0, 49), (39, 0, 49)], []) M [] M1 → iK M1 := fun h => iK_eq (un h 36 3 rfl) (un h 38 1 rfl) (un h 38 2 rfl) (un h 38 3 rfl) (un h 38 4 rfl) hi.2.2
  -- what was there is put back
  have rs : ∀ (m j : Nat) (M1 : aM) (x1 x2 : Int32), j + m = 50 → z_M (zTb, [(36, 0, 0), (36, 6, 10), (37, 0, 49), (39, 0, 49)], []) M [] M1 → (∀ u, u < 50 → M1.1 39 0 u = M.1 37 0 u) → (∀ u, u < j → M1.1 37 0 u = M.1 37 0 u) → z_b (M1.1 36 0 6) = 2147483648 → K 195 [some (vR 36 0), some (vI x1), some (vI x2), some (vI (Int32.ofNat j))] [] M1 := by
    intro m
    induction m with
    | zero =>
      intro j M1 x1 x2 hj hM hb hu ht
      refine hK _ _ _ _ (hK _ _ _ _ (?_))
      refine hK _ _ _ _ ⟨fun h => ?_, fun h => ?_⟩
      · refine hK _ _ _ _ (hK _ _ _ _ ⟨⟨_, rfl⟩, ⟨hM.1, ⟨iP_eq (hu 1 (by omega)) (hu 2 (by omega)) hi.1, ?_, kk hM⟩, m_fr hM rfl, ht⟩, un hM 36 3 rfl⟩)
        obtain ⟨d, d1, d2, d3⟩ := hi.2.1
        exact ⟨d, d1, by rw [hu 8 (by omega)]; exact d2, by rw [hu 7 (by omega)]; exact d3⟩
      · have := i_lt (n := 50) (by omega) (by decide) h
        omega
    | succ m ih =>
      intro j M1 x1 x2 hj hM hb hu ht
      refine hK _ _ _ _ (hK _ _ _ _ (?_))
      refine hK _ _ _ _ ⟨fun h => ?_, fun h => ?_⟩
      · have := i_ge (n := 50) (by omega) (by decide) h
        omega
      refine hK _ _ _ _ (hK _ _ _ _ (hK _ _ _ _ (hK _ _ _ _ (hK _ _ _ _ (hK _ _ _ _ (?_))))))
      refine hK _ _ _ _ ⟨i_vp (by decide) (by omega), ?_⟩
      refine hK _ _ _ _ ⟨i_vp (by decide) (by omega), ?_⟩
      rw [hI_cl (by omega), hb j (by omega)]
      refine hK _ _ _ _ (hK _ _ _ _ ?_)
      have hM2 : z_M (zTb, [(36, 0, 0), (36, 6, 10), (37, 0, 49), (39, 0, 49)], []) M [] (a_pI M1 37 0 j (M.1 37 0 j)) := h_Mps hM (z_w_sub (W := [(36, 0, 0), (36, 6, 10), (37, 0, 49), (39, 0, 49)]) (k := 37) (a := 0) (b := 49) rfl (Nat.zero_le _) (by omega)) (i_cp0 i_c3737 hT (by decide))
      rw [show Int32.ofNat j + 1 = Int32.ofNat (j + 1) from hI_s]
      refine ih (j + 1) _ _ _ (by omega) hM2 (fun u h => ?_) (fun u h => ?_) ?_
      · rw [i_pI (fun z => absurd z.1 (by decide))]
        exact hb u h
      · by_cases he : u = j
        · subst he
          exact h_pIs
        · rw [i_pI (fun z => he z.2.2)]
          exact hu u (by omega)
      · rw [i_pI (fun z => absurd z.1 (by decide))]
        exact ht
  have tail : ∀ (M1 : aM) (x1 x2 : Int32), iB M M1 → K 154 [some (vR 36 0), some (vI x1), some (vI x2), none] [] M1 := by
    intro M1 x1 x2 hB
    obtain ⟨hM, hp, hb, ht⟩ := hB
    have bad : ∀ y : Int32, 0 < y → K 183 [some (vR 36 0), some (vI x1), some (vI x2), none] [vI y, vR 36 0] M1 := by
      intro y hy
      have hM2 : z_M (zTb, [(36, 0, 0), (36, 6, 10), (37, 0, 49), (39, 0, 49)], []) M [] (a_pI M1 36 0 0 y) := h_Mp hM (by decide) (z_i_top _)
      refine hK _ _ _ _ (hK _ _ _ _ (hK _ _ _ _ (?_)))
      refine hK _ _ _ _ ⟨fun h => absurd hy (Int32.not_lt.mpr (by rw [h_pIs] at h; exact h)), fun h => ?_⟩
      refine hK _ _ _ _ (hK _ _ _ _ ?_)
      exact rs 50 0 _ _ _ rfl hM2 (fun u h => by rw [i_pI (fun z => absurd z.1 (by decide))]; exact hb u h) (fun u h => by omega) (by rw [i_pI (fun z => absurd z.2.2 (by decide))]; exact ht)
    refine hK _ _ _ _ (hK _ _ _ _ (hK _ _ _ _ (hK _ _ _ _ (?_))))
    refine hK _ _ _ _ ⟨fun h => ?_, fun h => hK _ _ _ _ (hK _ _ _ _ (bad 1 (by decide)))⟩
    refine hK _ _ _ _ (hK _ _ _ _ (hK _ _ _ _ (?_)))
    refine hK _ _ _ _ ⟨i_vp (j := 0) (by decide) (by decide), ?_⟩
    refine hK _ _ _ _ ?_
    refine hK _ _ _ _ ⟨fun h12 => ?_, fun h12 => hK _ _ _ _ (hK _ _ _ _ (bad 2 (by decide)))⟩
    have hM2 : z_M (zTb, [(36, 0, 0), (36, 6, 10), (37, 0, 49), (39, 0, 49)], []) M [] (a_pI M1 36 0 0 0) := h_Mp hM (by decide) (z_i_top _)
    refine hK _ _ _ _ ?_
    refine hK _ _ _ _ (hK _ _ _ _ (hK _ _ _ _ (?_)))
    refine hK _ _ _ _ ⟨fun h => ?_, fun h => absurd (Int32.le_refl _) (by rw [h_pIs] at h; exact h)⟩
    have h0 : z_i (2147483648, 2147483660) (M1.1 37 0 0) := h_TR (T := zTb) (k := 37) (i := 0) (j := 0) hM.1
    have h0n : z_b (M1.1 37 0 0) ≠ 2147483660 := fun z => h12 (z_b_inj (z.trans z_l12.symm))
    have e0 : (a_pI M1 36 0 0 0).1 37 0 0 = M1.1 37 0 0 := i_pI (fun z => absurd z.1 (by decide))
    have e1 : z_b (M1.1 37 0 0 + 1) = z_b (M1.1 37 0 0) + 1 := by
      have h1 := h0.1
      have h2 := h0.2
      dsimp only at h1 h2
      rw [z_b_add, z_l1]
      omega
    have hM3 : z_M (zTb, [(36, 0, 0), (36, 6, 10), (37, 0, 49), (39, 0, 49)], []) M [] (a_pI (a_pI M1 36 0 0 0) 37 0 0 ((a_pI M1 36 0 0 0).1 37 0 0 + 1)) := by
      refine h_Mp hM2 (v := (2147483648, 2147483660)) (by decide) ?_
      rw [e0]
      have h1 := h0.1
      have h2 := h0.2
      dsimp only at h1 h2
      exact ⟨by show 2147483648 ≤ _; omega, by show _ ≤ 2147483660; omega⟩
    have hM4 := h_Mp hM3 (k := 37) (i := 0) (j := 7) (v := (2147483648, 2147483648)) (x := 0) (by decide) z_i0
    have hM5 := h_Mp hM4 (k := 37) (i := 0) (j := 8) (v := (2147483648, 2147483648)) (x := 0) (by decide) z_i0
    refine hK _ _ _ _ (hK _ _ _ _ (hK _ _ _ _ (hK _ _ _ _ (?_))))
    refine hK _ _ _ _ ⟨i_vp (j := 0) (by decide) (by decide), ?_⟩
    refine hK _ _ _ _ (hK _ _ _ _ (?_))
    refine hK _ _ _ _ ⟨i_vp (j := 0) (by decide) (by decide), ?_⟩
    refine hK _ _ _ _ (hK _ _ _ _ (hK _ _ _ _ (hK _ _ _ _ (?_))))
    refine hK _ _ _ _ ⟨i_vp (j := 7) (by decide) (by decide), ?_⟩
    refine hK _ _ _ _ (hK _ _ _ _ (hK _ _ _ _ (hK _ _ _ _ (?_))))
    refine hK _ _ _ _ ⟨i_vp (j := 8) (by decide) (by decide), ?_⟩
    refine hK _ _ _ _ (hK _ _ _ _ (hK _ _ _ _ (?_)))
    refine hK _ _ _ _ ⟨i_vp (j := 0) (by decide) (by decide), ?_⟩
    refine hK _ _ _ _ ⟨⟨_, rfl⟩, ⟨hM5.1, ⟨iP_eq ?_ ?_ hp, ⟨0, by decide, ?_, ?_⟩, kk hM5⟩, m_fr hM5 rfl, ?_⟩, un hM5 36 3 rfl⟩
    · exact (i_pI (fun z => absurd z.2.2 (by decide))).trans ((i_pI (fun z => absurd z.2.2 (by decide))).trans ((i_pI (fun z => absurd z.2.2 (by decide))).trans (i_pI (fun z => absurd z.2.2 (by decide)))))
    · exact (i_pI (fun z => absurd z.2.2 (by decide))).trans ((i_pI (fun z => absurd z.2.2 (by decide))).trans ((i_pI (fun z => absurd z.2.2 (by decide))).trans (i_pI (fun z => absurd z.2.2 (by decide)))))
    · exact (congrArg z_b h_pIs).trans z_b0
    · exact Nat.le_of_eq ((congrArg z_b ((i_pI (fun z => absurd z.2.2 (by decide))).trans h_pIs)).trans z_b0).symm
    · refine (congrArg z_b ?_).trans ht
      exact (i_pI (fun z => absurd z.2.2 (by decide))).trans ((i_pI (fun z => absurd z.2.2 (by decide))).trans ((i_pI (fun z => absurd z.2.2 (by decide))).trans (i_pI (fun z => absurd z.2.2 (by decide)))))
  have wr : ∀ {M1 : aM} {q : Nat} {L : aL}, iB M M1 → M1.1 36 0 9 = -1 → ∀ Q : aM → Prop, (∀ M2, iB M M2 → ¬ M2.1 36 0 9 = -1 → Q M2) → aC nS 59 205 [vR 36 0, vI (M1.1 36 0 8)] M1 (fun v M2 => v = none ∧ Q M2) (fun _ _ => False) := by
    intro M1 q L hB hf Q hQ
    have ha : z_i (2147483648, 2147484048) (M1.1 36 0 8) := h_TR (T := zTb) (k := 36) (i := 0) (j := 8) hB.1.1
    have hf2 : z_b (M1.1 36 0 9) = 2147483647 := by rw [hf]; exact z_b_m1
    refine aC_post (hct_wrong1 nS 59 [vR 36 0, vI (M1.1 36 0 8)] M1 (show (1 : Nat) ≤ 59 by decide) (h_R (h_Iv ha trivial)) hB.1.1 (h_MG1 (k := 36) (j := 9) (by decide) rfl (h_eqI hf2) h_MG0)) (fun v M2 hv => ?_) (fun x M2 hx => ?_)
    · obtain ⟨v', g', a, b, e⟩ := hv
      have a := List.mem_singleton.mp a
      cases a
      have e9 := e.2.2 _ (List.mem_singleton.mpr rfl) 36 0 9 (by decide) (by decide) rfl
      refine ⟨h_ovN b, hQ M2 (iB_to hB e (by decide +kernel) (iB_p hB.2.1 e rfl rfl)) (fun z => ?_)⟩
      rw [z] at e9
      have := e9.1
      rw [z_b_m1] at this
      exact absurd this (by decide)
    · obtain ⟨g', a, e⟩ := hx
      have a := List.mem_singleton.mp a
      cases a
  have lp : ∀ (m n : Nat) (M1 : aM) (x1 : Int32), n + m = 13 → iB M M1 → (n ≤ 12 ∨ x1 = 0 ∨ ¬ M1.1 36 0 9 = -1) → K 53 [some (vR 36 0), some (vI x1), some (vI (Int32.ofNat n)), none] [] M1 := by
    intro m
    induction m with
    | zero =>
      intro n M1 x1 hn hB hc
      refine hK _ _ _ _ (hK _ _ _ _ ⟨fun h => tail _ _ _ hB, fun h0 => ?_⟩)
      refine hK _ _ _ _ (hK _ _ _ _ (hK _ _ _ _ (?_)))
      refine hK _ _ _ _ ⟨fun h => tail _ _ _ hB, fun h1 => ?_⟩
      rcases hc with hc | hc | hc
      · omega
      · exact absurd hc h0
      · exact absurd h1 hc
    | succ m ih =>
      intro n M1 x1 hn hB hc
      refine hK _ _ _ _ (hK _ _ _ _ ⟨fun h => tail _ _ _ hB, fun h0 => ?_⟩)
      refine hK _ _ _ _ (hK _ _ _ _ (hK _ _ _ _ (?_)))
      refine hK _ _ _ _ ⟨fun h => tail _ _ _ hB, fun h1 => ?_⟩
      -- behind a line
      have beh : ∀ M2, iB M M2 → (n = 12 → ¬ M2.1 36 0 9 = -1) → K 90 [some (vR 36 0), some (vI x1), some (vI (Int32.ofNat n)), none] [] M2 := by
        intro M2 hB2 h12
        refine hK _ _ _ _ (hK _ _ _ _ ?_)
        rw [show Int32.ofNat n + 1 = Int32.ofNat (n + 1) from hI_s]
        refine hK _ _ _ _ ⟨_, h_pW hct_skip rfl rfl (show (1 : Nat) ≤ 59 by decide) (h_R trivial) hB2.1.1, rfl, fun v M3 g => ?_⟩
        obtain ⟨g1, g2⟩ := g
        have g1 := h_ovN g1
        subst g1
        have hB3 : iB M M3 := iB_to hB2 g2 (by decide +kernel) (iB_p hB2.2.1 g2 rfl rfl)
        have f3 : M3.1 36 0 9 = M2.1 36 0 9 := h_un g2 rfl
        have stop : ∀ (M4 : aM), iB M M4 → K 116 [some (vR 36 0), some (vI x1), some (vI (Int32.ofNat (n + 1))), none] [] M4 := by
          intro M4 hB4
          exact hK _ _ _ _ (hK _ _ _ _ (hK _ _ _ _ (ih (n + 1) M4 0 (by omega) hB4 (Or.inr (Or.inl rfl)))))
        refine hK _ _ _ _ (hK _ _ _ _ (hK _ _ _ _ (?_)))
        refine hK _ _ _ _ ⟨fun h => stop _ hB3, fun h2 => ?_⟩
        have hn12 : ¬ n = 12 := fun z => h12 z (f3.symm.trans h2)
        refine hK _ _ _ _ (hK _ _ _ _ (hK _ _ _ _ (hK _ _ _ _ (?_))))
        refine hK _ _ _ _ ⟨fun h => ?_, fun h => stop _ hB3⟩
        refine hK _ _ _ _ (hK _ _ _ _ (?_))
        refine hK _ _ _ _ ⟨_, h_p2 hct_isSign rfl (show (2 : Nat) ≤ 59 by decide) (h_R (h_I trivial)) hB3.1.1 h_MG0, rfl, fun v M4 g => ?_⟩
        obtain ⟨y, rfl, g4⟩ := g
        have yy : z_b y = 2147483648 ∧ iB M M4 ∨ z_b y = 2147483649 ∧ iB M M4 ∧ z_b (M4.1 36 0 8) ≤ 2147484047 := by
          rcases g4 with ⟨q1, q2⟩ | ⟨q1, q2⟩
          · exact Or.inl ⟨Nat.le_antisymm q1.2 q1.1, iB_to hB3 q2 (by decide +kernel) (iB_p hB3.2.1 q2 rfl rfl)⟩
          · exact Or.inr ⟨Nat.le_antisymm q1.2 q1.1, iB_to hB3 q2 (by decide +kernel) (iB_p hB3.2.1 q2 rfl rfl), (q2.2.2 _ (List.mem_singleton.mpr rfl) 36 0 8 (by decide) (by decide) rfl).2⟩
        have f4 : M4.1 36 0 9 = -1 := by
          rcases g4 with ⟨q1, q2⟩ | ⟨q1, q2⟩ <;> exact (h_un (h_Md q2) rfl).trans h2
        rcases yy with ⟨y1, hB4⟩ | ⟨y1, hB4, y2⟩
        · have : y = 0 := z_b_inj (y1.trans z_b0.symm)
          subst this
          refine hK _ _ _ _ ⟨fun h => ?_, fun h => absurd rfl h⟩
          refine hK _ _ _ _ (hK _ _ _ _ (hK _ _ _ _ (?_)))
          refine hK _ _ _ _ ⟨_, wr (q := 0) (L := []) hB4 f4 (fun M5 => K 53 [some (vR 36 0), some (vI x1), some (vI (Int32.ofNat (n + 1))), none] [] M5) (fun M5 hB5 hf5 => ih (n + 1) M5 x1 (by omega) hB5 (Or.inr (Or.inr hf5))), rfl, fun v M5 g => ?_⟩
          obtain ⟨rfl, g⟩ := g
          exact hK _ _ _ _ g
        · refine hK _ _ _ _ ⟨fun h => ?_, fun h => ?_⟩
          · rw [h, z_b0] at y1
            exact absurd y1 (by decide)
          have ha : 2147483648 ≤ z_b (M4.1 36 0 8) := (h_TR (T := zTb) (k := 36) (i := 0) (j := 8) hB4.1.1).1
          have e1 : z_b (M4.1 36 0 8 + 1) = z_b (M4.1 36 0 8) + 1 := by
            rw [z_b_add, z_l1]
            omega
          have hM5 : z_M (zTb, [(36, 8, 8)], []) M4 [] (a_pI M4 36 0 8 (M4.1 36 0 8 + 1)) := h_Mp (h_M0 hB4.1.1) (v := (2147483648, 2147484048)) (by decide) ⟨by show 2147483648 ≤ _; omega, by show _ ≤ 2147484048; omega⟩
          refine hK _ _ _ _ (hK _ _ _ _ (hK _ _ _ _ (hK _ _ _ _ (hK _ _ _ _ (hK _ _ _ _ (hK _ _ _ _ (?_)))))))
          exact ih (n + 1) _ x1 (by omega) (iB_to hB4 hM5 (by decide +kernel) (iB_p hB4.2.1 hM5 rfl rfl)) (Or.inl (by omega))
      refine hK _ _ _ _ ?_
      refine hK _ _ _ _ ⟨_, h_pW hct_skip rfl rfl (show (1 : Nat) ≤ 59 by decide) (h_R trivial) hB.1.1, rfl, fun v M2 g => ?_⟩
      obtain ⟨g1, g2⟩ := g
      have g1 := h_ovN g1
      subst g1
      have hB2 : iB M M2 := iB_to hB g2 (by decide +kernel) (iB_p hB.2.1 g2 rfl rfl)
      have f2 : M2.1 36 0 9 = -1 := (h_un g2 rfl).trans h1
      refine hK _ _ _ _ (hK _ _ _ _ (hK _ _ _ _ ⟨fun h => ?_, fun h => ?_⟩))
      · refine hK _ _ _ _ ?_
        refine hK _ _ _ _ ⟨_, i_bl (show (10 : Nat) ≤ 59 by decide) hB2.1.1 hB2.2.1 f2, rfl, fun v M3 g => ?_⟩
        obtain ⟨rfl, g3, g4⟩ := g
        refine beh M3 (iB_to hB2 g3 (by decide +kernel) g4) (fun z => ?_)
        subst z
        exact absurd rfl h
      · refine hK _ _ _ _ (hK _ _ _ _ (hK _ _ _ _ (?_)))
        refine hK _ _ _ _ ⟨_, wr (q := 0) (L := []) hB2 f2 (fun M5 => K 90 [some (vR 36 0), some (vI x1), some (vI (Int32.ofNat n)), none] [] M5) (fun M5 hB5 hf5 => beh M5 hB5 (fun _ => hf5)), rfl, fun v M5 g => ?_⟩
        obtain ⟨rfl, g⟩ := g
        exact hK _ _ _ _ g
  have cp : ∀ (m j : Nat) (M1 : aM), j + m = 50 → z_M (zTb, [(36, 0, 0), (36, 6, 10), (37, 0, 49), (39, 0, 49)], []) M [] M1 → (∀ u, u < j → M1.1 39 0 u = M.1 37 0 u) → (∀ u, M1.1 37 0 u = M.1 37 0 u) → K 2 [some (vR 36 0), some (vI (Int32.ofNat j)), none, none] [] M1 := by
    intro m
    induction m with
    | zero =>
      intro j M1 hj hM hb hu
      refine hK _ _ _ _ (hK _ _ _ _ (?_))
      refine hK _ _ _ _ ⟨fun h => ?_, fun h => ?_⟩
      · refine hK _ _ _ _ ?_
        refine hK _ _ _ _ ⟨_, h_pG hct_begins rfl rfl (show (1 : Nat) ≤ 59 by decide) (h_R trivial) hM.1, rfl, fun v M2 g => ?_⟩
        obtain ⟨g1, g2⟩ := g
        have g1 := h_ovN g1
        subst g1
        have t2 := g2.2.2 _ (h_gm (n := 589830) (v := (2147483648, 2147483648)) (by decide)) 36 0 6 (by decide) (by decide) rfl
        have hM2 : z_M (zTb, [(36, 0, 0), (36, 6, 10), (37, 0, 49), (39, 0, 49)], []) M [] M2 := h_Mt hM (h_Md g2) (by decide)
        have hB2 : iB M M2 := ⟨hM2, iP_eq ((h_un (h_Md g2) rfl).trans (hu 1)) ((h_un (h_Md g2) rfl).trans (hu 2)) hi.1, fun u h => (h_un (h_Md g2) rfl).trans (hb u (by omega)), Nat.le_antisymm t2.2 t2.1⟩
        refine hK _ _ _ _ ?_
        refine hK _ _ _ _ ⟨_, h_pW hct_skip rfl rfl (show (1 : Nat) ≤ 59 by decide) (h_R trivial) hM2.1, rfl, fun v M3 g => ?_⟩
        obtain ⟨g1, g3⟩ := g
        have g1 := h_ovN g1
        subst g1
        have hB3 : iB M M3 := iB_to hB2 g3 (by decide +kernel) (iB_p hB2.2.1 g3 rfl rfl)
        have fin : ∀ y : Int32, K 50 [some (vR 36 0), some (vI (Int32.ofNat j)), none, none] [vI y] M3 := fun y => hK _ _ _ _ (hK _ _ _ _ (hK _ _ _ _ (lp 13 0 M3 y rfl hB3 (Or.inl (by omega)))))
        refine hK _ _ _ _ (hK _ _ _ _ (hK _ _ _ _ (hK _ _ _ _ (?_))))
        exact hK _ _ _ _ ⟨fun h => hK _ _ _ _ (fin 0), fun h => hK _ _ _ _ (hK _ _ _ _ (fin 1))⟩
      · have := i_lt (n := 50) (by omega) (by decide) h
        omega
    | succ m ih =>
      intro j M1 hj hM hb hu
      refine hK _ _ _ _ (hK _ _ _ _ (?_))
      refine hK _ _ _ _ ⟨fun h => ?_, fun h => ?_⟩
      · have := i_ge (n := 50) (by omega) (by decide) h
        omega
      refine hK _ _ _ _ (hK _ _ _ _ (hK _ _ _ _ (hK _ _ _ _ (hK _ _ _ _ (hK _ _ _ _ (?_))))))
      refine hK _ _ _ _ ⟨i_vp (by decide) (by omega), ?_⟩
      refine hK _ _ _ _ ⟨i_vp (by decide) (by omega), ?_⟩
      rw [hI_cl (by omega), hu j]
      refine hK _ _ _ _ (hK _ _ _ _ ?_)
      have hM2 : z_M (zTb, [(36, 0, 0), (36, 6, 10), (37, 0, 49), (39, 0, 49)], []) M [] (a_pI M1 39 0 j (M.1 37 0 j)) := h_Mps hM (z_w_sub (W := [(36, 0, 0), (36, 6, 10), (37, 0, 49), (39, 0, 49)]) (k := 39) (a := 0) (b := 49) rfl (Nat.zero_le _) (by omega)) (i_cp0 i_c3739 hT (by decide))
      rw [show Int32.ofNat j + 1 = Int32.ofNat (j + 1) from hI_s]
      refine ih (j + 1) _ (by omega) hM2 (fun u h => ?_) (fun u => ?_)
      · by_cases he : u = j
        · subst he
          exact h_pIs
        · rw [i_pI (fun z => he z.2.2)]
          exact hb u (by omega)
      · rw [i_pI (fun z => absurd z.1 (by decide))]
        exact hu u
  refine hK _ _ _ _ (hK _ _ _ _ ?_)
  exact cp 50 0 M rfl (h_M0 hT) (fun u h => by omega) (fun u => rfl)
