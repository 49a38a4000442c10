theorem i_pI {M : aM} {k i j k' i' j' : Nat} {x : Int32} (h : ¬ (k' = k ∧ i' = i ∧ j' = j)) : (a_pI M k i j x).1 k' i' j' = M.1 k' i' j' := if_neg h
theorem h_SZ {M : aM} (hT : z_MT (zTb, [], []) M) : 2147483648 ≤ z_b (M.1 1 0 1) ∧ z_b (M.1 1 0 1) ≤ 2147484048 := h_TR (T := zTb) (k := 1) (i := 0) (j := 1) hT
theorem h_TP {M : aM} (hT : z_MT (zTb, [], []) M) : 2147483648 ≤ z_b (M.1 36 0 6) ∧ z_b (M.1 36 0 6) ≤ 2147484048 := h_TR (T := zTb) (k := 36) (i := 0) (j := 6) hT
theorem h_un {W : zW} {M M' : aM} {k i j : Nat} (h : z_M (zTb, W, []) M [] M') (hw : z_w W k j j = false) : M'.1 k i j = M.1 k i j := (h.2.1 k i j hw).1
/-- Tape.append -/
theorem e_append {nS e : Nat} {M : aM} {a : Int32} (hT : z_MT (zTb, [], []) M) (h4 : z_b (M.1 1 0 1) + 4 ≤ 2147484048) : aC nS (e + 3) 131 [vR 1 0, vI a] M (fun v M' => v = none ∧ z_M (zTb, [(1, 1, 1), (2, 0, 399)], []) M [] M' ∧ z_b (M'.1 1 0 1) = z_b (M.1 1 0 1) + 4) (fun _ _ => False) := by
  refine aC_mk rfl rfl ?_
  intro K hK hF
  have lp : ∀ (j : Nat) (M1 : aM), j ≤ 3 → z_M (zTb, [(1, 1, 1), (2, 0, 399)], []) M [] M1 → z_b (M1.1 1 0 1) + (j + 1) = z_b (M.1 1 0 1) + 4 → K 3 [some (vR 1 0), some (vI a), some (vI (Int32.ofNat (8 * j)))] [] M1 := by
    intro j
    induction j with
    | zero =>
      intro M1 hj hM hs
      obtain ⟨z1, z2⟩ := h_SZ hM.1
      refine hK _ _ _ _ (hK _ _ _ _ ⟨fun h => ?_, fun h => ?_⟩)
      · exact absurd h (by decide)
      refine hK _ _ _ _ (hK _ _ _ _ (hK _ _ _ _ (hK _ _ _ _ (hK _ _ _ _ (hK _ _ _ _ (hK _ _ _ _ (hK _ _ _ _ (hK _ _ _ _ (?_)))))))))
      refine hK _ _ _ _ ⟨_, h_pW hct_X6_put_2_0 rfl rfl (show (1 : Nat) ≤ e + 2 by omega) (h_R (h_I (h_I trivial))) hM.1, rfl, fun v M2 g => ?_⟩
      obtain ⟨g1, g2⟩ := g
      have g1 := h_ovN g1
      subst g1
      have hM2 : z_M (zTb, [(1, 1, 1), (2, 0, 399)], []) M [] M2 := h_Mt hM g2 (by decide)
      have e1 : M2.1 1 0 1 = M1.1 1 0 1 := h_un g2 rfl
      refine hK _ _ _ _ (hK _ _ _ _ (hK _ _ _ _ (hK _ _ _ _ (hK _ _ _ _ (hK _ _ _ _ (hK _ _ _ _ (hK _ _ _ _ (?_))))))))
      have e2 : z_b (M2.1 1 0 1 + 1) = z_b (M1.1 1 0 1) + 1 := by
        rw [e1, z_b_add, z_l1]
        omega
      have hM3 : z_M (zTb, [(1, 1, 1), (2, 0, 399)], []) M [] (a_pI M2 1 0 1 (M2.1 1 0 1 + 1)) := h_Mp hM2 (v := (2147483648, 2147484048)) (by decide) ⟨by show 2147483648 ≤ _; omega, by show _ ≤ 2147484048; omega⟩
      refine hK _ _ _ _ (hK _ _ _ _ ⟨fun h => ?_, fun h => ?_⟩)
      · refine hK _ _ _ _ ⟨rfl, hM3, ?_⟩
        rw [h_pIs]
        omega
      · exact absurd (show Int32.ofNat (8 * 0) + (-8) < 0 by decide) h
    | succ j ih =>
      intro M1 hj hM hs
      obtain ⟨z1, z2⟩ := h_SZ hM.1
      have ej : z_b (Int32.ofNat (8 * (j + 1))) = 8 * (j + 1) + 2147483648 := z_b_ofNat (by omega)
      refine hK _ _ _ _ (hK _ _ _ _ ⟨fun h => ?_, fun h => ?_⟩)
      · exfalso
        have := z_b_ltt.mp h
        rw [ej, z_b0] at this
        omega
      refine hK _ _ _ _ (hK _ _ _ _ (hK _ _ _ _ (hK _ _ _ _ (hK _ _ _ _ (hK _ _ _ _ (hK _ _ _ _ (hK _ _ _ _ (hK _ _ _ _ (?_)))))))))
      refine hK _ _ _ _ ⟨_, h_pW hct_X6_put_2_0 rfl rfl (show (1 : Nat) ≤ e + 2 by omega) (h_R (h_I (h_I trivial))) hM.1, rfl, fun v M2 g => ?_⟩
      obtain ⟨g1, g2⟩ := g
      have g1 := h_ovN g1
      subst g1
      have hM2 : z_M (zTb, [(1, 1, 1), (2, 0, 399)], []) M [] M2 := h_Mt hM g2 (by decide)
      have e1 : M2.1 1 0 1 = M1.1 1 0 1 := h_un g2 rfl
      refine hK _ _ _ _ (hK _ _ _ _ (hK _ _ _ _ (hK _ _ _ _ (hK _ _ _ _ (hK _ _ _ _ (hK _ _ _ _ (hK _ _ _ _ (?_))))))))
      have e2 : z_b (M2.1 1 0 1 + 1) = z_b (M1.1 1 0 1) + 1 := by
        rw [e1, z_b_add, z_l1]
        omega
      have hM3 : z_M (zTb, [(1, 1, 1), (2, 0, 399)], []) M [] (a_pI M2 1 0 1 (M2.1 1 0 1 + 1)) := h_Mp hM2 (v := (2147483648, 2147484048)) (by decide) ⟨by show 2147483648 ≤ _; omega, by show _ ≤ 2147484048; omega⟩
      have e3 : Int32.ofNat (8 * (j + 1)) + (-8) = Int32.ofNat (8 * j) := by
        apply z_b_inj
        rw [z_b_add, ej, z_b_ofNat (by omega), show z_b (-8) = 2147483640 from by decide +kernel]
        omega
      rw [e3]
      refine ih _ (by omega) hM3 ?_
      rw [h_pIs]
      omega
  refine hK _ _ _ _ (hK _ _ _ _ ?_)
  exact lp 3 M (Nat.le_refl _) (h_M0 hT) (by omega)
theorem e_room {nS d : Nat} {M : aM} (hT : z_MT (zTb, [], []) M) : aC nS (d + 1) 130 [vR 1 0, vI 20] M (fun v M' => (v = some (vI 1) ∧ z_b (M.1 1 0 1) ≤ 2147484028 ∨ v = some (vI 0) ∧ 2147484028 < z_b (M.1 1 0 1)) ∧ M = M') (fun _ _ => False) := by
  obtain ⟨h1, h2⟩ := h_SZ hT
  have e1 : z_b (M.1 1 0 1 + 20) = z_b (M.1 1 0 1) + 20 := by
    rw [z_b_add, z_l20]
    omega
  refine aC_mk rfl rfl ?_
  intro K hK hF
  refine hK _ _ _ _ (hK _ _ _ _ (hK _ _ _ _ (hK _ _ _ _ (hK _ _ _ _ (?_)))))
  refine hK _ _ _ _ ⟨fun h => ?_, fun h => ?_⟩
  · have := z_b_ltt.mp h
    rw [e1, z_l400] at this
    exact hK _ _ _ _ (hK _ _ _ _ ⟨Or.inl rfl, Or.inr ⟨rfl, by omega⟩, rfl⟩)
  · have := z_b_le.mp (Int32.not_lt.mp h)
    rw [e1, z_l400] at this
    exact hK _ _ _ _ (hK _ _ _ _ (hK _ _ _ _ ⟨Or.inr rfl, Or.inl ⟨rfl, by omega⟩, rfl⟩))
/-- what feed answers, of how many bytes there were, and how many there are then -/
def e_fd (s : Nat) (v : Option aV) (s' : Nat) : Prop := (2147484028 < s ∧ v = some (vI (-1)) ∧ s' = s) ∨ (s ≤ 2147484028 ∧ (∃ x, v = some (vI x) ∧ z_b x = s + 20) ∧ s' = s + 20)
theorem e_feedX {nS : Nat} {M : aM} {a b c d e : Int32} (hT : z_MT (zTb, [], []) M) : aC nS 60 150 [vR 0 0, vI a, vI b, vI c, vI d, vI e] M (fun v M' => z_M (zTb, [(1, 1, 1), (2, 0, 399)], []) M [] M' ∧ e_fd (z_b (M.1 1 0 1)) v (z_b (M'.1 1 0 1))) (fun _ _ => False) := by
  refine aC_mk rfl rfl ?_
  intro K hK hF
  refine hK _ _ _ _ (hK _ _ _ _ (hK _ _ _ _ (?_)))
  refine hK _ _ _ _ ⟨_, e_room hT, rfl, fun v0 M0 g => ?_⟩
  obtain ⟨g, rfl⟩ := g
  have hM0 : z_M (zTb, [(1, 1, 1), (2, 0, 399)], []) M [] M := h_M0 hT
  rcases g with ⟨rfl, hs⟩ | ⟨rfl, hs⟩
  case inr => exact hK _ _ _ _ ⟨fun h => absurd rfl h, fun h => hK _ _ _ _ (hK _ _ _ _ ⟨hM0, Or.inl ⟨hs, rfl, rfl⟩⟩)⟩
  refine hK _ _ _ _ ⟨fun h => ?_, fun h => absurd h (by decide)⟩
  refine hK _ _ _ _ (hK _ _ _ _ (hK _ _ _ _ (?_)))
  refine hK _ _ _ _ ⟨_, e_append (e := 56) hM0.1 (by omega), rfl, fun v0 N0 g0 => ?_⟩
  obtain ⟨rfl, q0, s0⟩ := g0
  have hM1 : z_M (zTb, [(1, 1, 1), (2, 0, 399)], []) M [] N0 := h_Mt hM0 q0 (by decide)
  refine hK _ _ _ _ (hK _ _ _ _ (hK _ _ _ _ (?_)))
  refine hK _ _ _ _ ⟨_, e_append (e := 56) hM1.1 (by omega), rfl, fun v1 N1 g1 => ?_⟩
  obtain ⟨rfl, q1, s1⟩ := g1
  have hM2 : z_M (zTb, [(1, 1, 1), (2, 0, 399)], []) M [] N1 := h_Mt hM1 q1 (by decide)
  refine hK _ _ _ _ (hK _ _ _ _ (hK _ _ _ _ (?_)))
  refine hK _ _ _ _ ⟨_, e_append (e := 56) hM2.1 (by omega), rfl, fun v2 N2 g2 => ?_⟩
  obtain ⟨rfl, q2, s2⟩ := g2
  have hM3 : z_M (zTb, [(1, 1, 1), (2, 0, 399)], []) M [] N2 := h_Mt hM2 q2 (by decide)
  refine hK _ _ _ _ (hK _ _ _ _ (hK _ _ _ _ (?_)))
  refine hK _ _ _ _ ⟨_, e_append (e := 56) hM3.1 (by omega), rfl, fun v3 N3 g3 => ?_⟩
  obtain ⟨rfl, q3, s3⟩ := g3
  have hM4 : z_M (zTb, [(1, 1, 1), (2, 0, 399)], []) M [] N3 := h_Mt hM3 q3 (by decide)
  refine hK _ _ _ _ (hK _ _ _ _ (hK _ _ _ _ (?_)))
  refine hK _ _ _ _ ⟨_, e_append (e := 56) hM4.1 (by omega), rfl, fun v4 N4 g4 => ?_⟩
  obtain ⟨rfl, q4, s4⟩ := g4
  have hM5 : z_M (zTb, [(1, 1, 1), (2, 0, 399)], []) M [] N4 := h_Mt hM4 q4 (by decide)
  refine hK _ _ _ _ (hK _ _ _ _ (?_))
  refine hK _ _ _ _ ⟨_, hx_size, rfl, fun v9 M9 g => ?_⟩
  obtain ⟨rfl, rfl⟩ := g
  exact hK _ _ _ _ ⟨hM5, Or.inr ⟨hs, ⟨_, rfl, by omega⟩, by omega⟩⟩
/-- what end answers, of how many bytes there were, and how many there are then -/
def e_ed (n : Int32) (s : Nat) (v : Option aV) (s' : Nat) : Prop := (2147483648 ≤ z_b n ∧ z_b n ≤ s ∧ v = some (vI 1) ∧ s' = z_b n) ∨ (¬ (2147483648 ≤ z_b n ∧ z_b n ≤ s) ∧ v = some (vI 0) ∧ s' = s)
theorem e_cutTo {nS d : Nat} {M : aM} {n : Int32} (hT : z_MT (zTb, [], []) M) : aC nS (d + 1) 132 [vR 1 0, vI n] M (fun v M' => z_M (zTb, [(1, 1, 1)], []) M [] M' ∧ e_ed n (z_b (M.1 1 0 1)) v (z_b (M'.1 1 0 1)) ∧ (v = some (vI 0) ∨ v = some (vI 1))) (fun _ _ => False) := by
  obtain ⟨h1, h2⟩ := h_SZ hT
  refine aC_mk rfl rfl ?_
  intro K hK hF
  refine hK _ _ _ _ (hK _ _ _ _ ⟨fun h => ?_, fun h => ?_⟩)
  · have := z_b_ltt.mp h
    rw [z_b0] at this
    exact hK _ _ _ _ (hK _ _ _ _ ⟨Or.inl rfl, h_M0 hT, Or.inr ⟨by omega, rfl, rfl⟩, Or.inl rfl⟩)
  · have h3 := z_b_le.mp (Int32.not_lt.mp h)
    rw [z_b0] at h3
    refine hK _ _ _ _ (hK _ _ _ _ (hK _ _ _ _ (?_)))
    refine hK _ _ _ _ ⟨fun h => ?_, fun h => ?_⟩
    · have h4 := z_b_le.mp h
      have hM : z_M (zTb, [(1, 1, 1)], []) M [] (a_pI M 1 0 1 n) := h_Mp (h_M0 hT) (v := (2147483648, 2147484048)) (by decide) ⟨h3, by show _ ≤ 2147484048; omega⟩
      exact hK _ _ _ _ (hK _ _ _ _ (hK _ _ _ _ (hK _ _ _ _ (hK _ _ _ _ ⟨Or.inr rfl, hM, Or.inl ⟨h3, h4, rfl, by rw [h_pIs]⟩, Or.inr rfl⟩))))
    · have h4 : ¬ z_b n ≤ z_b (M.1 1 0 1) := fun z => h (z_b_le.mpr z)
      exact hK _ _ _ _ (hK _ _ _ _ ⟨Or.inl rfl, h_M0 hT, Or.inr ⟨by omega, rfl, rfl⟩, Or.inl rfl⟩)
theorem e_endX {nS : Nat} {M : aM} {n : Int32} (hT : z_MT (zTb, [], []) M) : aC nS 60 151 [vR 0 0, vI n] M (fun v M' => z_M (zTb, [(1, 1, 1)], []) M [] M' ∧ e_ed n (z_b (M.1 1 0 1)) v (z_b (M'.1 1 0 1)) ∧ (v = some (vI 0) ∨ v = some (vI 1))) (fun _ _ => False) := by
  refine aC_mk rfl rfl ?_
  intro K hK hF
  refine hK _ _ _ _ (hK _ _ _ _ (hK _ _ _ _ (?_)))
  refine hK _ _ _ _ ⟨_, e_cutTo hT, rfl, fun v M1 g => ?_⟩
  rcases g.2.2 with rfl | rfl
  · exact hK _ _ _ _ ⟨Or.inl rfl, g⟩
  · exact hK _ _ _ _ ⟨Or.inr rfl, g⟩
theorem e_isIn {nS d : Nat} {M : aM} {v lo hi : Int32} : aC nS (d + 1) 178 [vI v, vI lo, vI hi] M (fun r M' => (r = some (vI 1) ∧ lo ≤ v ∧ v ≤ hi ∨ r = some (vI 0) ∧ ¬ (lo ≤ v ∧ v ≤ hi)) ∧ M = M') (fun _ _ => False) := by
  refine aC_mk rfl rfl ?_
  intro K hK hF
  refine hK _ _ _ _ (hK _ _ _ _ (hK _ _ _ _ ⟨fun h => ?_, fun h => ?_⟩))
  · exact hK _ _ _ _ (hK _ _ _ _ ⟨Or.inl rfl, Or.inr ⟨rfl, fun z => absurd z.1 (Int32.not_le.mpr h)⟩, rfl⟩)
  · refine hK _ _ _ _ (hK _ _ _ _ (hK _ _ _ _ ⟨fun h2 => ?_, fun h2 => ?_⟩))
    · exact hK _ _ _ _ (hK _ _ _ _ ⟨Or.inl rfl, Or.inr ⟨rfl, fun z => absurd z.2 (Int32.not_le.mpr h2)⟩, rfl⟩)
    · exact hK _ _ _ _ (hK _ _ _ _ (hK _ _ _ _ ⟨Or.inr rfl, Or.inl ⟨rfl, Int32.not_lt.mp h, Int32.not_lt.mp h2⟩, rfl⟩))
theorem e_endM {nS : Nat} {M : aM} {n : Int32} (hT : z_MT (zTb, [], []) M) : aC nS 60 201 [vR 36 0, vI n] M (fun v M' => z_M (zTb, [(36, 0, 0), (36, 6, 6)], []) M [] M' ∧ e_ed n (z_b (M.1 36 0 6)) v (z_b (M'.1 36 0 6))) (fun _ _ => False) := by
  obtain ⟨h1, h2⟩ := h_TP hT
  have hM0 : z_M (zTb, [(36, 0, 0), (36, 6, 6)], []) M [] (a_pI M 36 0 0 0) := h_Mp (h_M0 hT) (by decide) (z_i_top _)
  have e0 : (a_pI M 36 0 0 0).1 36 0 6 = M.1 36 0 6 := i_pI (fun z => absurd z.2.2 (by decide))
  refine aC_mk rfl rfl ?_
  intro K hK hF
  refine hK _ _ _ _ (hK _ _ _ _ (hK _ _ _ _ (hK _ _ _ _ (hK _ _ _ _ (hK _ _ _ _ (hK _ _ _ _ (?_)))))))
  refine hK _ _ _ _ ⟨_, e_isIn, rfl, fun v M1 g => ?_⟩
  obtain ⟨g, rfl⟩ := g
  rcases g with ⟨rfl, g3, g4⟩ | ⟨rfl, g3⟩
  · refine hK _ _ _ _ ⟨fun h => ?_, fun h => absurd h (by decide)⟩
    have h3 := z_b_le.mp g3
    have h4 := z_b_le.mp g4
    rw [z_b0] at h3
    rw [e0] at h4
    have hM : z_M (zTb, [(36, 0, 0), (36, 6, 6)], []) M [] (a_pI (a_pI M 36 0 0 0) 36 0 6 n) := h_Mp hM0 (v := (2147483648, 2147484048)) (by decide) ⟨h3, by show _ ≤ 2147484048; omega⟩
    exact hK _ _ _ _ (hK _ _ _ _ (hK _ _ _ _ (hK _ _ _ _ (hK _ _ _ _ ⟨Or.inr rfl, hM, Or.inl ⟨h3, h4, rfl, by rw [h_pIs]⟩⟩))))
  · refine hK _ _ _ _ ⟨fun h => absurd rfl h, fun h => ?_⟩
    refine hK _ _ _ _ (hK _ _ _ _ ⟨Or.inl rfl, hM0, Or.inr ⟨fun z => g3 ⟨z_b_le.mpr (by rw [z_b0]; exact z.1), z_b_le.mpr (by rw [e0]; exact z.2)⟩, rfl, by rw [e0]⟩⟩)
theorem e_feedM {nS : Nat} {M : aM} {a b c d e : Int32} (hT : z_MT (zTb, [], []) M) : aC nS 60 200 [vR 36 0, vI a, vI b, vI c, vI d, vI e] M (fun v M' => z_M (zTb, [(36, 0, 0), (36, 6, 6), (40, 0, 399)], []) M [] M' ∧ e_fd (z_b (M.1 36 0 6)) v (z_b (M'.1 36 0 6))) (fun _ _ => False) := by
  obtain ⟨h1, h2⟩ := h_TP hT
  have hM0 : z_M (zTb, [(36, 0, 0), (36, 6, 6), (40, 0, 399)], []) M [] (a_pI M 36 0 0 0) := h_Mp (h_M0 hT) (by decide) (z_i_top _)
  have e0 : (a_pI M 36 0 0 0).1 36 0 6 = M.1 36 0 6 := i_pI (fun z => absurd z.2.2 (by decide))
  have e1 : z_b (M.1 36 0 6 + 20) = z_b (M.1 36 0 6) + 20 := by
    rw [z_b_add, z_l20]
    omega
  refine aC_mk rfl rfl ?_
  intro K hK hF
  refine hK _ _ _ _ (hK _ _ _ _ (hK _ _ _ _ (hK _ _ _ _ (hK _ _ _ _ (hK _ _ _ _ (hK _ _ _ _ (hK _ _ _ _ (?_))))))))
  refine hK _ _ _ _ ⟨fun h => ?_, fun h => ?_⟩
  case refine_2 =>
    have h3 := z_b_ltt.mp (Int32.not_le.mp h)
    rw [e0, e1, z_l400] at h3
    exact hK _ _ _ _ (hK _ _ _ _ ⟨hM0, Or.inl ⟨by omega, rfl, by rw [e0]⟩⟩)
  have h3 := z_b_le.mp h
  rw [e0, e1, z_l400] at h3
  have lp : ∀ (m k : Nat) (M1 : aM) (x7 : Option aV), k + m = 20 → z_M (zTb, [(36, 0, 0), (36, 6, 6), (40, 0, 399)], []) M [] M1 → z_b (M1.1 36 0 6) = z_b (M.1 36 0 6) + k → K 23 [some (vR 36 0), some (vI a), some (vI b), some (vI c), some (vI d), some (vI e), some (vI (Int32.ofNat k)), x7] [] M1 := by
    intro m
    induction m with
    | zero =>
      intro k M1 x7 hk hM hs
      refine hK _ _ _ _ (hK _ _ _ _ (hK _ _ _ _ ⟨fun h => ?_, fun h => ?_⟩))
      · exact hK _ _ _ _ (hK _ _ _ _ (hK _ _ _ _ ⟨hM, Or.inr ⟨by omega, ⟨_, rfl, by omega⟩, by omega⟩⟩))
      · exfalso
        have := z_b_ltt.mp (Int32.not_le.mp h)
        rw [z_b_ofNat (by omega), z_l20] at this
        omega
    | succ m ih =>
      intro k M1 x7 hk hM hs
      have ek : z_b (Int32.ofNat k) = k + 2147483648 := z_b_ofNat (by omega)
      have body : ∀ x : Int32, K 76 [some (vR 36 0), some (vI a), some (vI b), some (vI c), some (vI d), some (vI e), some (vI (Int32.ofNat k)), x7] [vI x] M1 := by
        intro x
        refine hK _ _ _ _ (hK _ _ _ _ (hK _ _ _ _ (hK _ _ _ _ (hK _ _ _ _ (hK _ _ _ _ (hK _ _ _ _ (hK _ _ _ _ (hK _ _ _ _ (hK _ _ _ _ (?_))))))))))
        refine hK _ _ _ _ ⟨by decide, ?_⟩
        refine hK _ _ _ _ (hK _ _ _ _ (hK _ _ _ _ (hK _ _ _ _ (hK _ _ _ _ (?_)))))
        refine hK _ _ _ _ ⟨z_vp.mpr ⟨by omega, by omega⟩, ?_⟩
        have hM2 : ∀ y : Int32, z_M (zTb, [(36, 0, 0), (36, 6, 6), (40, 0, 399)], []) M [] (a_pI M1 40 0 (M1.1 36 0 6).toNatClampNeg (y &&& 255)) := by
          intro y
          have hc : (M1.1 36 0 6).toNatClampNeg = z_b (M1.1 36 0 6) - 2147483648 := z_clamp (by omega)
          have hv : z_i (2147483648, 2147483903) (y &&& 255) := z_and1 (by decide) (by decide +kernel)
          have q := z_M_pI (v := (2147483648, 2147483903)) (a := 0) (b := 399) (j := (M1.1 36 0 6).toNatClampNeg) hM (k := 40) (i := 0) (by decide) (Nat.zero_le _) (by omega) hv
          exact ⟨q.1, q.2.1, h_MG0⟩
        refine hK _ _ _ _ (hK _ _ _ _ (hK _ _ _ _ (hK _ _ _ _ (hK _ _ _ _ (hK _ _ _ _ (hK _ _ _ _ (hK _ _ _ _ (?_))))))))
        have e2 : ∀ y : Int32, (a_pI M1 40 0 (M1.1 36 0 6).toNatClampNeg y).1 36 0 6 = M1.1 36 0 6 := fun y => i_pI (fun z => absurd z.1 (by decide))
        have e3 : z_b (M1.1 36 0 6 + 1) = z_b (M1.1 36 0 6) + 1 := by
          rw [z_b_add, z_l1]
          omega
        have e4 : Int32.ofNat k + 1 = Int32.ofNat (k + 1) := hI_s
        rw [e4]
        refine ih (k + 1) _ _ (by omega) (h_Mp (hM2 _) (v := (2147483648, 2147484048)) (by decide) ?_) ?_
        · rw [e2]
          exact ⟨by show 2147483648 ≤ _; omega, by show _ ≤ 2147484048; omega⟩
        · rw [h_pIs, e2]
          omega
      refine hK _ _ _ _ (hK _ _ _ _ (hK _ _ _ _ ⟨fun h => ?_, fun h => ?_⟩))
      · exfalso
        have := z_b_le.mp h
        rw [ek, z_l20] at this
        omega
      refine hK _ _ _ _ (hK _ _ _ _ (hK _ _ _ _ ⟨fun h => ?_, fun h => hK _ _ _ _ (hK _ _ _ _ (body _))⟩))
      refine hK _ _ _ _ (hK _ _ _ _ (hK _ _ _ _ ⟨fun h => ?_, fun h => hK _ _ _ _ (hK _ _ _ _ (body _))⟩))
      refine hK _ _ _ _ (hK _ _ _ _ (hK _ _ _ _ ⟨fun h => ?_, fun h => hK _ _ _ _ (hK _ _ _ _ (body _))⟩))
      refine hK _ _ _ _ (hK _ _ _ _ (hK _ _ _ _ ⟨fun h => hK _ _ _ _ (body _), fun h => hK _ _ _ _ (hK _ _ _ _ (body _))⟩))
  refine hK _ _ _ _ (hK _ _ _ _ ?_)
  exact lp 20 0 _ _ rfl hM0 (by rw [e0, Nat.add_zero])
