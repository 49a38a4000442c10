def ct_X7_restsOnce_0 : zCt := (125, [.inr (.inr (24, 0))], [], [], [.inl (some (.inl (0, 4294967295)), [])], 10)
theorem hct_X7_restsOnce_0 : z_ctH zTb ct_X7_restsOnce_0 := z_ct_ok [] z_hds_ok [ct_X2_kins_0, ct_X0_isFlat_0, ct_X0_isClosed_0, ct_X7_commutingPairsOnce_0] [] 8 2 (List.forall_mem_cons.mpr ⟨hct_X2_kins_0, List.forall_mem_cons.mpr ⟨hct_X0_isFlat_0, List.forall_mem_cons.mpr ⟨hct_X0_isClosed_0, List.forall_mem_cons.mpr ⟨hct_X7_commutingPairsOnce_0, fun _ h => absurd h List.not_mem_nil⟩⟩⟩⟩) (by decide +kernel)
def ct_X7_dualOf_0 : zCt := (128, [.inr (.inr (24, 0)), .inl (0, 4294967295)], [], [], [.inl (some (.inl (0, 4294967295)), [])], 5)
theorem hct_X7_dualOf_0 : z_ctH zTb ct_X7_dualOf_0 := z_ct_ok [] z_hds_ok [ct_X2_order_0, ct_X0_weight_0, ct_J6_bitCount_0f7a4] [] 3 2 (List.forall_mem_cons.mpr ⟨hct_X2_order_0, List.forall_mem_cons.mpr ⟨hct_X0_weight_0, List.forall_mem_cons.mpr ⟨hct_J6_bitCount_0f7a4, fun _ h => absurd h List.not_mem_nil⟩⟩⟩) (by decide +kernel)
def ct_X7_ofDuals_0 : zCt := (129, [.inr (.inr (24, 0))], [], [], [.inl (some (.inr (.inl none)), [])], 7)
theorem hct_X7_ofDuals_0 : z_ctH zTb ct_X7_ofDuals_0 := z_ct_ok [] z_hds_ok [ct_X2_order_0, ct_X0_wide_0, ct_X0_high_0, ct_X0_squareAt_0, ct_X0_isHole_0, ct_X7_dualOf_0] [] 5 2 (List.forall_mem_cons.mpr ⟨hct_X2_order_0, List.forall_mem_cons.mpr ⟨hct_X0_wide_0, List.forall_mem_cons.mpr ⟨hct_X0_high_0, List.forall_mem_cons.mpr ⟨hct_X0_squareAt_0, List.forall_mem_cons.mpr ⟨hct_X0_isHole_0, List.forall_mem_cons.mpr ⟨hct_X7_dualOf_0, fun _ h => absurd h List.not_mem_nil⟩⟩⟩⟩⟩⟩) (by decide +kernel)
def ct_X7_ofBody : zCt := (127, [.inr (.inr (24, 0)), .inl (2147483648, 2147483654), .inl (2147483648, 2147483650), .inl (2147483648, 2147483650)], [], [(25, 0, 7), (26, 0, 7), (27, 0, 7)], [.inl (some (.inr (.inl none)), [])], 9)
theorem hct_X7_ofBody : z_ctH zTb ct_X7_ofBody := z_ct_ok [] z_hds_ok [ct_X6_at__25_0, ct_X6_put__27_0, ct_X2_commutators_0, ct_X2_roots_0, ct_X2_order_0, ct_X0_weight_0, ct_X7_begin_0, ct_X7_multiply] [] 7 2 (List.forall_mem_cons.mpr ⟨hct_X6_at__25_0, List.forall_mem_cons.mpr ⟨hct_X6_put__27_0, List.forall_mem_cons.mpr ⟨hct_X2_commutators_0, List.forall_mem_cons.mpr ⟨hct_X2_roots_0, List.forall_mem_cons.mpr ⟨hct_X2_order_0, List.forall_mem_cons.mpr ⟨hct_X0_weight_0, List.forall_mem_cons.mpr ⟨hct_X7_begin_0, List.forall_mem_cons.mpr ⟨hct_X7_multiply, fun _ h => absurd h List.not_mem_nil⟩⟩⟩⟩⟩⟩⟩⟩) (by decide +kernel)
def ct_X4_turnOf_0 : zCt := (88, [.inr (.inr (28, 0)), .inl (0, 4294967295)], [], [], [.inl (some (.inl (0, 4294967295)), [])], 3)
theorem hct_X4_turnOf_0 : z_ctH zTb ct_X4_turnOf_0 := z_ct_ok [] z_hds_ok [ct_X6_at_31_0, ct_X6_at_32_0] [] 1 2 (List.forall_mem_cons.mpr ⟨hct_X6_at_31_0, List.forall_mem_cons.mpr ⟨hct_X6_at_32_0, fun _ h => absurd h List.not_mem_nil⟩⟩) (by decide +kernel)
def ct_X4_comesRound_0 : zCt := (87, [.inr (.inr (28, 0)), .inl (0, 4294967295)], [], [], [.inl (some (.inl (0, 4294967295)), [])], 5)
theorem hct_X4_comesRound_0 : z_ctH zTb ct_X4_comesRound_0 := z_ct_ok [] z_hds_ok [ct_X2_times_0, ct_X2_against_0, ct_X4_turnOf_0] [] 3 2 (List.forall_mem_cons.mpr ⟨hct_X2_times_0, List.forall_mem_cons.mpr ⟨hct_X2_against_0, List.forall_mem_cons.mpr ⟨hct_X4_turnOf_0, fun _ h => absurd h List.not_mem_nil⟩⟩⟩) (by decide +kernel)
def ct_X4_findLevels : zCt := (82, [.inr (.inr (28, 0))], [], [(28, 2, 2), (29, 0, 31), (30, 0, 31), (31, 0, 31)], [.inl (none, [(458754, (2147483648, 2147483680))])], 5)
theorem hct_X4_findLevels : z_ctH zTb ct_X4_findLevels := z_ct_ok [(28, 2, 2)] z_hds_ok [ct_X6_put_29_0, ct_X6_put_30_0, ct_X6_put_31_0, ct_X0_hasLine_0, ct_X0_isOfTree_0] [] 3 2 (List.forall_mem_cons.mpr ⟨hct_X6_put_29_0, List.forall_mem_cons.mpr ⟨hct_X6_put_30_0, List.forall_mem_cons.mpr ⟨hct_X6_put_31_0, List.forall_mem_cons.mpr ⟨hct_X0_hasLine_0, List.forall_mem_cons.mpr ⟨hct_X0_isOfTree_0, fun _ h => absurd h List.not_mem_nil⟩⟩⟩⟩⟩) (by decide +kernel)
def ct_X4_findSquare : zCt := (84, [.inr (.inr (28, 0)), .inl (2147483648, 2147483658)], [], [(32, 0, 15), (33, 0, 3), (34, 0, 31)], [.inl (none, [])], 9)
theorem hct_X4_findSquare : z_ctH zTb ct_X4_findSquare := z_ct_ok [] z_hds_ok [ct_X6_at_30_0, ct_X6_put_32_0, ct_X6_put_33_0, ct_X6_put_34_0, ct_X2_order_0, ct_X0_sideOf_0, ct_X0_weightIn_0] [] 7 2 (List.forall_mem_cons.mpr ⟨hct_X6_at_30_0, List.forall_mem_cons.mpr ⟨hct_X6_put_32_0, List.forall_mem_cons.mpr ⟨hct_X6_put_33_0, List.forall_mem_cons.mpr ⟨hct_X6_put_34_0, List.forall_mem_cons.mpr ⟨hct_X2_order_0, List.forall_mem_cons.mpr ⟨hct_X0_sideOf_0, List.forall_mem_cons.mpr ⟨hct_X0_weightIn_0, fun _ h => absurd h List.not_mem_nil⟩⟩⟩⟩⟩⟩⟩) (by decide +kernel)
def ct_X4_findSquare_a : zCt := (84, [.inr (.inr (28, 0)), .inl (0, 4294967295)], [], [(32, 0, 15), (33, 0, 3), (34, 0, 31)], [.inl (none, [])], 9)
theorem hct_X4_findSquare_a : z_ctH zTb ct_X4_findSquare_a := z_ct_ok [] z_hds_ok [ct_X6_at_30_0, ct_X6_put_32_0, ct_X6_put_33_0, ct_X6_put_34_0, ct_X2_order_0, ct_X0_sideOf_0, ct_X0_weightIn_0] [] 7 2 (List.forall_mem_cons.mpr ⟨hct_X6_at_30_0, List.forall_mem_cons.mpr ⟨hct_X6_put_32_0, List.forall_mem_cons.mpr ⟨hct_X6_put_33_0, List.forall_mem_cons.mpr ⟨hct_X6_put_34_0, List.forall_mem_cons.mpr ⟨hct_X2_order_0, List.forall_mem_cons.mpr ⟨hct_X0_sideOf_0, List.forall_mem_cons.mpr ⟨hct_X0_weightIn_0, fun _ h => absurd h List.not_mem_nil⟩⟩⟩⟩⟩⟩⟩) (by decide +kernel)
def ct_X4_findSquares : zCt := (83, [.inr (.inr (28, 0))], [], [(28, 3, 3), (32, 0, 15), (33, 0, 3), (34, 0, 31)], [.inl (none, [(458755, (2147483649, 2147483657))])], 11)
theorem hct_X4_findSquares : z_ctH zTb ct_X4_findSquares := z_ct_ok [(28, 3, 3)] z_hds_ok [ct_X0_wide_0, ct_X0_high_0, ct_X0_squareAt_0, ct_X4_findSquare_a] [] 9 2 (List.forall_mem_cons.mpr ⟨hct_X0_wide_0, List.forall_mem_cons.mpr ⟨hct_X0_high_0, List.forall_mem_cons.mpr ⟨hct_X0_squareAt_0, List.forall_mem_cons.mpr ⟨hct_X4_findSquare_a, fun _ h => absurd h List.not_mem_nil⟩⟩⟩⟩) (by decide +kernel)
def ct_X4_goOn : zCt := (85, [.inr (.inr (28, 0))], [], [(31, 0, 31)], [.inl (some (.inl (2147483648, 2147483679)), []), .inl (some (.inl (2147483647, 2147483647)), [])], 4)
theorem hct_X4_goOn : z_ctH zTb ct_X4_goOn := z_ct_ok [] z_hds_ok [ct_X6_at_29_0, ct_X6_at_31_0, ct_X6_put_31_0, ct_X2_order_0] [] 2 2 (List.forall_mem_cons.mpr ⟨hct_X6_at_29_0, List.forall_mem_cons.mpr ⟨hct_X6_at_31_0, List.forall_mem_cons.mpr ⟨hct_X6_put_31_0, List.forall_mem_cons.mpr ⟨hct_X2_order_0, fun _ h => absurd h List.not_mem_nil⟩⟩⟩⟩) (by decide +kernel)
def ct_X4_weighFrom : zCt := (86, [.inr (.inr (28, 0)), .inl (2147483648, 2147483679)], [], [(35, 0, 32)], [.inl (none, [])], 7)
theorem hct_X4_weighFrom : z_ctH zTb ct_X4_weighFrom := z_ct_ok [] z_hds_ok [ct_X6_at_33_0, ct_X6_at_34_0, ct_X6_at__35_0, ct_X6_put__35_0, ct_X4_comesRound_0] [] 5 2 (List.forall_mem_cons.mpr ⟨hct_X6_at_33_0, List.forall_mem_cons.mpr ⟨hct_X6_at_34_0, List.forall_mem_cons.mpr ⟨hct_X6_at__35_0, List.forall_mem_cons.mpr ⟨hct_X6_put__35_0, List.forall_mem_cons.mpr ⟨hct_X4_comesRound_0, fun _ h => absurd h List.not_mem_nil⟩⟩⟩⟩⟩) (by decide +kernel)
def ct_X4_ofStates : zCt := (81, [.inr (.inr (28, 0))], [], [(28, 2, 3), (29, 0, 31), (30, 0, 31), (31, 0, 31), (32, 0, 15), (33, 0, 3), (34, 0, 31), (35, 0, 32)], [.inl (some (.inr (.inl none)), [])], 12)
set_option maxRecDepth 10000 in
theorem hct_X4_ofStates : z_ctH zTb ct_X4_ofStates := by
  intro nS d as M hd hS hT hG
  obtain ⟨e, rfl⟩ := h_rk hd
  have h1 := h_S1 (by decide) hS
  subst h1
  show aC nS (e + 11 + 1) 81 _ M _ _
  refine aC_mk rfl rfl ?_
  intro K hK hF
  have lp : ∀ (n : Nat) (M1 : aM) (x1 : Int64) (x3 x4 : Int32), 4294967296 - z_b x4 = n → z_i (2147483647, 2147483679) x3 → z_M (zTb, [(28, 2, 3), (29, 0, 31), (30, 0, 31), (31, 0, 31), (32, 0, 15), (33, 0, 3), (34, 0, 31), (35, 0, 32)], []) M [] M1 → K 24 [some (vR 28 0), some (vL x1), none, some (vI x3), some (vI x4)] [] M1 := by
    intro n
    induction n using Nat.strongRecOn with
    | ind n ih =>
    intro M1 x1 x3 x4 hm hx hM
    have tail : K 66 [some (vR 28 0), some (vL x1), none, some (vI x3), some (vI x4)] [] M1 := hK _ _ _ _ (hK _ _ _ _ ⟨_, _, List.mem_singleton.mpr rfl, trivial, hM⟩)
    refine hK _ _ _ _ (hK _ _ _ _ (?_))
    refine hK _ _ _ _ ⟨fun h => tail, fun h1 => ?_⟩
    refine hK _ _ _ _ (hK _ _ _ _ (?_))
    refine hK _ _ _ _ ⟨fun h => tail, fun h2 => ?_⟩
    have hx2 : z_i (2147483648, 2147483679) x3 := by
      refine ⟨?_, hx.2⟩
      have h3 : ¬ z_b x3 = 2147483647 := fun z => h2 (z_b_inj (z.trans z_b_m1.symm))
      have h4 := hx.1
      dsimp only at h4 ⊢
      omega
    refine hK _ _ _ _ (hK _ _ _ _ (?_))
    refine hK _ _ _ _ ⟨_, h_pW hct_X4_weighFrom rfl rfl (show (7 : Nat) ≤ e + 11 by omega) (h_R (h_Iv hx2 trivial)) hM.1, rfl, fun v M2 g => ?_⟩
    obtain ⟨g1, g2⟩ := g
    have g1 := h_ovN g1
    subst g1
    have hM2 : z_M (zTb, [(28, 2, 3), (29, 0, 31), (30, 0, 31), (31, 0, 31), (32, 0, 15), (33, 0, 3), (34, 0, 31), (35, 0, 32)], []) M [] M2 := h_Mt hM g2 (by decide)
    refine hK _ _ _ _ (hK _ _ _ _ (hK _ _ _ _ (hK _ _ _ _ (hK _ _ _ _ (?_)))))
    refine hK _ _ _ _ ⟨_, h_pW hct_X6_at__35_0 rfl rfl (show (1 : Nat) ≤ e + 11 by omega) (h_R (h_I trivial)) hM2.1, rfl, fun v M3 g => ?_⟩
    obtain ⟨g1, g3⟩ := g
    obtain ⟨y, rfl⟩ := h_ovJ g1
    have hM3 : z_M (zTb, [(28, 2, 3), (29, 0, 31), (30, 0, 31), (31, 0, 31), (32, 0, 15), (33, 0, 3), (34, 0, 31), (35, 0, 32)], []) M [] M3 := h_Mt hM2 g3 (by decide)
    refine hK _ _ _ _ (hK _ _ _ _ (hK _ _ _ _ (?_)))
    refine hK _ _ _ _ ⟨_, h_p2 hct_X4_goOn rfl (show (4 : Nat) ≤ e + 11 by omega) (h_R trivial) hM3.1 h_MG0, rfl, fun v M4 g => ?_⟩
    obtain ⟨y, rfl, g4⟩ := g
    have hy : z_i (2147483647, 2147483679) y ∧ z_M (zTb, [(28, 2, 3), (29, 0, 31), (30, 0, 31), (31, 0, 31), (32, 0, 15), (33, 0, 3), (34, 0, 31), (35, 0, 32)], []) M [] M4 := by
      rcases g4 with ⟨q1, q2⟩ | ⟨q1, q2⟩
      · exact ⟨z_iI_ok (by decide) q1, h_Mt hM3 (h_Md q2) (by decide)⟩
      · exact ⟨z_iI_ok (by decide) q1, h_Mt hM3 (h_Md q2) (by decide)⟩
    refine hK _ _ _ _ (hK _ _ _ _ (hK _ _ _ _ (?_)))
    exact ih _ (v_up hm h1) _ _ _ _ rfl hy.1 hy.2
  refine hK _ _ _ _ (?_)
  refine hK _ _ _ _ ⟨_, h_pW hct_X4_findLevels rfl rfl (show (5 : Nat) ≤ e + 11 by omega) (h_R trivial) hT, rfl, fun v M2 g => ?_⟩
  obtain ⟨g1, g2⟩ := g
  have g1 := h_ovN g1
  subst g1
  have hM2 : z_M (zTb, [(28, 2, 3), (29, 0, 31), (30, 0, 31), (31, 0, 31), (32, 0, 15), (33, 0, 3), (34, 0, 31), (35, 0, 32)], []) M [] M2 := h_Mt (h_M0 hT) g2 (by decide)
  refine hK _ _ _ _ (?_)
  refine hK _ _ _ _ ⟨_, h_pW hct_X4_findSquares rfl rfl (show (11 : Nat) ≤ e + 11 by omega) (h_R trivial) hM2.1, rfl, fun v M3 g => ?_⟩
  obtain ⟨g1, g3⟩ := g
  have g1 := h_ovN g1
  subst g1
  have hM4 : z_M (zTb, [(28, 2, 3), (29, 0, 31), (30, 0, 31), (31, 0, 31), (32, 0, 15), (33, 0, 3), (34, 0, 31), (35, 0, 32)], []) M [] M3 := h_Mt hM2 g3 (by decide)
  refine hK _ _ _ _ (hK _ _ _ _ (hK _ _ _ _ (hK _ _ _ _ (?_))))
  refine hK _ _ _ _ ⟨_, h_pW hct_X6_put__35_0 rfl rfl (show (1 : Nat) ≤ e + 11 by omega) (h_R (h_I ⟨trivial, trivial⟩)) hM4.1, rfl, fun v M4 g => ?_⟩
  obtain ⟨g1, g4⟩ := g
  have g1 := h_ovN g1
  subst g1
  have hM5 : z_M (zTb, [(28, 2, 3), (29, 0, 31), (30, 0, 31), (31, 0, 31), (32, 0, 15), (33, 0, 3), (34, 0, 31), (35, 0, 32)], []) M [] M4 := h_Mt hM4 g4 (by decide)
  refine hK _ _ _ _ (hK _ _ _ _ (hK _ _ _ _ (hK _ _ _ _ (hK _ _ _ _ (hK _ _ _ _ (?_))))))
  exact lp _ _ _ _ _ rfl (by rw [show z_i (2147483647, 2147483679) 0 ↔ _ from Iff.rfl]; unfold z_i; rw [z_b0]; decide) hM5
def ct_X10_board_0 : zCt := (152, [.inr (.inr (0, 0))], [], [(1, 1, 1), (3, 1, 5), (4, 1, 6), (5, 0, 2), (6, 0, 63), (7, 0, 7), (8, 0, 7), (9, 0, 7), (10, 0, 7), (11, 0, 7), (12, 0, 31), (13, 0, 7), (14, 0, 15), (20, 4, 5)], [.inr (.inl (0, [(16385, (2147483648, 2147483648))])), .inr (.inl (1, [(16385, (2147483648, 2147483648))])), .inl (some (.inl (0, 4294967295)), [(16385, (2147483648, 2147483648))])], 16)
theorem hct_X10_board_0 : z_ctH zTb ct_X10_board_0 := z_ct_ok [] z_hds_ok [ct_X0_countText_1, ct_X0_texts_0, ct_X0_copyFrom_1_0, ct_X0_copyFrom_0_1, ct_X8_clearc, ct_X1_read, ct_X3_forget_0] [] 14 2 (List.forall_mem_cons.mpr ⟨hct_X0_countText_1, List.forall_mem_cons.mpr ⟨hct_X0_texts_0, List.forall_mem_cons.mpr ⟨hct_X0_copyFrom_1_0, List.forall_mem_cons.mpr ⟨hct_X0_copyFrom_0_1, List.forall_mem_cons.mpr ⟨hct_X8_clearc, List.forall_mem_cons.mpr ⟨hct_X1_read, List.forall_mem_cons.mpr ⟨hct_X3_forget_0, fun _ h => absurd h List.not_mem_nil⟩⟩⟩⟩⟩⟩⟩) (by decide +kernel)
def ct_X10_fault_0 : zCt := (153, [.inr (.inr (0, 0))], [], [], [.inl (some (.inl (0, 4294967295)), [])], 4)
theorem hct_X10_fault_0 : z_ctH zTb ct_X10_fault_0 := z_ct_ok [] z_hds_ok [ct_X5_wrong_0] [] 2 2 (List.forall_mem_cons.mpr ⟨hct_X5_wrong_0, fun _ h => absurd h List.not_mem_nil⟩) (by decide +kernel)
def ct_X10_by_0 : zCt := (154, [.inr (.inr (0, 0)), .inl (0, 4294967295), .inl (0, 4294967295)], [], [], [.inl (some (.inl (0, 4294967295)), []), .inr (.inl (2, []))], 8)
theorem hct_X10_by_0 : z_ctH zTb ct_X10_by_0 := z_ct_ok [] z_hds_ok [ct_X2_times_0, ct_X2_has_0, ct_X0_group_0] [] 6 2 (List.forall_mem_cons.mpr ⟨hct_X2_times_0, List.forall_mem_cons.mpr ⟨hct_X2_has_0, List.forall_mem_cons.mpr ⟨hct_X0_group_0, fun _ h => absurd h List.not_mem_nil⟩⟩⟩) (by decide +kernel)
def ct_X10_turn_0 : zCt := (155, [.inr (.inr (0, 0)), .inl (0, 4294967295), .inl (0, 4294967295)], [], [], [.inl (some (.inl (0, 4294967295)), []), .inr (.inl (3, [])), .inr (.inl (2, []))], 9)
theorem hct_X10_turn_0 : z_ctH zTb ct_X10_turn_0 := z_ct_ok [] z_hds_ok [ct_X2_against_0, ct_X2_timesToRest_0, ct_X2_kinOf_0, ct_X2_kinSize_0, ct_X2_commutators_0, ct_X2_roots_0, ct_X2_has_0, ct_X0_group_0, ct_X0_weight_0] [] 7 2 (List.forall_mem_cons.mpr ⟨hct_X2_against_0, List.forall_mem_cons.mpr ⟨hct_X2_timesToRest_0, List.forall_mem_cons.mpr ⟨hct_X2_kinOf_0, List.forall_mem_cons.mpr ⟨hct_X2_kinSize_0, List.forall_mem_cons.mpr ⟨hct_X2_commutators_0, List.forall_mem_cons.mpr ⟨hct_X2_roots_0, List.forall_mem_cons.mpr ⟨hct_X2_has_0, List.forall_mem_cons.mpr ⟨hct_X0_group_0, List.forall_mem_cons.mpr ⟨hct_X0_weight_0, fun _ h => absurd h List.not_mem_nil⟩⟩⟩⟩⟩⟩⟩⟩⟩) (by decide +kernel)
def ct_X10_line_0 : zCt := (156, [.inr (.inr (0, 0)), .inl (0, 4294967295), .inl (0, 4294967295), .inl (2147483648, 2147483649)], [], [], [.inr (.inl (2, [])), .inl (some (.inl (0, 4294967295)), [])], 8)
theorem hct_X10_line_0 : z_ctH zTb ct_X10_line_0 := z_ct_ok [] z_hds_ok [ct_X0_lineAt_0, ct_X0_turnOn_0] [] 6 2 (List.forall_mem_cons.mpr ⟨hct_X0_lineAt_0, List.forall_mem_cons.mpr ⟨hct_X0_turnOn_0, fun _ h => absurd h List.not_mem_nil⟩⟩) (by decide +kernel)
def ct_X10_set_0 : zCt := (157, [.inr (.inr (0, 0)), .inl (0, 4294967295), .inl (0, 4294967295), .inl (2147483648, 2147483649), .inl (0, 4294967295)], [], [(12, 0, 31), (20, 4, 5), (21, 0, 19), (22, 0, 19), (23, 0, 19)], [.inl (some (.inl (0, 4294967295)), []), .inr (.inl (2, []))], 9)
theorem hct_X10_set_0 : z_ctH zTb ct_X10_set_0 := z_ct_ok [] z_hds_ok [ct_X2_has_0, ct_X0_group_0, ct_X0_lineAt_0, ct_X0_turnOn_0, ct_X0_putTurn_0, ct_X3_noteLine_0] [] 7 2 (List.forall_mem_cons.mpr ⟨hct_X2_has_0, List.forall_mem_cons.mpr ⟨hct_X0_group_0, List.forall_mem_cons.mpr ⟨hct_X0_lineAt_0, List.forall_mem_cons.mpr ⟨hct_X0_turnOn_0, List.forall_mem_cons.mpr ⟨hct_X0_putTurn_0, List.forall_mem_cons.mpr ⟨hct_X3_noteLine_0, fun _ h => absurd h List.not_mem_nil⟩⟩⟩⟩⟩⟩) (by decide +kernel)
def ct_X10_round_0 : zCt := (158, [.inr (.inr (0, 0)), .inl (0, 4294967295), .inl (0, 4294967295)], [], [], [.inr (.inl (2, [])), .inl (some (.inl (0, 4294967295)), [])], 11)
theorem hct_X10_round_0 : z_ctH zTb ct_X10_round_0 := z_ct_ok [] z_hds_ok [ct_X0_squareAt_0, ct_X0_turnRound_0] [] 9 2 (List.forall_mem_cons.mpr ⟨hct_X0_squareAt_0, List.forall_mem_cons.mpr ⟨hct_X0_turnRound_0, fun _ h => absurd h List.not_mem_nil⟩⟩) (by decide +kernel)
def ct_X10_frame_0 : zCt := (159, [.inr (.inr (0, 0)), .inl (0, 4294967295), .inl (0, 4294967295), .inl (0, 4294967295)], [], [(12, 0, 31), (20, 4, 5), (21, 0, 19), (22, 0, 19), (23, 0, 19)], [.inl (some (.inl (2147483648, 2147483680)), []), .inr (.inl (2, []))], 9)
theorem hct_X10_frame_0 : z_ctH zTb ct_X10_frame_0 := z_ct_ok [] z_hds_ok [ct_X2_against_0, ct_X2_has_0, ct_X0_group_0, ct_X0_cornerAt_0, ct_X0_reframe_0, ct_X3_noteFrame_0] [] 7 2 (List.forall_mem_cons.mpr ⟨hct_X2_against_0, List.forall_mem_cons.mpr ⟨hct_X2_has_0, List.forall_mem_cons.mpr ⟨hct_X0_group_0, List.forall_mem_cons.mpr ⟨hct_X0_cornerAt_0, List.forall_mem_cons.mpr ⟨hct_X0_reframe_0, List.forall_mem_cons.mpr ⟨hct_X3_noteFrame_0, fun _ h => absurd h List.not_mem_nil⟩⟩⟩⟩⟩⟩) (by decide +kernel)
def ct_X10_undo_0 : zCt := (160, [.inr (.inr (0, 0))], [], [(12, 0, 31), (20, 4, 4)], [.inl (some (.inl (2147483648, 2147483649)), [])], 12)
theorem hct_X10_undo_0 : z_ctH zTb ct_X10_undo_0 := z_ct_ok [] z_hds_ok [ct_X3_takeBack_0] [] 10 2 (List.forall_mem_cons.mpr ⟨hct_X3_takeBack_0, fun _ h => absurd h List.not_mem_nil⟩) (by decide +kernel)
def ct_X10_redo_0 : zCt := (161, [.inr (.inr (0, 0))], [], [(12, 0, 31), (20, 4, 4)], [.inl (some (.inl (2147483648, 2147483649)), [])], 12)
theorem hct_X10_redo_0 : z_ctH zTb ct_X10_redo_0 := z_ct_ok [] z_hds_ok [ct_X3_doAgain_0] [] 10 2 (List.forall_mem_cons.mpr ⟨hct_X3_doAgain_0, fun _ h => absurd h List.not_mem_nil⟩) (by decide +kernel)
def ct_X10_walk_0 : zCt := (162, [.inr (.inr (0, 0)), .inl (0, 4294967295)], [], [(1, 1, 1), (3, 1, 5), (17, 2, 6), (18, 0, 15), (19, 0, 15)], [.inr (.inl (0, [(16385, (2147483648, 2147483648))])), .inl (some (.inl (0, 4294967295)), [(16385, (2147483648, 2147483648))]), .inr (.inl (3, [(16385, (2147483648, 2147483648))]))], 16)
theorem hct_X10_walk_0 : z_ctH zTb ct_X10_walk_0 := z_ct_ok [] z_hds_ok [ct_X8_clearc, ct_X9_comesTo_0, ct_X9_length_0, ct_X9_isClosed_0, ct_X9_read_0] [] 14 2 (List.forall_mem_cons.mpr ⟨hct_X8_clearc, List.forall_mem_cons.mpr ⟨hct_X9_comesTo_0, List.forall_mem_cons.mpr ⟨hct_X9_length_0, List.forall_mem_cons.mpr ⟨hct_X9_isClosed_0, List.forall_mem_cons.mpr ⟨hct_X9_read_0, fun _ h => absurd h List.not_mem_nil⟩⟩⟩⟩⟩) (by decide +kernel)
def ct_X10_worth_0 : zCt := (163, [.inr (.inr (0, 0))], [], [], [.inl (some (.inr (.inl none)), [])], 13)
theorem hct_X10_worth_0 : z_ctH zTb ct_X10_worth_0 := z_ct_ok [] z_hds_ok [ct_X0_worthOfTurns_0] [] 11 2 (List.forall_mem_cons.mpr ⟨hct_X0_worthOfTurns_0, fun _ h => absurd h List.not_mem_nil⟩) (by decide +kernel)
def ct_X10_turned_0 : zCt := (164, [.inr (.inr (0, 0))], [], [], [.inl (some (.inl (2147483648, 2147483657)), [])], 13)
theorem hct_X10_turned_0 : z_ctH zTb ct_X10_turned_0 := z_ct_ok [] z_hds_ok [ct_X0_turnedSquares_0] [] 11 2 (List.forall_mem_cons.mpr ⟨hct_X0_turnedSquares_0, fun _ h => absurd h List.not_mem_nil⟩) (by decide +kernel)
def ct_X10_alike_0 : zCt := (165, [.inr (.inr (0, 0))], [], [(15, 0, 15)], [.inr (.inl (4, [])), .inl (some (.inl (2147483648, 2147483649)), [])], 12)
theorem hct_X10_alike_0 : z_ctH zTb ct_X10_alike_0 := z_ct_ok [] z_hds_ok [ct_X0_isReframed] [] 10 2 (List.forall_mem_cons.mpr ⟨hct_X0_isReframed, fun _ h => absurd h List.not_mem_nil⟩) (by decide +kernel)
def ct_X10_sum_0 : zCt := (166, [.inr (.inr (0, 0))], [], [(25, 0, 7), (26, 0, 7), (27, 0, 7)], [.inl (some (.inr (.inl none)), [])], 11)
theorem hct_X10_sum_0 : z_ctH zTb ct_X10_sum_0 := z_ct_ok [] z_hds_ok [ct_X7_ofStates_0] [] 9 2 (List.forall_mem_cons.mpr ⟨hct_X7_ofStates_0, fun _ h => absurd h List.not_mem_nil⟩) (by decide +kernel)
def ct_X10_listed_0 : zCt := (167, [.inr (.inr (0, 0))], [], [(28, 2, 3), (29, 0, 31), (30, 0, 31), (31, 0, 31), (32, 0, 15), (33, 0, 3), (34, 0, 31), (35, 0, 32)], [.inr (.inl (4, [])), .inl (some (.inr (.inl none)), [])], 14)
theorem hct_X10_listed_0 : z_ctH zTb ct_X10_listed_0 := z_ct_ok [] z_hds_ok [ct_X0_squares_0, ct_X4_ofStates] [] 12 2 (List.forall_mem_cons.mpr ⟨hct_X0_squares_0, List.forall_mem_cons.mpr ⟨hct_X4_ofStates, fun _ h => absurd h List.not_mem_nil⟩⟩) (by decide +kernel)
def ct_X10_states_0 : zCt := (168, [.inr (.inr (0, 0)), .inl (0, 4294967295)], [], [(25, 0, 7), (26, 0, 7), (27, 0, 7)], [.inl (some (.inr (.inl none)), [])], 11)
theorem hct_X10_states_0 : z_ctH zTb ct_X10_states_0 := z_ct_ok [] z_hds_ok [ct_X7_statesTurned_0] [] 9 2 (List.forall_mem_cons.mpr ⟨hct_X7_statesTurned_0, fun _ h => absurd h List.not_mem_nil⟩) (by decide +kernel)
def ct_X10_mean_0 : zCt := (169, [.inr (.inr (0, 0)), .inl (0, 4294967295)], [], [(1, 1, 1), (3, 1, 5), (17, 2, 6), (18, 0, 15), (19, 0, 15), (25, 0, 7), (26, 0, 7), (27, 0, 7)], [.inr (.inl (0, [(16385, (2147483648, 2147483648))])), .inl (some (.inr (.inl none)), [(16385, (2147483648, 2147483648))]), .inr (.inl (4, [(16385, (2147483648, 2147483648))])), .inr (.inl (2, [(16385, (2147483648, 2147483648))]))], 16)
theorem hct_X10_mean_0 : z_ctH zTb ct_X10_mean_0 := z_ct_ok [] z_hds_ok [ct_X2_hasKin_0, ct_X0_group_0, ct_X0_isFlat_0, ct_X8_clearc, ct_X9_read_0, ct_X9_isSimple_0, ct_X9_squaresWithin_0, ct_X7_ofWalk_0] [] 14 2 (List.forall_mem_cons.mpr ⟨hct_X2_hasKin_0, List.forall_mem_cons.mpr ⟨hct_X0_group_0, List.forall_mem_cons.mpr ⟨hct_X0_isFlat_0, List.forall_mem_cons.mpr ⟨hct_X8_clearc, List.forall_mem_cons.mpr ⟨hct_X9_read_0, List.forall_mem_cons.mpr ⟨hct_X9_isSimple_0, List.forall_mem_cons.mpr ⟨hct_X9_squaresWithin_0, List.forall_mem_cons.mpr ⟨hct_X7_ofWalk_0, fun _ h => absurd h List.not_mem_nil⟩⟩⟩⟩⟩⟩⟩⟩) (by decide +kernel)
def ct_X10_rests_0 : zCt := (170, [.inr (.inr (0, 0)), .inl (2147483648, 2147483649)], [], [], [.inl (some (.inl (0, 4294967295)), [])], 12)
theorem hct_X10_rests_0 : z_ctH zTb ct_X10_rests_0 := z_ct_ok [] z_hds_ok [ct_X7_restsInAll_0, ct_X7_restsOnce_0] [] 10 2 (List.forall_mem_cons.mpr ⟨hct_X7_restsInAll_0, List.forall_mem_cons.mpr ⟨hct_X7_restsOnce_0, fun _ h => absurd h List.not_mem_nil⟩⟩) (by decide +kernel)
def ct_X10_body_0 : zCt := (171, [.inr (.inr (0, 0)), .inl (0, 4294967295), .inl (0, 4294967295), .inl (0, 4294967295)], [], [(25, 0, 7), (26, 0, 7), (27, 0, 7)], [.inr (.inl (0, [])), .inl (some (.inr (.inl none)), [])], 11)
theorem hct_X10_body_0 : z_ctH zTb ct_X10_body_0 := z_ct_ok [] z_hds_ok [ct_X7_ofBody] [] 9 2 (List.forall_mem_cons.mpr ⟨hct_X7_ofBody, fun _ h => absurd h List.not_mem_nil⟩) (by decide +kernel)
def ct_X10_dual_0 : zCt := (172, [.inr (.inr (0, 0)), .inl (0, 4294967295)], [], [], [.inl (some (.inl (0, 4294967295)), []), .inr (.inl (4, [])), .inr (.inl (2, []))], 8)
theorem hct_X10_dual_0 : z_ctH zTb ct_X10_dual_0 := z_ct_ok [] z_hds_ok [ct_X2_has_0, ct_X2_isOfHalves_0, ct_X0_group_0, ct_X7_dualOf_0] [] 6 2 (List.forall_mem_cons.mpr ⟨hct_X2_has_0, List.forall_mem_cons.mpr ⟨hct_X2_isOfHalves_0, List.forall_mem_cons.mpr ⟨hct_X0_group_0, List.forall_mem_cons.mpr ⟨hct_X7_dualOf_0, fun _ h => absurd h List.not_mem_nil⟩⟩⟩⟩) (by decide +kernel)
def ct_X10_dualSum_0 : zCt := (173, [.inr (.inr (0, 0))], [], [], [.inl (some (.inr (.inl none)), []), .inr (.inl (4, []))], 9)
theorem hct_X10_dualSum_0 : z_ctH zTb ct_X10_dualSum_0 := z_ct_ok [] z_hds_ok [ct_X2_isOfHalves_0, ct_X0_group_0, ct_X0_isClosed_0, ct_X7_ofDuals_0] [] 7 2 (List.forall_mem_cons.mpr ⟨hct_X2_isOfHalves_0, List.forall_mem_cons.mpr ⟨hct_X0_group_0, List.forall_mem_cons.mpr ⟨hct_X0_isClosed_0, List.forall_mem_cons.mpr ⟨hct_X7_ofDuals_0, fun _ h => absurd h List.not_mem_nil⟩⟩⟩⟩) (by decide +kernel)
def ct_X10_draw_0 : zCt := (174, [.inr (.inr (0, 0)), .inl (0, 4294967295)], [], [(12, 0, 31), (20, 4, 5)], [.inr (.inl (4, [])), .inl (some (.inr (.inl none)), [])], 13)
theorem hct_X10_draw_0 : z_ctH zTb ct_X10_draw_0 := z_ct_ok [] z_hds_ok [ct_X0_isFlat_0, ct_X0_weightSum_0, ct_X0_worthOfTurns_0, ct_X0_drawTurns_0, ct_X3_forget_0] [] 11 2 (List.forall_mem_cons.mpr ⟨hct_X0_isFlat_0, List.forall_mem_cons.mpr ⟨hct_X0_weightSum_0, List.forall_mem_cons.mpr ⟨hct_X0_worthOfTurns_0, List.forall_mem_cons.mpr ⟨hct_X0_drawTurns_0, List.forall_mem_cons.mpr ⟨hct_X3_forget_0, fun _ h => absurd h List.not_mem_nil⟩⟩⟩⟩⟩) (by decide +kernel)
def ct_X10_image_0 : zCt := (175, [.inr (.inr (0, 0))], [], [(0, 5, 5), (4, 1, 6), (5, 0, 2), (6, 0, 63), (7, 0, 7), (8, 0, 7), (9, 0, 7), (10, 0, 7), (11, 0, 7), (12, 0, 31), (13, 0, 7), (14, 0, 15)], [.inl (none, [])], 11)
theorem hct_X10_image_0 : z_ctH zTb ct_X10_image_0 := z_ct_ok [] z_hds_ok [ct_X0_copyFrom_2_0] [] 9 2 (List.forall_mem_cons.mpr ⟨hct_X0_copyFrom_2_0, fun _ h => absurd h List.not_mem_nil⟩) (by decide +kernel)
def ct_X10_back_0 : zCt := (176, [.inr (.inr (0, 0))], [], [(4, 1, 6), (5, 0, 2), (6, 0, 63), (7, 0, 7), (8, 0, 7), (9, 0, 7), (10, 0, 7), (11, 0, 7), (12, 0, 31), (13, 0, 7), (14, 0, 15), (20, 4, 5)], [.inl (some (.inl (2147483648, 2147483649)), [])], 11)
theorem hct_X10_back_0 : z_ctH zTb ct_X10_back_0 := z_ct_ok [] z_hds_ok [ct_X0_copyFrom_0_2, ct_X3_forget_0] [] 9 2 (List.forall_mem_cons.mpr ⟨hct_X0_copyFrom_0_2, List.forall_mem_cons.mpr ⟨hct_X3_forget_0, fun _ h => absurd h List.not_mem_nil⟩⟩) (by decide +kernel)
def ct_X10_count_0 : zCt := (177, [.inr (.inr (0, 0)), .inl (0, 4294967295)], [], [], [.inl (some (.inl (0, 4294967295)), [])], 6)
theorem hct_X10_count_0 : z_ctH zTb ct_X10_count_0 := z_ct_ok [] z_hds_ok [ct_X2_commutators_0, ct_X2_kind_0, ct_X2_order_0, ct_X2_kins_0, ct_X0_group_0, ct_X0_wide_0, ct_X0_high_0, ct_X0_shape_0, ct_X0_texts_0, ct_X0_corners_0, ct_X0_lines_0, ct_X0_holes_0, ct_X3_undoable_0, ct_X3_redoable_0] [] 4 2 (List.forall_mem_cons.mpr ⟨hct_X2_commutators_0, List.forall_mem_cons.mpr ⟨hct_X2_kind_0, List.forall_mem_cons.mpr ⟨hct_X2_order_0, List.forall_mem_cons.mpr ⟨hct_X2_kins_0, List.forall_mem_cons.mpr ⟨hct_X0_group_0, List.forall_mem_cons.mpr ⟨hct_X0_wide_0, List.forall_mem_cons.mpr ⟨hct_X0_high_0, List.forall_mem_cons.mpr ⟨hct_X0_shape_0, List.forall_mem_cons.mpr ⟨hct_X0_texts_0, List.forall_mem_cons.mpr ⟨hct_X0_corners_0, List.forall_mem_cons.mpr ⟨hct_X0_lines_0, List.forall_mem_cons.mpr ⟨hct_X0_holes_0, List.forall_mem_cons.mpr ⟨hct_X3_undoable_0, List.forall_mem_cons.mpr ⟨hct_X3_redoable_0, fun _ h => absurd h List.not_mem_nil⟩⟩⟩⟩⟩⟩⟩⟩⟩⟩⟩⟩⟩⟩) (by decide +kernel)
