def ct_X0_startPlaces_2 : zCt := (2, [.inr (.inr (4, 2)), .inl (2147483649, 2147483651), .inl (2147483649, 2147483651), .inl (2147483648, 2147483650)], [], [(4, 1, 3), (4, 5, 6), (12, 0, 31), (14, 0, 15)], [.inl (none, [(73731, (2147483648, 2147483650))])], 3)
theorem hct_X0_startPlaces_2 : z_ctH zTb ct_X0_startPlaces_2 := z_ct_ok [] z_hds_ok [ct_X6_fill_12_2, ct_X6_fill_14_2] [] 1 2 (List.forall_mem_cons.mpr ⟨hct_X6_fill_12_2, List.forall_mem_cons.mpr ⟨hct_X6_fill_14_2, fun _ h => absurd h List.not_mem_nil⟩⟩) (by decide +kernel)
def ct_X0_copyFrom_0_2 : zCt := (0, [.inr (.inr (4, 0)), .inr (.inr (4, 2))], [], [(4, 1, 6), (5, 0, 2), (6, 0, 63), (7, 0, 7), (8, 0, 7), (9, 0, 7), (10, 0, 7), (11, 0, 7), (12, 0, 31), (13, 0, 7), (14, 0, 15)], [.inl (none, [])], 9)
theorem hct_X0_copyFrom_0_2 : z_ctH zTb ct_X0_copyFrom_0_2 := z_ct_ok [] z_hds_ok [ct_X6_copy_12_2_0, ct_X6_copy_13_2_0, ct_X6_copy_14_2_0, ct_X2_become_0, ct_X2_kind_2, ct_X2_order_2] [] 7 2 (List.forall_mem_cons.mpr ⟨hct_X6_copy_12_2_0, List.forall_mem_cons.mpr ⟨hct_X6_copy_13_2_0, List.forall_mem_cons.mpr ⟨hct_X6_copy_14_2_0, List.forall_mem_cons.mpr ⟨hct_X2_become_0, List.forall_mem_cons.mpr ⟨hct_X2_kind_2, List.forall_mem_cons.mpr ⟨hct_X2_order_2, fun _ h => absurd h List.not_mem_nil⟩⟩⟩⟩⟩⟩) (by decide +kernel)
def ct_X0_copyFrom_1_0 : zCt := (0, [.inr (.inr (4, 1)), .inr (.inr (4, 0))], [], [(4, 1, 6), (5, 0, 2), (6, 0, 63), (7, 0, 7), (8, 0, 7), (9, 0, 7), (10, 0, 7), (11, 0, 7), (12, 0, 31), (13, 0, 7), (14, 0, 15)], [.inl (none, [])], 9)
theorem hct_X0_copyFrom_1_0 : z_ctH zTb ct_X0_copyFrom_1_0 := z_ct_ok [] z_hds_ok [ct_X6_copy_12_0_1, ct_X6_copy_13_0_1, ct_X6_copy_14_0_1, ct_X2_become_1, ct_X2_kind_0, ct_X2_order_0] [] 7 2 (List.forall_mem_cons.mpr ⟨hct_X6_copy_12_0_1, List.forall_mem_cons.mpr ⟨hct_X6_copy_13_0_1, List.forall_mem_cons.mpr ⟨hct_X6_copy_14_0_1, List.forall_mem_cons.mpr ⟨hct_X2_become_1, List.forall_mem_cons.mpr ⟨hct_X2_kind_0, List.forall_mem_cons.mpr ⟨hct_X2_order_0, fun _ h => absurd h List.not_mem_nil⟩⟩⟩⟩⟩⟩) (by decide +kernel)
def ct_X0_copyFrom_0_1 : zCt := (0, [.inr (.inr (4, 0)), .inr (.inr (4, 1))], [], [(4, 1, 6), (5, 0, 2), (6, 0, 63), (7, 0, 7), (8, 0, 7), (9, 0, 7), (10, 0, 7), (11, 0, 7), (12, 0, 31), (13, 0, 7), (14, 0, 15)], [.inl (none, [])], 9)
theorem hct_X0_copyFrom_0_1 : z_ctH zTb ct_X0_copyFrom_0_1 := z_ct_ok [] z_hds_ok [ct_X6_copy_12_1_0, ct_X6_copy_13_1_0, ct_X6_copy_14_1_0, ct_X2_become_0, ct_X2_kind_1, ct_X2_order_1] [] 7 2 (List.forall_mem_cons.mpr ⟨hct_X6_copy_12_1_0, List.forall_mem_cons.mpr ⟨hct_X6_copy_13_1_0, List.forall_mem_cons.mpr ⟨hct_X6_copy_14_1_0, List.forall_mem_cons.mpr ⟨hct_X2_become_0, List.forall_mem_cons.mpr ⟨hct_X2_kind_1, List.forall_mem_cons.mpr ⟨hct_X2_order_1, fun _ h => absurd h List.not_mem_nil⟩⟩⟩⟩⟩⟩) (by decide +kernel)
def ct_X0_copyFrom_2_0 : zCt := (0, [.inr (.inr (4, 2)), .inr (.inr (4, 0))], [], [(4, 1, 6), (5, 0, 2), (6, 0, 63), (7, 0, 7), (8, 0, 7), (9, 0, 7), (10, 0, 7), (11, 0, 7), (12, 0, 31), (13, 0, 7), (14, 0, 15)], [.inl (none, [])], 9)
theorem hct_X0_copyFrom_2_0 : z_ctH zTb ct_X0_copyFrom_2_0 := z_ct_ok [] z_hds_ok [ct_X6_copy_12_0_2, ct_X6_copy_13_0_2, ct_X6_copy_14_0_2, ct_X2_become_2, ct_X2_kind_0, ct_X2_order_0] [] 7 2 (List.forall_mem_cons.mpr ⟨hct_X6_copy_12_0_2, List.forall_mem_cons.mpr ⟨hct_X6_copy_13_0_2, List.forall_mem_cons.mpr ⟨hct_X6_copy_14_0_2, List.forall_mem_cons.mpr ⟨hct_X2_become_2, List.forall_mem_cons.mpr ⟨hct_X2_kind_0, List.forall_mem_cons.mpr ⟨hct_X2_order_0, fun _ h => absurd h List.not_mem_nil⟩⟩⟩⟩⟩⟩) (by decide +kernel)
def ct_X0_agrees : zCt := (40, [.inr (.inr (4, 0)), .inl (0, 4294967295), .inr (.inr (4, 2))], [], [], [.inl (some (.inl (2147483648, 2147483649)), [])], 6)
theorem hct_X0_agrees : z_ctH zTb ct_X0_agrees := z_ct_ok [] z_hds_ok [ct_X6_at_15_0, ct_X2_times_0, ct_X0_beginOf_0, ct_X0_endOf_0, ct_X0_turnOn_0, ct_X0_turnOn_2] [] 4 2 (List.forall_mem_cons.mpr ⟨hct_X6_at_15_0, List.forall_mem_cons.mpr ⟨hct_X2_times_0, List.forall_mem_cons.mpr ⟨hct_X0_beginOf_0, List.forall_mem_cons.mpr ⟨hct_X0_endOf_0, List.forall_mem_cons.mpr ⟨hct_X0_turnOn_0, List.forall_mem_cons.mpr ⟨hct_X0_turnOn_2, fun _ h => absurd h List.not_mem_nil⟩⟩⟩⟩⟩⟩) (by decide +kernel)
def ct_X0_isReframedFrom : zCt := (39, [.inr (.inr (4, 0)), .inl (0, 4294967295), .inr (.inr (4, 2))], [], [(15, 0, 15)], [.inl (some (.inl (2147483648, 2147483649)), [])], 8)
theorem hct_X0_isReframedFrom : z_ctH zTb ct_X0_isReframedFrom := z_ct_ok [] z_hds_ok [ct_X6_at_15_0, ct_X6_put_15_0, ct_X2_times_0, ct_X2_against_0, ct_X0_beginOf_0, ct_X0_hasLine_0, ct_X0_endOf_0, ct_X0_isOfTree_0, ct_X0_turnOn_0, ct_X0_turnOn_2, ct_X0_agrees] [] 6 2 (List.forall_mem_cons.mpr ⟨hct_X6_at_15_0, List.forall_mem_cons.mpr ⟨hct_X6_put_15_0, List.forall_mem_cons.mpr ⟨hct_X2_times_0, List.forall_mem_cons.mpr ⟨hct_X2_against_0, List.forall_mem_cons.mpr ⟨hct_X0_beginOf_0, List.forall_mem_cons.mpr ⟨hct_X0_hasLine_0, List.forall_mem_cons.mpr ⟨hct_X0_endOf_0, List.forall_mem_cons.mpr ⟨hct_X0_isOfTree_0, List.forall_mem_cons.mpr ⟨hct_X0_turnOn_0, List.forall_mem_cons.mpr ⟨hct_X0_turnOn_2, List.forall_mem_cons.mpr ⟨hct_X0_agrees, fun _ h => absurd h List.not_mem_nil⟩⟩⟩⟩⟩⟩⟩⟩⟩⟩⟩) (by decide +kernel)
def ct_X0_isReframed : zCt := (38, [.inr (.inr (4, 0)), .inr (.inr (4, 2))], [], [(15, 0, 15)], [.inl (some (.inl (2147483648, 2147483649)), [])], 10)
theorem hct_X0_isReframed : z_ctH zTb ct_X0_isReframed := z_ct_ok [] z_hds_ok [ct_X2_kind_0, ct_X2_kind_2, ct_X2_order_0, ct_X2_order_2, ct_X0_isReframedFrom] [] 8 2 (List.forall_mem_cons.mpr ⟨hct_X2_kind_0, List.forall_mem_cons.mpr ⟨hct_X2_kind_2, List.forall_mem_cons.mpr ⟨hct_X2_order_0, List.forall_mem_cons.mpr ⟨hct_X2_order_2, List.forall_mem_cons.mpr ⟨hct_X0_isReframedFrom, fun _ h => absurd h List.not_mem_nil⟩⟩⟩⟩⟩) (by decide +kernel)
def ct_X0_drawnTurn_0 : zCt := (42, [.inr (.inr (4, 0)), .inl (0, 4294967295), .inl (0, 4294967295)], [], [], [.inl (some (.inl (2147483648, 2147483656)), [])], 7)
theorem hct_X0_drawnTurn_0 : z_ctH zTb ct_X0_drawnTurn_0 := z_ct_ok [] z_hds_ok [ct_X2_order_0, ct_X0_isHole_0, ct_X0_weightIn_0, ct_X0_weightSum_0] [] 5 2 (List.forall_mem_cons.mpr ⟨hct_X2_order_0, List.forall_mem_cons.mpr ⟨hct_X0_isHole_0, List.forall_mem_cons.mpr ⟨hct_X0_weightIn_0, List.forall_mem_cons.mpr ⟨hct_X0_weightSum_0, fun _ h => absurd h List.not_mem_nil⟩⟩⟩⟩) (by decide +kernel)
def ct_X0_drawTurns_0 : zCt := (41, [.inr (.inr (4, 0)), .inl (0, 4294967295)], [], [(12, 0, 31)], [.inl (none, [])], 9)
theorem hct_X0_drawTurns_0 : z_ctH zTb ct_X0_drawTurns_0 := z_ct_ok [] z_hds_ok [ct_X6_fill_12_0, ct_X2_times_0, ct_X2_against_0, ct_X0_squareAt_0, ct_X0_sideOf_0, ct_X0_turnOn_0, ct_X0_putTurn_0, ct_X0_drawnTurn_0] [] 7 2 (List.forall_mem_cons.mpr ⟨hct_X6_fill_12_0, List.forall_mem_cons.mpr ⟨hct_X2_times_0, List.forall_mem_cons.mpr ⟨hct_X2_against_0, List.forall_mem_cons.mpr ⟨hct_X0_squareAt_0, List.forall_mem_cons.mpr ⟨hct_X0_sideOf_0, List.forall_mem_cons.mpr ⟨hct_X0_turnOn_0, List.forall_mem_cons.mpr ⟨hct_X0_putTurn_0, List.forall_mem_cons.mpr ⟨hct_X0_drawnTurn_0, fun _ h => absurd h List.not_mem_nil⟩⟩⟩⟩⟩⟩⟩⟩) (by decide +kernel)
def ct_X8_size_0 : zCt := (134, [.inr (.inr (1, 0))], [], [], [.inl (some (.inl (2147483648, 2147484048)), [])], 2)
theorem hct_X8_size_0 : z_ctH zTb ct_X8_size_0 := z_ct_ok [] z_hds_ok [] [] 0 2 (fun _ h => absurd h List.not_mem_nil) (by decide +kernel)
def ct_X8_byteAt_0 : zCt := (135, [.inr (.inr (1, 0)), .inl (0, 4294967295)], [], [], [.inl (some (.inl (0, 4294967295)), [])], 2)
theorem hct_X8_byteAt_0 : z_ctH zTb ct_X8_byteAt_0 := z_ct_ok [] z_hds_ok [] [] 0 2 (fun _ h => absurd h List.not_mem_nil) (by decide +kernel)
def ct_X8_hasRoom_0 : zCt := (130, [.inr (.inr (1, 0)), .inl (0, 4294967295)], [], [], [.inl (some (.inl (2147483648, 2147483649)), [])], 2)
theorem hct_X8_hasRoom_0 : z_ctH zTb ct_X8_hasRoom_0 := z_ct_ok [] z_hds_ok [] [] 0 2 (fun _ h => absurd h List.not_mem_nil) (by decide +kernel)
def ct_X8_clearc : zCt := (133, [.inr (.inr (1, 0))], [], [(1, 1, 1)], [.inl (none, [(16385, (2147483648, 2147483648))])], 1)
theorem hct_X8_clearc : z_ctH zTb ct_X8_clearc := z_ct_ok [(1, 1, 1)] z_hds_ok [] [] 0 1 (fun _ h => absurd h List.not_mem_nil) (by decide +kernel)
def ct_X5_open_0 : zCt := (89, [.inr (.inr (3, 0))], [], [(3, 1, 1), (3, 5, 5)], [.inl (none, [])], 2)
theorem hct_X5_open_0 : z_ctH zTb ct_X5_open_0 := z_ct_ok [] z_hds_ok [] [] 0 2 (fun _ h => absurd h List.not_mem_nil) (by decide +kernel)
def ct_X5_wrong_0 : zCt := (90, [.inr (.inr (3, 0))], [], [], [.inl (some (.inl (0, 4294967295)), [])], 2)
theorem hct_X5_wrong_0 : z_ctH zTb ct_X5_wrong_0 := z_ct_ok [] z_hds_ok [] [] 0 2 (fun _ h => absurd h List.not_mem_nil) (by decide +kernel)
def ct_X5_begin_0 : zCt := (91, [.inr (.inr (3, 0))], [], [], [.inl (some (.inl (0, 4294967295)), [])], 2)
theorem hct_X5_begin_0 : z_ctH zTb ct_X5_begin_0 := z_ct_ok [] z_hds_ok [] [] 0 2 (fun _ h => absurd h List.not_mem_nil) (by decide +kernel)
def ct_X5_refuse_0 : zCt := (94, [.inr (.inr (3, 0)), .inl (0, 4294967295)], [], [(3, 5, 5)], [.inl (some (.inl (2147483648, 2147483648)), [])], 2)
theorem hct_X5_refuse_0 : z_ctH zTb ct_X5_refuse_0 := z_ct_ok [] z_hds_ok [] [] 0 2 (fun _ h => absurd h List.not_mem_nil) (by decide +kernel)
def ct_X5_refuseLatest_0 : zCt := (95, [.inr (.inr (3, 0))], [], [(3, 5, 5)], [.inl (some (.inl (2147483648, 2147483648)), [])], 4)
theorem hct_X5_refuseLatest_0 : z_ctH zTb ct_X5_refuseLatest_0 := z_ct_ok [] z_hds_ok [ct_X5_refuse_0] [] 2 2 (List.forall_mem_cons.mpr ⟨hct_X5_refuse_0, fun _ h => absurd h List.not_mem_nil⟩) (by decide +kernel)
def ct_X5_hasMore : zCt := (97, [.inr (.inr (3, 0))], [], [(3, 1, 1)], [.inl (some (.inl (2147483648, 2147483649)), [])], 4)
theorem hx_size {nS d : Nat} {M : aM} : aC nS (d + 1) 134 [vR 1 0] M (fun v M' => v = some (vI (M.1 1 0 1)) ∧ M = M') (fun _ _ => False) := by
  refine aC_mk rfl rfl ?_
  intro K hK _
  exact hK _ _ _ _ (hK _ _ _ _ (hK _ _ _ _ ⟨rfl, rfl⟩))
set_option maxRecDepth 10000 in
theorem hct_X5_hasMore : z_ctH zTb ct_X5_hasMore := by
  intro nS d as M hd hS hT hG
  obtain ⟨e, rfl⟩ := h_rk hd
  have h1 := h_S1 (by decide) hS
  subst h1
  show aC nS (e + 3 + 1) 97 _ M _ _
  refine aC_mk rfl rfl ?_
  intro K hK hF
  have lp : ∀ (n : Nat) (M1 : aM), 4294967296 - z_b (M1.1 3 0 1) = n → z_M (zTb, [(3, 1, 1)], []) M [] M1 → K 0 [some (vR 3 0)] [] M1 := by
    intro n
    induction n using Nat.strongRecOn with
    | ind n ih =>
    intro M1 hm hM
    have tail : K 43 [some (vR 3 0)] [] M1 := by
      refine hK _ _ _ _ (hK _ _ _ _ (hK _ _ _ _ (hK _ _ _ _ (?_))))
      refine hK _ _ _ _ ⟨_, hx_size, rfl, fun v M2 g => ?_⟩
      obtain ⟨rfl, rfl⟩ := g
      refine hK _ _ _ _ ⟨fun h => ?_, fun h => ?_⟩
      · exact hK _ _ _ _ (hK _ _ _ _ ⟨Or.inl rfl, _, _, List.mem_singleton.mpr rfl, h_bo (Or.inl rfl), hM⟩)
      · exact hK _ _ _ _ (hK _ _ _ _ (hK _ _ _ _ ⟨Or.inr rfl, _, _, List.mem_singleton.mpr rfl, h_bo (Or.inr rfl), hM⟩))
    refine hK _ _ _ _ (hK _ _ _ _ (hK _ _ _ _ (hK _ _ _ _ (?_))))
    refine hK _ _ _ _ ⟨_, hx_size, rfl, fun v M2 g => ?_⟩
    obtain ⟨rfl, rfl⟩ := g
    refine hK _ _ _ _ ⟨fun h => tail, fun h1 => ?_⟩
    refine hK _ _ _ _ (hK _ _ _ _ (hK _ _ _ _ (hK _ _ _ _ (?_))))
    refine hK _ _ _ _ ⟨_, h_pI hct_X8_byteAt_0 rfl rfl rfl (show (2 : Nat) ≤ e + 3 by omega) (h_R (h_I trivial)) hM.1, rfl, fun v M2 g => ?_⟩
    obtain ⟨⟨y, rfl, -⟩, rfl⟩ := g
    refine hK _ _ _ _ (hK _ _ _ _ ⟨fun h => tail, fun h => ?_⟩)
    refine hK _ _ _ _ (hK _ _ _ _ (hK _ _ _ _ (hK _ _ _ _ (hK _ _ _ _ (hK _ _ _ _ (hK _ _ _ _ (?_)))))))
    have hM3 : z_M (zTb, [(3, 1, 1)], []) M [] (a_pI M1 3 0 1 (M1.1 3 0 1 + 1)) := h_Mp hM (by decide) (z_i_top _)
    refine ih _ ?_ _ rfl hM3
    rw [h_pIs]
    exact v_up hm h1
  exact lp _ M rfl (h_M0 hT)
def ct_X5_passWord : zCt := (100, [.inr (.inr (3, 0))], [], [(3, 1, 2)], [.inl (none, [])], 6)
set_option maxRecDepth 10000 in
theorem hct_X5_passWord : z_ctH zTb ct_X5_passWord := by
  intro nS d as M hd hS hT hG
  obtain ⟨e, rfl⟩ := h_rk hd
  have h1 := h_S1 (by decide) hS
  subst h1
  show aC nS (e + 5 + 1) 100 _ M _ _
  refine aC_mk rfl rfl ?_
  intro K hK hF
  have lp : ∀ (n : Nat) (M1 : aM), 4294967296 - z_b (M1.1 3 0 1) = n → z_M (zTb, [(3, 1, 2)], []) M [] M1 → K 13 [some (vR 3 0)] [] M1 := by
    intro n
    induction n using Nat.strongRecOn with
    | ind n ih =>
    intro M1 hm hM
    have tail : K 72 [some (vR 3 0)] [] M1 := hK _ _ _ _ ⟨_, _, List.mem_singleton.mpr rfl, trivial, hM⟩
    refine hK _ _ _ _ (hK _ _ _ _ (hK _ _ _ _ (hK _ _ _ _ (?_))))
    refine hK _ _ _ _ ⟨_, hx_size, rfl, fun v M2 g => ?_⟩
    obtain ⟨rfl, rfl⟩ := g
    refine hK _ _ _ _ ⟨fun h => tail, fun h1 => ?_⟩
    refine hK _ _ _ _ (hK _ _ _ _ (hK _ _ _ _ (hK _ _ _ _ (?_))))
    refine hK _ _ _ _ ⟨_, h_pI hct_X8_byteAt_0 rfl rfl rfl (show (2 : Nat) ≤ e + 5 by omega) (h_R (h_I trivial)) hM.1, rfl, fun v M2 g => ?_⟩
    obtain ⟨⟨y, rfl, -⟩, rfl⟩ := g
    refine hK _ _ _ _ (hK _ _ _ _ ⟨fun h => tail, fun h => ?_⟩)
    refine hK _ _ _ _ (hK _ _ _ _ (hK _ _ _ _ (hK _ _ _ _ (?_))))
    refine hK _ _ _ _ ⟨_, h_pI hct_X8_byteAt_0 rfl rfl rfl (show (2 : Nat) ≤ e + 5 by omega) (h_R (h_I trivial)) hM.1, rfl, fun v M2 g => ?_⟩
    obtain ⟨⟨y, rfl, -⟩, rfl⟩ := g
    refine hK _ _ _ _ (hK _ _ _ _ ⟨fun h => tail, fun h => ?_⟩)
    refine hK _ _ _ _ (hK _ _ _ _ (hK _ _ _ _ (hK _ _ _ _ (hK _ _ _ _ (hK _ _ _ _ (hK _ _ _ _ (?_)))))))
    have hM3 : z_M (zTb, [(3, 1, 2)], []) M [] (a_pI M1 3 0 1 (M1.1 3 0 1 + 1)) := h_Mp hM (by decide) (z_i_top _)
    refine ih _ ?_ _ rfl hM3
    rw [h_pIs]
    exact v_up hm h1
  refine hK _ _ _ _ ?_
  refine hK _ _ _ _ ⟨_, h_pW hct_X5_hasMore rfl rfl (show (4 : Nat) ≤ e + 5 by omega) (h_R trivial) hT, rfl, fun v M2 g => ?_⟩
  obtain ⟨g1, g2⟩ := g
  obtain ⟨y, rfl, -⟩ := h_ovI g1
  have hM2 : z_M (zTb, [(3, 1, 2)], []) M [] M2 := h_Mt (h_M0 hT) g2 (by decide)
  refine hK _ _ _ _ (hK _ _ _ _ (hK _ _ _ _ (hK _ _ _ _ (hK _ _ _ _ (?_)))))
  have hM3 : z_M (zTb, [(3, 1, 2)], []) M [] (a_pI M2 3 0 2 (M2.1 3 0 1)) := h_Mp hM2 (by decide) (z_i_top _)
  exact lp _ _ rfl hM3
def ct_X5_number_0_3 : zCt := (102, [.inr (.inr (3, 0)), .inl (2147483648, 2147483648), .inl (2147483651, 2147483651)], [], [(3, 1, 2), (3, 5, 5)], [.inl (some (.inl (2147483647, 2147483647)), []), .inl (some (.inl (2147483648, 2147483651)), [])], 6)
set_option maxRecDepth 10000 in
theorem hct_X5_number_0_3 : z_ctH zTb ct_X5_number_0_3 := by
  intro nS d as M hd hS hT hG
  obtain ⟨e, rfl⟩ := h_rk hd
  obtain ⟨xl, xh, rfl, hl, hh⟩ := h_S3 (by decide) hS
  show aC nS (e + 5 + 1) 102 _ M _ _
  refine aC_mk rfl rfl ?_
  intro K hK hF
  have lp : ∀ (n : Nat) (M1 : aM) (x3 : Int32), 4294967296 - z_b (M1.1 3 0 1) = n → z_M (zTb, [(3, 1, 2), (3, 5, 5)], []) M [] M1 → K 15 [some (vR 3 0), some (vI xl), some (vI xh), some (vI x3), none] [] M1 := by
    intro n
    induction n using Nat.strongRecOn with
    | ind n ih =>
    intro M1 x3 hm hM
    have tail : K 94 [some (vR 3 0), some (vI xl), some (vI xh), some (vI x3), none] [] M1 := by
      have bad : ∀ x4, K 127 [some (vR 3 0), some (vI xl), some (vI xh), some (vI x3), some (vI x4)] [] M1 := by
        intro x4
        refine hK _ _ _ _ (hK _ _ _ _ (hK _ _ _ _ (?_)))
        refine hK _ _ _ _ ⟨_, h_pW hct_X5_refuse_0 rfl rfl (show (2 : Nat) ≤ e + 5 by omega) (h_R (h_I trivial)) hM.1, rfl, fun v M2 g => ?_⟩
        obtain ⟨g1, g2⟩ := g
        obtain ⟨y, rfl, -⟩ := h_ovI g1
        exact hK _ _ _ _ (hK _ _ _ _ (hK _ _ _ _ ⟨_, _, List.mem_cons_self, ⟨Nat.le_of_eq z_b_m1.symm, Nat.le_of_eq z_b_m1⟩, h_Mt hM g2 (by decide)⟩))
      refine hK _ _ _ _ (hK _ _ _ _ (hK _ _ _ _ (hK _ _ _ _ (hK _ _ _ _ (hK _ _ _ _ (?_))))))
      refine hK _ _ _ _ (hK _ _ _ _ (?_))
      refine hK _ _ _ _ ⟨fun h => bad _, fun h => ?_⟩
      refine hK _ _ _ _ (hK _ _ _ _ (?_))
      refine hK _ _ _ _ ⟨fun h => bad _, fun h => ?_⟩
      refine hK _ _ _ _ (hK _ _ _ _ (?_))
      refine hK _ _ _ _ ⟨fun h => bad _, fun h3 => ?_⟩
      refine hK _ _ _ _ (hK _ _ _ _ (?_))
      refine hK _ _ _ _ ⟨fun h4 => ?_, fun h => bad _⟩
      refine hK _ _ _ _ (hK _ _ _ _ ⟨_, _, List.mem_cons_of_mem _ (List.mem_singleton.mpr rfl), ⟨?_, ?_⟩, hM⟩)
      · exact Nat.le_trans hl.1 (z_b_le.mp (Int32.not_lt.mp h3))
      · exact Nat.le_trans (z_b_le.mp h4) hh.2
    refine hK _ _ _ _ (hK _ _ _ _ (hK _ _ _ _ (hK _ _ _ _ (?_))))
    refine hK _ _ _ _ ⟨_, hx_size, rfl, fun v M2 g => ?_⟩
    obtain ⟨rfl, rfl⟩ := g
    refine hK _ _ _ _ ⟨fun h => tail, fun h1 => ?_⟩
    refine hK _ _ _ _ (hK _ _ _ _ (hK _ _ _ _ (hK _ _ _ _ (?_))))
    refine hK _ _ _ _ ⟨_, h_pI hct_X8_byteAt_0 rfl rfl rfl (show (2 : Nat) ≤ e + 5 by omega) (h_R (h_I trivial)) hM.1, rfl, fun v M2 g => ?_⟩
    obtain ⟨⟨y, rfl, -⟩, rfl⟩ := g
    refine hK _ _ _ _ (hK _ _ _ _ ⟨fun h => tail, fun h => ?_⟩)
    refine hK _ _ _ _ (hK _ _ _ _ (hK _ _ _ _ (hK _ _ _ _ (?_))))
    refine hK _ _ _ _ ⟨_, h_pI hct_X8_byteAt_0 rfl rfl rfl (show (2 : Nat) ≤ e + 5 by omega) (h_R (h_I trivial)) hM.1, rfl, fun v M2 g => ?_⟩
    obtain ⟨⟨y, rfl, -⟩, rfl⟩ := g
    refine hK _ _ _ _ (hK _ _ _ _ ⟨fun h => tail, fun h => ?_⟩)
    refine hK _ _ _ _ (hK _ _ _ _ (hK _ _ _ _ (hK _ _ _ _ (hK _ _ _ _ (hK _ _ _ _ (hK _ _ _ _ (?_)))))))
    refine hK _ _ _ _ ⟨_, h_pI hct_X8_byteAt_0 rfl rfl rfl (show (2 : Nat) ≤ e + 5 by omega) (h_R (h_I trivial)) hM.1, rfl, fun v M2 g => ?_⟩
    obtain ⟨⟨y, rfl, -⟩, rfl⟩ := g
    refine hK _ _ _ _ (hK _ _ _ _ (hK _ _ _ _ (hK _ _ _ _ (hK _ _ _ _ (hK _ _ _ _ (hK _ _ _ _ (hK _ _ _ _ (hK _ _ _ _ (hK _ _ _ _ (hK _ _ _ _ (?_)))))))))))
    have hM3 : z_M (zTb, [(3, 1, 2), (3, 5, 5)], []) M [] (a_pI M1 3 0 1 (M1.1 3 0 1 + 1)) := h_Mp hM (by decide) (z_i_top _)
    refine ih _ ?_ _ _ rfl hM3
    rw [h_pIs]
    exact v_up hm h1
  refine hK _ _ _ _ ?_
  refine hK _ _ _ _ ⟨_, h_pW hct_X5_hasMore rfl rfl (show (4 : Nat) ≤ e + 5 by omega) (h_R trivial) hT, rfl, fun v M2 g => ?_⟩
  obtain ⟨g1, g2⟩ := g
  obtain ⟨y, rfl, -⟩ := h_ovI g1
  have hM2 : z_M (zTb, [(3, 1, 2), (3, 5, 5)], []) M [] M2 := h_Mt (h_M0 hT) g2 (by decide)
  refine hK _ _ _ _ (hK _ _ _ _ (hK _ _ _ _ (hK _ _ _ _ (hK _ _ _ _ (?_)))))
  have hM3 : z_M (zTb, [(3, 1, 2), (3, 5, 5)], []) M [] (a_pI M2 3 0 2 (M2.1 3 0 1)) := h_Mp hM2 (by decide) (z_i_top _)
  refine hK _ _ _ _ (hK _ _ _ _ (?_))
  exact lp _ _ _ rfl hM3
def ct_X5_number_2_8 : zCt := (102, [.inr (.inr (3, 0)), .inl (2147483650, 2147483650), .inl (2147483656, 2147483656)], [], [(3, 1, 2), (3, 5, 5)], [.inl (some (.inl (2147483647, 2147483647)), []), .inl (some (.inl (2147483650, 2147483656)), [])], 6)
set_option maxRecDepth 10000 in
theorem hct_X5_number_2_8 : z_ctH zTb ct_X5_number_2_8 := by
  intro nS d as M hd hS hT hG
  obtain ⟨e, rfl⟩ := h_rk hd
  obtain ⟨xl, xh, rfl, hl, hh⟩ := h_S3 (by decide) hS
  show aC nS (e + 5 + 1) 102 _ M _ _
  refine aC_mk rfl rfl ?_
  intro K hK hF
  have lp : ∀ (n : Nat) (M1 : aM) (x3 : Int32), 4294967296 - z_b (M1.1 3 0 1) = n → z_M (zTb, [(3, 1, 2), (3, 5, 5)], []) M [] M1 → K 15 [some (vR 3 0), some (vI xl), some (vI xh), some (vI x3), none] [] M1 := by
    intro n
    induction n using Nat.strongRecOn with
    | ind n ih =>
    intro M1 x3 hm hM
    have tail : K 94 [some (vR 3 0), some (vI xl), some (vI xh), some (vI x3), none] [] M1 := by
      have bad : ∀ x4, K 127 [some (vR 3 0), some (vI xl), some (vI xh), some (vI x3), some (vI x4)] [] M1 := by
        intro x4
        refine hK _ _ _ _ (hK _ _ _ _ (hK _ _ _ _ (?_)))
        refine hK _ _ _ _ ⟨_, h_pW hct_X5_refuse_0 rfl rfl (show (2 : Nat) ≤ e + 5 by omega) (h_R (h_I trivial)) hM.1, rfl, fun v M2 g => ?_⟩
        obtain ⟨g1, g2⟩ := g
        obtain ⟨y, rfl, -⟩ := h_ovI g1
        exact hK _ _ _ _ (hK _ _ _ _ (hK _ _ _ _ ⟨_, _, List.mem_cons_self, ⟨Nat.le_of_eq z_b_m1.symm, Nat.le_of_eq z_b_m1⟩, h_Mt hM g2 (by decide)⟩))
      refine hK _ _ _ _ (hK _ _ _ _ (hK _ _ _ _ (hK _ _ _ _ (hK _ _ _ _ (hK _ _ _ _ (?_))))))
      refine hK _ _ _ _ (hK _ _ _ _ (?_))
      refine hK _ _ _ _ ⟨fun h => bad _, fun h => ?_⟩
      refine hK _ _ _ _ (hK _ _ _ _ (?_))
      refine hK _ _ _ _ ⟨fun h => bad _, fun h => ?_⟩
      refine hK _ _ _ _ (hK _ _ _ _ (?_))
      refine hK _ _ _ _ ⟨fun h => bad _, fun h3 => ?_⟩
      refine hK _ _ _ _ (hK _ _ _ _ (?_))
      refine hK _ _ _ _ ⟨fun h4 => ?_, fun h => bad _⟩
      refine hK _ _ _ _ (hK _ _ _ _ ⟨_, _, List.mem_cons_of_mem _ (List.mem_singleton.mpr rfl), ⟨?_, ?_⟩, hM⟩)
      · exact Nat.le_trans hl.1 (z_b_le.mp (Int32.not_lt.mp h3))
      · exact Nat.le_trans (z_b_le.mp h4) hh.2
    refine hK _ _ _ _ (hK _ _ _ _ (hK _ _ _ _ (hK _ _ _ _ (?_))))
    refine hK _ _ _ _ ⟨_, hx_size, rfl, fun v M2 g => ?_⟩
    obtain ⟨rfl, rfl⟩ := g
    refine hK _ _ _ _ ⟨fun h => tail, fun h1 => ?_⟩
    refine hK _ _ _ _ (hK _ _ _ _ (hK _ _ _ _ (hK _ _ _ _ (?_))))
    refine hK _ _ _ _ ⟨_, h_pI hct_X8_byteAt_0 rfl rfl rfl (show (2 : Nat) ≤ e + 5 by omega) (h_R (h_I trivial)) hM.1, rfl, fun v M2 g => ?_⟩
    obtain ⟨⟨y, rfl, -⟩, rfl⟩ := g
    refine hK _ _ _ _ (hK _ _ _ _ ⟨fun h => tail, fun h => ?_⟩)
    refine hK _ _ _ _ (hK _ _ _ _ (hK _ _ _ _ (hK _ _ _ _ (?_))))
    refine hK _ _ _ _ ⟨_, h_pI hct_X8_byteAt_0 rfl rfl rfl (show (2 : Nat) ≤ e + 5 by omega) (h_R (h_I trivial)) hM.1, rfl, fun v M2 g => ?_⟩
    obtain ⟨⟨y, rfl, -⟩, rfl⟩ := g
    refine hK _ _ _ _ (hK _ _ _ _ ⟨fun h => tail, fun h => ?_⟩)
    refine hK _ _ _ _ (hK _ _ _ _ (hK _ _ _ _ (hK _ _ _ _ (hK _ _ _ _ (hK _ _ _ _ (hK _ _ _ _ (?_)))))))
    refine hK _ _ _ _ ⟨_, h_pI hct_X8_byteAt_0 rfl rfl rfl (show (2 : Nat) ≤ e + 5 by omega) (h_R (h_I trivial)) hM.1, rfl, fun v M2 g => ?_⟩
    obtain ⟨⟨y, rfl, -⟩, rfl⟩ := g
    refine hK _ _ _ _ (hK _ _ _ _ (hK _ _ _ _ (hK _ _ _ _ (hK _ _ _ _ (hK _ _ _ _ (hK _ _ _ _ (hK _ _ _ _ (hK _ _ _ _ (hK _ _ _ _ (hK _ _ _ _ (?_)))))))))))
    have hM3 : z_M (zTb, [(3, 1, 2), (3, 5, 5)], []) M [] (a_pI M1 3 0 1 (M1.1 3 0 1 + 1)) := h_Mp hM (by decide) (z_i_top _)
    refine ih _ ?_ _ _ rfl hM3
    rw [h_pIs]
    exact v_up hm h1
  refine hK _ _ _ _ ?_
  refine hK _ _ _ _ ⟨_, h_pW hct_X5_hasMore rfl rfl (show (4 : Nat) ≤ e + 5 by omega) (h_R trivial) hT, rfl, fun v M2 g => ?_⟩
  obtain ⟨g1, g2⟩ := g
  obtain ⟨y, rfl, -⟩ := h_ovI g1
  have hM2 : z_M (zTb, [(3, 1, 2), (3, 5, 5)], []) M [] M2 := h_Mt (h_M0 hT) g2 (by decide)
  refine hK _ _ _ _ (hK _ _ _ _ (hK _ _ _ _ (hK _ _ _ _ (hK _ _ _ _ (?_)))))
  have hM3 : z_M (zTb, [(3, 1, 2), (3, 5, 5)], []) M [] (a_pI M2 3 0 2 (M2.1 3 0 1)) := h_Mp hM2 (by decide) (z_i_top _)
  refine hK _ _ _ _ (hK _ _ _ _ (?_))
  exact lp _ _ _ rfl hM3
def ct_X5_number_1_3 : zCt := (102, [.inr (.inr (3, 0)), .inl (2147483649, 2147483649), .inl (2147483651, 2147483651)], [], [(3, 1, 2), (3, 5, 5)], [.inl (some (.inl (2147483647, 2147483647)), []), .inl (some (.inl (2147483649, 2147483651)), [])], 6)
set_option maxRecDepth 10000 in
theorem hct_X5_number_1_3 : z_ctH zTb ct_X5_number_1_3 := by
  intro nS d as M hd hS hT hG
  obtain ⟨e, rfl⟩ := h_rk hd
  obtain ⟨xl, xh, rfl, hl, hh⟩ := h_S3 (by decide) hS
  show aC nS (e + 5 + 1) 102 _ M _ _
  refine aC_mk rfl rfl ?_
  intro K hK hF
  have lp : ∀ (n : Nat) (M1 : aM) (x3 : Int32), 4294967296 - z_b (M1.1 3 0 1) = n → z_M (zTb, [(3, 1, 2), (3, 5, 5)], []) M [] M1 → K 15 [some (vR 3 0), some (vI xl), some (vI xh), some (vI x3), none] [] M1 := by
    intro n
    induction n using Nat.strongRecOn with
    | ind n ih =>
    intro M1 x3 hm hM
    have tail : K 94 [some (vR 3 0), some (vI xl), some (vI xh), some (vI x3), none] [] M1 := by
      have bad : ∀ x4, K 127 [some (vR 3 0), some (vI xl), some (vI xh), some (vI x3), some (vI x4)] [] M1 := by
        intro x4
        refine hK _ _ _ _ (hK _ _ _ _ (hK _ _ _ _ (?_)))
        refine hK _ _ _ _ ⟨_, h_pW hct_X5_refuse_0 rfl rfl (show (2 : Nat) ≤ e + 5 by omega) (h_R (h_I trivial)) hM.1, rfl, fun v M2 g => ?_⟩
        obtain ⟨g1, g2⟩ := g
        obtain ⟨y, rfl, -⟩ := h_ovI g1
        exact hK _ _ _ _ (hK _ _ _ _ (hK _ _ _ _ ⟨_, _, List.mem_cons_self, ⟨Nat.le_of_eq z_b_m1.symm, Nat.le_of_eq z_b_m1⟩, h_Mt hM g2 (by decide)⟩))
      refine hK _ _ _ _ (hK _ _ _ _ (hK _ _ _ _ (hK _ _ _ _ (hK _ _ _ _ (hK _ _ _ _ (?_))))))
      refine hK _ _ _ _ (hK _ _ _ _ (?_))
      refine hK _ _ _ _ ⟨fun h => bad _, fun h => ?_⟩
      refine hK _ _ _ _ (hK _ _ _ _ (?_))
      refine hK _ _ _ _ ⟨fun h => bad _, fun h => ?_⟩
      refine hK _ _ _ _ (hK _ _ _ _ (?_))
      refine hK _ _ _ _ ⟨fun h => bad _, fun h3 => ?_⟩
      refine hK _ _ _ _ (hK _ _ _ _ (?_))
      refine hK _ _ _ _ ⟨fun h4 => ?_, fun h => bad _⟩
      refine hK _ _ _ _ (hK _ _ _ _ ⟨_, _, List.mem_cons_of_mem _ (List.mem_singleton.mpr rfl), ⟨?_, ?_⟩, hM⟩)
      · exact Nat.le_trans hl.1 (z_b_le.mp (Int32.not_lt.mp h3))
      · exact Nat.le_trans (z_b_le.mp h4) hh.2
    refine hK _ _ _ _ (hK _ _ _ _ (hK _ _ _ _ (hK _ _ _ _ (?_))))
    refine hK _ _ _ _ ⟨_, hx_size, rfl, fun v M2 g => ?_⟩
    obtain ⟨rfl, rfl⟩ := g
    refine hK _ _ _ _ ⟨fun h => tail, fun h1 => ?_⟩
    refine hK _ _ _ _ (hK _ _ _ _ (hK _ _ _ _ (hK _ _ _ _ (?_))))
    refine hK _ _ _ _ ⟨_, h_pI hct_X8_byteAt_0 rfl rfl rfl (show (2 : Nat) ≤ e + 5 by omega) (h_R (h_I trivial)) hM.1, rfl, fun v M2 g => ?_⟩
    obtain ⟨⟨y, rfl, -⟩, rfl⟩ := g
    refine hK _ _ _ _ (hK _ _ _ _ ⟨fun h => tail, fun h => ?_⟩)
    refine hK _ _ _ _ (hK _ _ _ _ (hK _ _ _ _ (hK _ _ _ _ (?_))))
    refine hK _ _ _ _ ⟨_, h_pI hct_X8_byteAt_0 rfl rfl rfl (show (2 : Nat) ≤ e + 5 by omega) (h_R (h_I trivial)) hM.1, rfl, fun v M2 g => ?_⟩
    obtain ⟨⟨y, rfl, -⟩, rfl⟩ := g
    refine hK _ _ _ _ (hK _ _ _ _ ⟨fun h => tail, fun h => ?_⟩)
    refine hK _ _ _ _ (hK _ _ _ _ (hK _ _ _ _ (hK _ _ _ _ (hK _ _ _ _ (hK _ _ _ _ (hK _ _ _ _ (?_)))))))
    refine hK _ _ _ _ ⟨_, h_pI hct_X8_byteAt_0 rfl rfl rfl (show (2 : Nat) ≤ e + 5 by omega) (h_R (h_I trivial)) hM.1, rfl, fun v M2 g => ?_⟩
    obtain ⟨⟨y, rfl, -⟩, rfl⟩ := g
    refine hK _ _ _ _ (hK _ _ _ _ (hK _ _ _ _ (hK _ _ _ _ (hK _ _ _ _ (hK _ _ _ _ (hK _ _ _ _ (hK _ _ _ _ (hK _ _ _ _ (hK _ _ _ _ (hK _ _ _ _ (?_)))))))))))
    have hM3 : z_M (zTb, [(3, 1, 2), (3, 5, 5)], []) M [] (a_pI M1 3 0 1 (M1.1 3 0 1 + 1)) := h_Mp hM (by decide) (z_i_top _)
    refine ih _ ?_ _ _ rfl hM3
    rw [h_pIs]
    exact v_up hm h1
  refine hK _ _ _ _ ?_
  refine hK _ _ _ _ ⟨_, h_pW hct_X5_hasMore rfl rfl (show (4 : Nat) ≤ e + 5 by omega) (h_R trivial) hT, rfl, fun v M2 g => ?_⟩
  obtain ⟨g1, g2⟩ := g
  obtain ⟨y, rfl, -⟩ := h_ovI g1
  have hM2 : z_M (zTb, [(3, 1, 2), (3, 5, 5)], []) M [] M2 := h_Mt (h_M0 hT) g2 (by decide)
  refine hK _ _ _ _ (hK _ _ _ _ (hK _ _ _ _ (hK _ _ _ _ (hK _ _ _ _ (?_)))))
  have hM3 : z_M (zTb, [(3, 1, 2), (3, 5, 5)], []) M [] (a_pI M2 3 0 2 (M2.1 3 0 1)) := h_Mp hM2 (by decide) (z_i_top _)
  refine hK _ _ _ _ (hK _ _ _ _ (?_))
  exact lp _ _ _ rfl hM3
def ct_X5_number_0_2 : zCt := (102, [.inr (.inr (3, 0)), .inl (2147483648, 2147483648), .inl (2147483650, 2147483650)], [], [(3, 1, 2), (3, 5, 5)], [.inl (some (.inl (2147483647, 2147483647)), []), .inl (some (.inl (2147483648, 2147483650)), [])], 6)
set_option maxRecDepth 10000 in
theorem hct_X5_number_0_2 : z_ctH zTb ct_X5_number_0_2 := by
  intro nS d as M hd hS hT hG
  obtain ⟨e, rfl⟩ := h_rk hd
  obtain ⟨xl, xh, rfl, hl, hh⟩ := h_S3 (by decide) hS
  show aC nS (e + 5 + 1) 102 _ M _ _
  refine aC_mk rfl rfl ?_
  intro K hK hF
  have lp : ∀ (n : Nat) (M1 : aM) (x3 : Int32), 4294967296 - z_b (M1.1 3 0 1) = n → z_M (zTb, [(3, 1, 2), (3, 5, 5)], []) M [] M1 → K 15 [some (vR 3 0), some (vI xl), some (vI xh), some (vI x3), none] [] M1 := by
    intro n
    induction n using Nat.strongRecOn with
    | ind n ih =>
    intro M1 x3 hm hM
    have tail : K 94 [some (vR 3 0), some (vI xl), some (vI xh), some (vI x3), none] [] M1 := by
      have bad : ∀ x4, K 127 [some (vR 3 0), some (vI xl), some (vI xh), some (vI x3), some (vI x4)] [] M1 := by
        intro x4
        refine hK _ _ _ _ (hK _ _ _ _ (hK _ _ _ _ (?_)))
        refine hK _ _ _ _ ⟨_, h_pW hct_X5_refuse_0 rfl rfl (show (2 : Nat) ≤ e + 5 by omega) (h_R (h_I trivial)) hM.1, rfl, fun v M2 g => ?_⟩
        obtain ⟨g1, g2⟩ := g
        obtain ⟨y, rfl, -⟩ := h_ovI g1
        exact hK _ _ _ _ (hK _ _ _ _ (hK _ _ _ _ ⟨_, _, List.mem_cons_self, ⟨Nat.le_of_eq z_b_m1.symm, Nat.le_of_eq z_b_m1⟩, h_Mt hM g2 (by decide)⟩))
      refine hK _ _ _ _ (hK _ _ _ _ (hK _ _ _ _ (hK _ _ _ _ (hK _ _ _ _ (hK _ _ _ _ (?_))))))
      refine hK _ _ _ _ (hK _ _ _ _ (?_))
      refine hK _ _ _ _ ⟨fun h => bad _, fun h => ?_⟩
      refine hK _ _ _ _ (hK _ _ _ _ (?_))
      refine hK _ _ _ _ ⟨fun h => bad _, fun h => ?_⟩
      refine hK _ _ _ _ (hK _ _ _ _ (?_))
      refine hK _ _ _ _ ⟨fun h => bad _, fun h3 => ?_⟩
      refine hK _ _ _ _ (hK _ _ _ _ (?_))
      refine hK _ _ _ _ ⟨fun h4 => ?_, fun h => bad _⟩
      refine hK _ _ _ _ (hK _ _ _ _ ⟨_, _, List.mem_cons_of_mem _ (List.mem_singleton.mpr rfl), ⟨?_, ?_⟩, hM⟩)
      · exact Nat.le_trans hl.1 (z_b_le.mp (Int32.not_lt.mp h3))
      · exact Nat.le_trans (z_b_le.mp h4) hh.2
    refine hK _ _ _ _ (hK _ _ _ _ (hK _ _ _ _ (hK _ _ _ _ (?_))))
    refine hK _ _ _ _ ⟨_, hx_size, rfl, fun v M2 g => ?_⟩
    obtain ⟨rfl, rfl⟩ := g
    refine hK _ _ _ _ ⟨fun h => tail, fun h1 => ?_⟩
    refine hK _ _ _ _ (hK _ _ _ _ (hK _ _ _ _ (hK _ _ _ _ (?_))))
    refine hK _ _ _ _ ⟨_, h_pI hct_X8_byteAt_0 rfl rfl rfl (show (2 : Nat) ≤ e + 5 by omega) (h_R (h_I trivial)) hM.1, rfl, fun v M2 g => ?_⟩
    obtain ⟨⟨y, rfl, -⟩, rfl⟩ := g
    refine hK _ _ _ _ (hK _ _ _ _ ⟨fun h => tail, fun h => ?_⟩)
    refine hK _ _ _ _ (hK _ _ _ _ (hK _ _ _ _ (hK _ _ _ _ (?_))))
    refine hK _ _ _ _ ⟨_, h_pI hct_X8_byteAt_0 rfl rfl rfl (show (2 : Nat) ≤ e + 5 by omega) (h_R (h_I trivial)) hM.1, rfl, fun v M2 g => ?_⟩
    obtain ⟨⟨y, rfl, -⟩, rfl⟩ := g
    refine hK _ _ _ _ (hK _ _ _ _ ⟨fun h => tail, fun h => ?_⟩)
    refine hK _ _ _ _ (hK _ _ _ _ (hK _ _ _ _ (hK _ _ _ _ (hK _ _ _ _ (hK _ _ _ _ (hK _ _ _ _ (?_)))))))
    refine hK _ _ _ _ ⟨_, h_pI hct_X8_byteAt_0 rfl rfl rfl (show (2 : Nat) ≤ e + 5 by omega) (h_R (h_I trivial)) hM.1, rfl, fun v M2 g => ?_⟩
    obtain ⟨⟨y, rfl, -⟩, rfl⟩ := g
    refine hK _ _ _ _ (hK _ _ _ _ (hK _ _ _ _ (hK _ _ _ _ (hK _ _ _ _ (hK _ _ _ _ (hK _ _ _ _ (hK _ _ _ _ (hK _ _ _ _ (hK _ _ _ _ (hK _ _ _ _ (?_)))))))))))
    have hM3 : z_M (zTb, [(3, 1, 2), (3, 5, 5)], []) M [] (a_pI M1 3 0 1 (M1.1 3 0 1 + 1)) := h_Mp hM (by decide) (z_i_top _)
    refine ih _ ?_ _ _ rfl hM3
    rw [h_pIs]
    exact v_up hm h1
  refine hK _ _ _ _ ?_
  refine hK _ _ _ _ ⟨_, h_pW hct_X5_hasMore rfl rfl (show (4 : Nat) ≤ e + 5 by omega) (h_R trivial) hT, rfl, fun v M2 g => ?_⟩
  obtain ⟨g1, g2⟩ := g
  obtain ⟨y, rfl, -⟩ := h_ovI g1
  have hM2 : z_M (zTb, [(3, 1, 2), (3, 5, 5)], []) M [] M2 := h_Mt (h_M0 hT) g2 (by decide)
  refine hK _ _ _ _ (hK _ _ _ _ (hK _ _ _ _ (hK _ _ _ _ (hK _ _ _ _ (?_)))))
  have hM3 : z_M (zTb, [(3, 1, 2), (3, 5, 5)], []) M [] (a_pI M2 3 0 2 (M2.1 3 0 1)) := h_Mp hM2 (by decide) (z_i_top _)
  refine hK _ _ _ _ (hK _ _ _ _ (?_))
  exact lp _ _ _ rfl hM3
def ct_X5_number_0_9 : zCt := (102, [.inr (.inr (3, 0)), .inl (2147483648, 2147483648), .inl (2147483657, 2147483657)], [], [(3, 1, 2), (3, 5, 5)], [.inl (some (.inl (2147483647, 2147483647)), []), .inl (some (.inl (2147483648, 2147483657)), [])], 6)
set_option maxRecDepth 10000 in
theorem hct_X5_number_0_9 : z_ctH zTb ct_X5_number_0_9 := by
  intro nS d as M hd hS hT hG
  obtain ⟨e, rfl⟩ := h_rk hd
  obtain ⟨xl, xh, rfl, hl, hh⟩ := h_S3 (by decide) hS
  show aC nS (e + 5 + 1) 102 _ M _ _
  refine aC_mk rfl rfl ?_
  intro K hK hF
  have lp : ∀ (n : Nat) (M1 : aM) (x3 : Int32), 4294967296 - z_b (M1.1 3 0 1) = n → z_M (zTb, [(3, 1, 2), (3, 5, 5)], []) M [] M1 → K 15 [some (vR 3 0), some (vI xl), some (vI xh), some (vI x3), none] [] M1 := by
    intro n
    induction n using Nat.strongRecOn with
    | ind n ih =>
    intro M1 x3 hm hM
    have tail : K 94 [some (vR 3 0), some (vI xl), some (vI xh), some (vI x3), none] [] M1 := by
      have bad : ∀ x4, K 127 [some (vR 3 0), some (vI xl), some (vI xh), some (vI x3), some (vI x4)] [] M1 := by
        intro x4
        refine hK _ _ _ _ (hK _ _ _ _ (hK _ _ _ _ (?_)))
        refine hK _ _ _ _ ⟨_, h_pW hct_X5_refuse_0 rfl rfl (show (2 : Nat) ≤ e + 5 by omega) (h_R (h_I trivial)) hM.1, rfl, fun v M2 g => ?_⟩
        obtain ⟨g1, g2⟩ := g
        obtain ⟨y, rfl, -⟩ := h_ovI g1
        exact hK _ _ _ _ (hK _ _ _ _ (hK _ _ _ _ ⟨_, _, List.mem_cons_self, ⟨Nat.le_of_eq z_b_m1.symm, Nat.le_of_eq z_b_m1⟩, h_Mt hM g2 (by decide)⟩))
      refine hK _ _ _ _ (hK _ _ _ _ (hK _ _ _ _ (hK _ _ _ _ (hK _ _ _ _ (hK _ _ _ _ (?_))))))
      refine hK _ _ _ _ (hK _ _ _ _ (?_))
      refine hK _ _ _ _ ⟨fun h => bad _, fun h => ?_⟩
      refine hK _ _ _ _ (hK _ _ _ _ (?_))
      refine hK _ _ _ _ ⟨fun h => bad _, fun h => ?_⟩
      refine hK _ _ _ _ (hK _ _ _ _ (?_))
      refine hK _ _ _ _ ⟨fun h => bad _, fun h3 => ?_⟩
      refine hK _ _ _ _ (hK _ _ _ _ (?_))
      refine hK _ _ _ _ ⟨fun h4 => ?_, fun h => bad _⟩
      refine hK _ _ _ _ (hK _ _ _ _ ⟨_, _, List.mem_cons_of_mem _ (List.mem_singleton.mpr rfl), ⟨?_, ?_⟩, hM⟩)
      · exact Nat.le_trans hl.1 (z_b_le.mp (Int32.not_lt.mp h3))
      · exact Nat.le_trans (z_b_le.mp h4) hh.2
    refine hK _ _ _ _ (hK _ _ _ _ (hK _ _ _ _ (hK _ _ _ _ (?_))))
    refine hK _ _ _ _ ⟨_, hx_size, rfl, fun v M2 g => ?_⟩
    obtain ⟨rfl, rfl⟩ := g
    refine hK _ _ _ _ ⟨fun h => tail, fun h1 => ?_⟩
    refine hK _ _ _ _ (hK _ _ _ _ (hK _ _ _ _ (hK _ _ _ _ (?_))))
    refine hK _ _ _ _ ⟨_, h_pI hct_X8_byteAt_0 rfl rfl rfl (show (2 : Nat) ≤ e + 5 by omega) (h_R (h_I trivial)) hM.1, rfl, fun v M2 g => ?_⟩
    obtain ⟨⟨y, rfl, -⟩, rfl⟩ := g
    refine hK _ _ _ _ (hK _ _ _ _ ⟨fun h => tail, fun h => ?_⟩)
    refine hK _ _ _ _ (hK _ _ _ _ (hK _ _ _ _ (hK _ _ _ _ (?_))))
    refine hK _ _ _ _ ⟨_, h_pI hct_X8_byteAt_0 rfl rfl rfl (show (2 : Nat) ≤ e + 5 by omega) (h_R (h_I trivial)) hM.1, rfl, fun v M2 g => ?_⟩
    obtain ⟨⟨y, rfl, -⟩, rfl⟩ := g
    refine hK _ _ _ _ (hK _ _ _ _ ⟨fun h => tail, fun h => ?_⟩)
    refine hK _ _ _ _ (hK _ _ _ _ (hK _ _ _ _ (hK _ _ _ _ (hK _ _ _ _ (hK _ _ _ _ (hK _ _ _ _ (?_)))))))
    refine hK _ _ _ _ ⟨_, h_pI hct_X8_byteAt_0 rfl rfl rfl (show (2 : Nat) ≤ e + 5 by omega) (h_R (h_I trivial)) hM.1, rfl, fun v M2 g => ?_⟩
    obtain ⟨⟨y, rfl, -⟩, rfl⟩ := g
    refine hK _ _ _ _ (hK _ _ _ _ (hK _ _ _ _ (hK _ _ _ _ (hK _ _ _ _ (hK _ _ _ _ (hK _ _ _ _ (hK _ _ _ _ (hK _ _ _ _ (hK _ _ _ _ (hK _ _ _ _ (?_)))))))))))
    have hM3 : z_M (zTb, [(3, 1, 2), (3, 5, 5)], []) M [] (a_pI M1 3 0 1 (M1.1 3 0 1 + 1)) := h_Mp hM (by decide) (z_i_top _)
    refine ih _ ?_ _ _ rfl hM3
    rw [h_pIs]
    exact v_up hm h1
  refine hK _ _ _ _ ?_
  refine hK _ _ _ _ ⟨_, h_pW hct_X5_hasMore rfl rfl (show (4 : Nat) ≤ e + 5 by omega) (h_R trivial) hT, rfl, fun v M2 g => ?_⟩
  obtain ⟨g1, g2⟩ := g
  obtain ⟨y, rfl, -⟩ := h_ovI g1
  have hM2 : z_M (zTb, [(3, 1, 2), (3, 5, 5)], []) M [] M2 := h_Mt (h_M0 hT) g2 (by decide)
  refine hK _ _ _ _ (hK _ _ _ _ (hK _ _ _ _ (hK _ _ _ _ (hK _ _ _ _ (?_)))))
  have hM3 : z_M (zTb, [(3, 1, 2), (3, 5, 5)], []) M [] (a_pI M2 3 0 2 (M2.1 3 0 1)) := h_Mp hM2 (by decide) (z_i_top _)
  refine hK _ _ _ _ (hK _ _ _ _ (?_))
  exact lp _ _ _ rfl hM3
def ct_X5_number_1_9 : zCt := (102, [.inr (.inr (3, 0)), .inl (2147483649, 2147483649), .inl (2147483657, 2147483657)], [], [(3, 1, 2), (3, 5, 5)], [.inl (some (.inl (2147483647, 2147483647)), []), .inl (some (.inl (2147483649, 2147483657)), [])], 6)
set_option maxRecDepth 10000 in
theorem hct_X5_number_1_9 : z_ctH zTb ct_X5_number_1_9 := by
  intro nS d as M hd hS hT hG
  obtain ⟨e, rfl⟩ := h_rk hd
  obtain ⟨xl, xh, rfl, hl, hh⟩ := h_S3 (by decide) hS
  show aC nS (e + 5 + 1) 102 _ M _ _
  refine aC_mk rfl rfl ?_
  intro K hK hF
  have lp : ∀ (n : Nat) (M1 : aM) (x3 : Int32), 4294967296 - z_b (M1.1 3 0 1) = n → z_M (zTb, [(3, 1, 2), (3, 5, 5)], []) M [] M1 → K 15 [some (vR 3 0), some (vI xl), some (vI xh), some (vI x3), none] [] M1 := by
    intro n
    induction n using Nat.strongRecOn with
    | ind n ih =>
    intro M1 x3 hm hM
    have tail : K 94 [some (vR 3 0), some (vI xl), some (vI xh), some (vI x3), none] [] M1 := by
      have bad : ∀ x4, K 127 [some (vR 3 0), some (vI xl), some (vI xh), some (vI x3), some (vI x4)] [] M1 := by
        intro x4
        refine hK _ _ _ _ (hK _ _ _ _ (hK _ _ _ _ (?_)))
        refine hK _ _ _ _ ⟨_, h_pW hct_X5_refuse_0 rfl rfl (show (2 : Nat) ≤ e + 5 by omega) (h_R (h_I trivial)) hM.1, rfl, fun v M2 g => ?_⟩
        obtain ⟨g1, g2⟩ := g
        obtain ⟨y, rfl, -⟩ := h_ovI g1
        exact hK _ _ _ _ (hK _ _ _ _ (hK _ _ _ _ ⟨_, _, List.mem_cons_self, ⟨Nat.le_of_eq z_b_m1.symm, Nat.le_of_eq z_b_m1⟩, h_Mt hM g2 (by decide)⟩))
      refine hK _ _ _ _ (hK _ _ _ _ (hK _ _ _ _ (hK _ _ _ _ (hK _ _ _ _ (hK _ _ _ _ (?_))))))
      refine hK _ _ _ _ (hK _ _ _ _ (?_))
      refine hK _ _ _ _ ⟨fun h => bad _, fun h => ?_⟩
      refine hK _ _ _ _ (hK _ _ _ _ (?_))
      refine hK _ _ _ _ ⟨fun h => bad _, fun h => ?_⟩
      refine hK _ _ _ _ (hK _ _ _ _ (?_))
      refine hK _ _ _ _ ⟨fun h => bad _, fun h3 => ?_⟩
      refine hK _ _ _ _ (hK _ _ _ _ (?_))
      refine hK _ _ _ _ ⟨fun h4 => ?_, fun h => bad _⟩
      refine hK _ _ _ _ (hK _ _ _ _ ⟨_, _, List.mem_cons_of_mem _ (List.mem_singleton.mpr rfl), ⟨?_, ?_⟩, hM⟩)
      · exact Nat.le_trans hl.1 (z_b_le.mp (Int32.not_lt.mp h3))
      · exact Nat.le_trans (z_b_le.mp h4) hh.2
    refine hK _ _ _ _ (hK _ _ _ _ (hK _ _ _ _ (hK _ _ _ _ (?_))))
    refine hK _ _ _ _ ⟨_, hx_size, rfl, fun v M2 g => ?_⟩
    obtain ⟨rfl, rfl⟩ := g
    refine hK _ _ _ _ ⟨fun h => tail, fun h1 => ?_⟩
    refine hK _ _ _ _ (hK _ _ _ _ (hK _ _ _ _ (hK _ _ _ _ (?_))))
    refine hK _ _ _ _ ⟨_, h_pI hct_X8_byteAt_0 rfl rfl rfl (show (2 : Nat) ≤ e + 5 by omega) (h_R (h_I trivial)) hM.1, rfl, fun v M2 g => ?_⟩
    obtain ⟨⟨y, rfl, -⟩, rfl⟩ := g
    refine hK _ _ _ _ (hK _ _ _ _ ⟨fun h => tail, fun h => ?_⟩)
    refine hK _ _ _ _ (hK _ _ _ _ (hK _ _ _ _ (hK _ _ _ _ (?_))))
    refine hK _ _ _ _ ⟨_, h_pI hct_X8_byteAt_0 rfl rfl rfl (show (2 : Nat) ≤ e + 5 by omega) (h_R (h_I trivial)) hM.1, rfl, fun v M2 g => ?_⟩
    obtain ⟨⟨y, rfl, -⟩, rfl⟩ := g
    refine hK _ _ _ _ (hK _ _ _ _ ⟨fun h => tail, fun h => ?_⟩)
    refine hK _ _ _ _ (hK _ _ _ _ (hK _ _ _ _ (hK _ _ _ _ (hK _ _ _ _ (hK _ _ _ _ (hK _ _ _ _ (?_)))))))
    refine hK _ _ _ _ ⟨_, h_pI hct_X8_byteAt_0 rfl rfl rfl (show (2 : Nat) ≤ e + 5 by omega) (h_R (h_I trivial)) hM.1, rfl, fun v M2 g => ?_⟩
    obtain ⟨⟨y, rfl, -⟩, rfl⟩ := g
    refine hK _ _ _ _ (hK _ _ _ _ (hK _ _ _ _ (hK _ _ _ _ (hK _ _ _ _ (hK _ _ _ _ (hK _ _ _ _ (hK _ _ _ _ (hK _ _ _ _ (hK _ _ _ _ (hK _ _ _ _ (?_)))))))))))
    have hM3 : z_M (zTb, [(3, 1, 2), (3, 5, 5)], []) M [] (a_pI M1 3 0 1 (M1.1 3 0 1 + 1)) := h_Mp hM (by decide) (z_i_top _)
    refine ih _ ?_ _ _ rfl hM3
    rw [h_pIs]
    exact v_up hm h1
  refine hK _ _ _ _ ?_
  refine hK _ _ _ _ ⟨_, h_pW hct_X5_hasMore rfl rfl (show (4 : Nat) ≤ e + 5 by omega) (h_R trivial) hT, rfl, fun v M2 g => ?_⟩
  obtain ⟨g1, g2⟩ := g
  obtain ⟨y, rfl, -⟩ := h_ovI g1
  have hM2 : z_M (zTb, [(3, 1, 2), (3, 5, 5)], []) M [] M2 := h_Mt (h_M0 hT) g2 (by decide)
  refine hK _ _ _ _ (hK _ _ _ _ (hK _ _ _ _ (hK _ _ _ _ (hK _ _ _ _ (?_)))))
  have hM3 : z_M (zTb, [(3, 1, 2), (3, 5, 5)], []) M [] (a_pI M2 3 0 2 (M2.1 3 0 1)) := h_Mp hM2 (by decide) (z_i_top _)
  refine hK _ _ _ _ (hK _ _ _ _ (?_))
  exact lp _ _ _ rfl hM3
def ct_X5_number_t : zCt := (102, [.inr (.inr (3, 0)), .inl (2147483648, 2147483648), .inl (2147483649, 2147483655)], [], [(3, 1, 2), (3, 5, 5)], [.inl (some (.inl (2147483647, 2147483647)), []), .inl (some (.inl (2147483648, 2147483655)), [])], 6)
set_option maxRecDepth 10000 in
theorem hct_X5_number_t : z_ctH zTb ct_X5_number_t := by
  intro nS d as M hd hS hT hG
  obtain ⟨e, rfl⟩ := h_rk hd
  obtain ⟨xl, xh, rfl, hl, hh⟩ := h_S3 (by decide) hS
  show aC nS (e + 5 + 1) 102 _ M _ _
  refine aC_mk rfl rfl ?_
  intro K hK hF
  have lp : ∀ (n : Nat) (M1 : aM) (x3 : Int32), 4294967296 - z_b (M1.1 3 0 1) = n → z_M (zTb, [(3, 1, 2), (3, 5, 5)], []) M [] M1 → K 15 [some (vR 3 0), some (vI xl), some (vI xh), some (vI x3), none] [] M1 := by
    intro n
    induction n using Nat.strongRecOn with
    | ind n ih =>
    intro M1 x3 hm hM
    have tail : K 94 [some (vR 3 0), some (vI xl), some (vI xh), some (vI x3), none] [] M1 := by
      have bad : ∀ x4, K 127 [some (vR 3 0), some (vI xl), some (vI xh), some (vI x3), some (vI x4)] [] M1 := by
        intro x4
        refine hK _ _ _ _ (hK _ _ _ _ (hK _ _ _ _ (?_)))
        refine hK _ _ _ _ ⟨_, h_pW hct_X5_refuse_0 rfl rfl (show (2 : Nat) ≤ e + 5 by omega) (h_R (h_I trivial)) hM.1, rfl, fun v M2 g => ?_⟩
        obtain ⟨g1, g2⟩ := g
        obtain ⟨y, rfl, -⟩ := h_ovI g1
        exact hK _ _ _ _ (hK _ _ _ _ (hK _ _ _ _ ⟨_, _, List.mem_cons_self, ⟨Nat.le_of_eq z_b_m1.symm, Nat.le_of_eq z_b_m1⟩, h_Mt hM g2 (by decide)⟩))
      refine hK _ _ _ _ (hK _ _ _ _ (hK _ _ _ _ (hK _ _ _ _ (hK _ _ _ _ (hK _ _ _ _ (?_))))))
      refine hK _ _ _ _ (hK _ _ _ _ (?_))
      refine hK _ _ _ _ ⟨fun h => bad _, fun h => ?_⟩
      refine hK _ _ _ _ (hK _ _ _ _ (?_))
      refine hK _ _ _ _ ⟨fun h => bad _, fun h => ?_⟩
      refine hK _ _ _ _ (hK _ _ _ _ (?_))
      refine hK _ _ _ _ ⟨fun h => bad _, fun h3 => ?_⟩
      refine hK _ _ _ _ (hK _ _ _ _ (?_))
      refine hK _ _ _ _ ⟨fun h4 => ?_, fun h => bad _⟩
      refine hK _ _ _ _ (hK _ _ _ _ ⟨_, _, List.mem_cons_of_mem _ (List.mem_singleton.mpr rfl), ⟨?_, ?_⟩, hM⟩)
      · exact Nat.le_trans hl.1 (z_b_le.mp (Int32.not_lt.mp h3))
      · exact Nat.le_trans (z_b_le.mp h4) hh.2
    refine hK _ _ _ _ (hK _ _ _ _ (hK _ _ _ _ (hK _ _ _ _ (?_))))
    refine hK _ _ _ _ ⟨_, hx_size, rfl, fun v M2 g => ?_⟩
    obtain ⟨rfl, rfl⟩ := g
    refine hK _ _ _ _ ⟨fun h => tail, fun h1 => ?_⟩
    refine hK _ _ _ _ (hK _ _ _ _ (hK _ _ _ _ (hK _ _ _ _ (?_))))
    refine hK _ _ _ _ ⟨_, h_pI hct_X8_byteAt_0 rfl rfl rfl (show (2 : Nat) ≤ e + 5 by omega) (h_R (h_I trivial)) hM.1, rfl, fun v M2 g => ?_⟩
    obtain ⟨⟨y, rfl, -⟩, rfl⟩ := g
    refine hK _ _ _ _ (hK _ _ _ _ ⟨fun h => tail, fun h => ?_⟩)
    refine hK _ _ _ _ (hK _ _ _ _ (hK _ _ _ _ (hK _ _ _ _ (?_))))
    refine hK _ _ _ _ ⟨_, h_pI hct_X8_byteAt_0 rfl rfl rfl (show (2 : Nat) ≤ e + 5 by omega) (h_R (h_I trivial)) hM.1, rfl, fun v M2 g => ?_⟩
    obtain ⟨⟨y, rfl, -⟩, rfl⟩ := g
    refine hK _ _ _ _ (hK _ _ _ _ ⟨fun h => tail, fun h => ?_⟩)
    refine hK _ _ _ _ (hK _ _ _ _ (hK _ _ _ _ (hK _ _ _ _ (hK _ _ _ _ (hK _ _ _ _ (hK _ _ _ _ (?_)))))))
    refine hK _ _ _ _ ⟨_, h_pI hct_X8_byteAt_0 rfl rfl rfl (show (2 : Nat) ≤ e + 5 by omega) (h_R (h_I trivial)) hM.1, rfl, fun v M2 g => ?_⟩
    obtain ⟨⟨y, rfl, -⟩, rfl⟩ := g
    refine hK _ _ _ _ (hK _ _ _ _ (hK _ _ _ _ (hK _ _ _ _ (hK _ _ _ _ (hK _ _ _ _ (hK _ _ _ _ (hK _ _ _ _ (hK _ _ _ _ (hK _ _ _ _ (hK _ _ _ _ (?_)))))))))))
    have hM3 : z_M (zTb, [(3, 1, 2), (3, 5, 5)], []) M [] (a_pI M1 3 0 1 (M1.1 3 0 1 + 1)) := h_Mp hM (by decide) (z_i_top _)
    refine ih _ ?_ _ _ rfl hM3
    rw [h_pIs]
    exact v_up hm h1
  refine hK _ _ _ _ ?_
  refine hK _ _ _ _ ⟨_, h_pW hct_X5_hasMore rfl rfl (show (4 : Nat) ≤ e + 5 by omega) (h_R trivial) hT, rfl, fun v M2 g => ?_⟩
  obtain ⟨g1, g2⟩ := g
  obtain ⟨y, rfl, -⟩ := h_ovI g1
  have hM2 : z_M (zTb, [(3, 1, 2), (3, 5, 5)], []) M [] M2 := h_Mt (h_M0 hT) g2 (by decide)
  refine hK _ _ _ _ (hK _ _ _ _ (hK _ _ _ _ (hK _ _ _ _ (hK _ _ _ _ (?_)))))
  have hM3 : z_M (zTb, [(3, 1, 2), (3, 5, 5)], []) M [] (a_pI M2 3 0 2 (M2.1 3 0 1)) := h_Mp hM2 (by decide) (z_i_top _)
  refine hK _ _ _ _ (hK _ _ _ _ (?_))
  exact lp _ _ _ rfl hM3
def ct_X5_refuseNext_0 : zCt := (96, [.inr (.inr (3, 0))], [], [(3, 1, 1), (3, 5, 5)], [.inl (some (.inl (2147483648, 2147483648)), [])], 6)
theorem hct_X5_refuseNext_0 : z_ctH zTb ct_X5_refuseNext_0 := z_ct_ok [] z_hds_ok [ct_X5_refuse_0, ct_X5_hasMore] [] 4 2 (List.forall_mem_cons.mpr ⟨hct_X5_refuse_0, List.forall_mem_cons.mpr ⟨hct_X5_hasMore, fun _ h => absurd h List.not_mem_nil⟩⟩) (by decide +kernel)
def ct_X5_isEnded_0 : zCt := (98, [.inr (.inr (3, 0))], [], [(3, 1, 1), (3, 5, 5)], [.inl (some (.inl (2147483648, 2147483649)), [])], 6)
theorem hct_X5_isEnded_0 : z_ctH zTb ct_X5_isEnded_0 := z_ct_ok [] z_hds_ok [ct_X5_refuse_0, ct_X5_hasMore] [] 4 2 (List.forall_mem_cons.mpr ⟨hct_X5_refuse_0, List.forall_mem_cons.mpr ⟨hct_X5_hasMore, fun _ h => absurd h List.not_mem_nil⟩⟩) (by decide +kernel)
def ct_X5_passSemicolon_0 : zCt := (99, [.inr (.inr (3, 0))], [], [(3, 1, 1)], [.inl (some (.inl (2147483648, 2147483649)), [])], 6)
theorem hct_X5_passSemicolon_0 : z_ctH zTb ct_X5_passSemicolon_0 := z_ct_ok [] z_hds_ok [ct_X8_byteAt_0, ct_X5_hasMore] [] 4 2 (List.forall_mem_cons.mpr ⟨hct_X8_byteAt_0, List.forall_mem_cons.mpr ⟨hct_X5_hasMore, fun _ h => absurd h List.not_mem_nil⟩⟩) (by decide +kernel)
def ct_X5_isWord_100 : zCt := (101, [.inr (.inr (3, 0)), .inr (.inr (100, 0))], [], [], [.inl (some (.inl (2147483648, 2147483649)), [])], 8)
theorem hct_X5_isWord_100 : z_ctH zTb ct_X5_isWord_100 := z_ct_ok [] z_hds_ok [ct_X8_byteAt_0] [] 6 2 (List.forall_mem_cons.mpr ⟨hct_X8_byteAt_0, fun _ h => absurd h List.not_mem_nil⟩) (by decide +kernel)
def ct_X5_isWord_101 : zCt := (101, [.inr (.inr (3, 0)), .inr (.inr (101, 0))], [], [], [.inl (some (.inl (2147483648, 2147483649)), [])], 8)
theorem hct_X5_isWord_101 : z_ctH zTb ct_X5_isWord_101 := z_ct_ok [] z_hds_ok [ct_X8_byteAt_0] [] 6 2 (List.forall_mem_cons.mpr ⟨hct_X8_byteAt_0, fun _ h => absurd h List.not_mem_nil⟩) (by decide +kernel)
def ct_X5_isWord_102 : zCt := (101, [.inr (.inr (3, 0)), .inr (.inr (102, 0))], [], [], [.inl (some (.inl (2147483648, 2147483649)), [])], 8)
theorem hct_X5_isWord_102 : z_ctH zTb ct_X5_isWord_102 := z_ct_ok [] z_hds_ok [ct_X8_byteAt_0] [] 6 2 (List.forall_mem_cons.mpr ⟨hct_X8_byteAt_0, fun _ h => absurd h List.not_mem_nil⟩) (by decide +kernel)
def ct_X5_isWord_103 : zCt := (101, [.inr (.inr (3, 0)), .inr (.inr (103, 0))], [], [], [.inl (some (.inl (2147483648, 2147483649)), [])], 8)
theorem hct_X5_isWord_103 : z_ctH zTb ct_X5_isWord_103 := z_ct_ok [] z_hds_ok [ct_X8_byteAt_0] [] 6 2 (List.forall_mem_cons.mpr ⟨hct_X8_byteAt_0, fun _ h => absurd h List.not_mem_nil⟩) (by decide +kernel)
def ct_X5_isWord_104 : zCt := (101, [.inr (.inr (3, 0)), .inr (.inr (104, 0))], [], [], [.inl (some (.inl (2147483648, 2147483649)), [])], 8)
theorem hct_X5_isWord_104 : z_ctH zTb ct_X5_isWord_104 := z_ct_ok [] z_hds_ok [ct_X8_byteAt_0] [] 6 2 (List.forall_mem_cons.mpr ⟨hct_X8_byteAt_0, fun _ h => absurd h List.not_mem_nil⟩) (by decide +kernel)
def ct_X5_isWord_105 : zCt := (101, [.inr (.inr (3, 0)), .inr (.inr (105, 0))], [], [], [.inl (some (.inl (2147483648, 2147483649)), [])], 8)
theorem hct_X5_isWord_105 : z_ctH zTb ct_X5_isWord_105 := z_ct_ok [] z_hds_ok [ct_X8_byteAt_0] [] 6 2 (List.forall_mem_cons.mpr ⟨hct_X8_byteAt_0, fun _ h => absurd h List.not_mem_nil⟩) (by decide +kernel)
def ct_X5_isWord_106 : zCt := (101, [.inr (.inr (3, 0)), .inr (.inr (106, 0))], [], [], [.inl (some (.inl (2147483648, 2147483649)), [])], 8)
theorem hct_X5_isWord_106 : z_ctH zTb ct_X5_isWord_106 := z_ct_ok [] z_hds_ok [ct_X8_byteAt_0] [] 6 2 (List.forall_mem_cons.mpr ⟨hct_X8_byteAt_0, fun _ h => absurd h List.not_mem_nil⟩) (by decide +kernel)
def ct_X5_isWord_107 : zCt := (101, [.inr (.inr (3, 0)), .inr (.inr (107, 0))], [], [], [.inl (some (.inl (2147483648, 2147483649)), [])], 8)
theorem hct_X5_isWord_107 : z_ctH zTb ct_X5_isWord_107 := z_ct_ok [] z_hds_ok [ct_X8_byteAt_0] [] 6 2 (List.forall_mem_cons.mpr ⟨hct_X8_byteAt_0, fun _ h => absurd h List.not_mem_nil⟩) (by decide +kernel)
def ct_X5_isWord_108 : zCt := (101, [.inr (.inr (3, 0)), .inr (.inr (108, 0))], [], [], [.inl (some (.inl (2147483648, 2147483649)), [])], 8)
theorem hct_X5_isWord_108 : z_ctH zTb ct_X5_isWord_108 := z_ct_ok [] z_hds_ok [ct_X8_byteAt_0] [] 6 2 (List.forall_mem_cons.mpr ⟨hct_X8_byteAt_0, fun _ h => absurd h List.not_mem_nil⟩) (by decide +kernel)
def ct_X5_isWord_109 : zCt := (101, [.inr (.inr (3, 0)), .inr (.inr (109, 0))], [], [], [.inl (some (.inl (2147483648, 2147483649)), [])], 8)
theorem hct_X5_isWord_109 : z_ctH zTb ct_X5_isWord_109 := z_ct_ok [] z_hds_ok [ct_X8_byteAt_0] [] 6 2 (List.forall_mem_cons.mpr ⟨hct_X8_byteAt_0, fun _ h => absurd h List.not_mem_nil⟩) (by decide +kernel)
def ct_X5_isWord_110 : zCt := (101, [.inr (.inr (3, 0)), .inr (.inr (110, 0))], [], [], [.inl (some (.inl (2147483648, 2147483649)), [])], 8)
theorem hct_X5_isWord_110 : z_ctH zTb ct_X5_isWord_110 := z_ct_ok [] z_hds_ok [ct_X8_byteAt_0] [] 6 2 (List.forall_mem_cons.mpr ⟨hct_X8_byteAt_0, fun _ h => absurd h List.not_mem_nil⟩) (by decide +kernel)
def ct_X5_isWord_111 : zCt := (101, [.inr (.inr (3, 0)), .inr (.inr (111, 0))], [], [], [.inl (some (.inl (2147483648, 2147483649)), [])], 8)
theorem hct_X5_isWord_111 : z_ctH zTb ct_X5_isWord_111 := z_ct_ok [] z_hds_ok [ct_X8_byteAt_0] [] 6 2 (List.forall_mem_cons.mpr ⟨hct_X8_byteAt_0, fun _ h => absurd h List.not_mem_nil⟩) (by decide +kernel)
def ct_X5_passTwo_0_3_2_8 : zCt := (103, [.inr (.inr (3, 0)), .inl (2147483648, 2147483648), .inl (2147483651, 2147483651), .inl (2147483650, 2147483650), .inl (2147483656, 2147483656)], [], [(3, 1, 5)], [.inl (some (.inl (2147483649, 2147483649)), [(49156, (2147483650, 2147483656)), (49155, (2147483648, 2147483651))]), .inl (some (.inl (2147483648, 2147483648)), [(49156, (2147483647, 2147483647)), (49155, (2147483647, 2147483651))])], 8)
theorem hct_X5_passTwo_0_3_2_8 : z_ctH zTb ct_X5_passTwo_0_3_2_8 := z_ct_ok [(3, 3, 4)] z_hds_ok [ct_X5_number_0_3, ct_X5_number_2_8] [] 6 2 (List.forall_mem_cons.mpr ⟨hct_X5_number_0_3, List.forall_mem_cons.mpr ⟨hct_X5_number_2_8, fun _ h => absurd h List.not_mem_nil⟩⟩) (by decide +kernel)
def ct_X5_passTwo_1_3_1_3 : zCt := (103, [.inr (.inr (3, 0)), .inl (2147483649, 2147483649), .inl (2147483651, 2147483651), .inl (2147483649, 2147483649), .inl (2147483651, 2147483651)], [], [(3, 1, 5)], [.inl (some (.inl (2147483649, 2147483649)), [(49156, (2147483649, 2147483651)), (49155, (2147483649, 2147483651))]), .inl (some (.inl (2147483648, 2147483648)), [(49156, (2147483647, 2147483647)), (49155, (2147483647, 2147483651))])], 8)
theorem hct_X5_passTwo_1_3_1_3 : z_ctH zTb ct_X5_passTwo_1_3_1_3 := z_ct_ok [(3, 3, 4)] z_hds_ok [ct_X5_number_1_3] [] 6 2 (List.forall_mem_cons.mpr ⟨hct_X5_number_1_3, fun _ h => absurd h List.not_mem_nil⟩) (by decide +kernel)
def ct_X5_passTwo_0_3_0_3 : zCt := (103, [.inr (.inr (3, 0)), .inl (2147483648, 2147483648), .inl (2147483651, 2147483651), .inl (2147483648, 2147483648), .inl (2147483651, 2147483651)], [], [(3, 1, 5)], [.inl (some (.inl (2147483649, 2147483649)), [(49156, (2147483648, 2147483651)), (49155, (2147483648, 2147483651))]), .inl (some (.inl (2147483648, 2147483648)), [(49156, (2147483647, 2147483647)), (49155, (2147483647, 2147483651))])], 8)
theorem hct_X5_passTwo_0_3_0_3 : z_ctH zTb ct_X5_passTwo_0_3_0_3 := z_ct_ok [(3, 3, 4)] z_hds_ok [ct_X5_number_0_3] [] 6 2 (List.forall_mem_cons.mpr ⟨hct_X5_number_0_3, fun _ h => absurd h List.not_mem_nil⟩) (by decide +kernel)
def ct_X5_passTwo_w : zCt := (103, [.inr (.inr (3, 0)), .inl (2147483648, 2147483648), .inl (2147483649, 2147483655), .inl (2147483648, 2147483648), .inl (2147483657, 2147483657)], [], [(3, 1, 5)], [.inl (some (.inl (2147483649, 2147483649)), [(49156, (2147483648, 2147483657)), (49155, (2147483648, 2147483655))]), .inl (some (.inl (2147483648, 2147483648)), [(49156, (2147483647, 2147483647)), (49155, (2147483647, 2147483655))])], 8)
theorem hct_X5_passTwo_w : z_ctH zTb ct_X5_passTwo_w := z_ct_ok [(3, 3, 4)] z_hds_ok [ct_X5_number_0_9, ct_X5_number_t] [] 6 2 (List.forall_mem_cons.mpr ⟨hct_X5_number_0_9, List.forall_mem_cons.mpr ⟨hct_X5_number_t, fun _ h => absurd h List.not_mem_nil⟩⟩) (by decide +kernel)
def ct_X1_readGroup : zCt := (45, [.inr (.inr (16, 0))], [], [(3, 1, 5), (5, 0, 2), (6, 0, 63), (7, 0, 7), (8, 0, 7), (9, 0, 7), (10, 0, 7), (11, 0, 7), (12, 0, 31), (13, 0, 7)], [.inl (some (.inl (2147483648, 2147483649)), [(49156, (2147483647, 2147483656)), (49155, (2147483647, 2147483651))])], 10)
theorem hct_X1_readGroup : z_ctH zTb ct_X1_readGroup := z_ct_ok [(3, 3, 4)] z_hds_ok [ct_X2_become_1, ct_X2_exists_0, ct_X0_startGroup_1, ct_X0_group_1, ct_X5_refuseLatest_0, ct_X5_passTwo_0_3_2_8] [] 8 2 (List.forall_mem_cons.mpr ⟨hct_X2_become_1, List.forall_mem_cons.mpr ⟨hct_X2_exists_0, List.forall_mem_cons.mpr ⟨hct_X0_startGroup_1, List.forall_mem_cons.mpr ⟨hct_X0_group_1, List.forall_mem_cons.mpr ⟨hct_X5_refuseLatest_0, List.forall_mem_cons.mpr ⟨hct_X5_passTwo_0_3_2_8, fun _ h => absurd h List.not_mem_nil⟩⟩⟩⟩⟩⟩) (by decide +kernel)
def ct_X1_readSize : zCt := (46, [.inr (.inr (16, 0))], [], [(3, 1, 5), (4, 1, 3), (4, 5, 6), (12, 0, 31), (14, 0, 15)], [.inl (some (.inl (2147483648, 2147483649)), [(49156, (2147483647, 2147483651)), (49155, (2147483647, 2147483651))])], 10)
theorem hct_X1_readSize : z_ctH zTb ct_X1_readSize := z_ct_ok [(3, 3, 4)] z_hds_ok [ct_X0_shape_1, ct_X0_startPlaces_1, ct_X5_passTwo_1_3_1_3] [] 8 2 (List.forall_mem_cons.mpr ⟨hct_X0_shape_1, List.forall_mem_cons.mpr ⟨hct_X0_startPlaces_1, List.forall_mem_cons.mpr ⟨hct_X5_passTwo_1_3_1_3, fun _ h => absurd h List.not_mem_nil⟩⟩⟩) (by decide +kernel)
def ct_X1_readShape : zCt := (47, [.inr (.inr (16, 0))], [], [(3, 1, 2), (3, 5, 5), (4, 1, 3), (4, 5, 6), (12, 0, 31), (14, 0, 15)], [.inl (some (.inl (2147483648, 2147483649)), [])], 8)
theorem hct_X1_readShape : z_ctH zTb ct_X1_readShape := z_ct_ok [(3, 3, 4)] z_hds_ok [ct_X0_wide_1, ct_X0_high_1, ct_X0_startPlaces_1, ct_X5_number_0_2] [] 6 2 (List.forall_mem_cons.mpr ⟨hct_X0_wide_1, List.forall_mem_cons.mpr ⟨hct_X0_high_1, List.forall_mem_cons.mpr ⟨hct_X0_startPlaces_1, List.forall_mem_cons.mpr ⟨hct_X5_number_0_2, fun _ h => absurd h List.not_mem_nil⟩⟩⟩⟩) (by decide +kernel)
def ct_X1_readWeight : zCt := (48, [.inr (.inr (16, 0))], [], [(3, 1, 5), (13, 0, 7)], [.inl (some (.inl (2147483648, 2147483649)), [(49156, (2147483647, 2147483657)), (49155, (2147483647, 2147483655))])], 10)
theorem hct_X1_readWeight : z_ctH zTb ct_X1_readWeight := z_ct_ok [(3, 3, 4)] z_hds_ok [ct_X2_order_1, ct_X0_group_1, ct_X0_weighKin_1, ct_X5_passTwo_w] [] 8 2 (List.forall_mem_cons.mpr ⟨hct_X2_order_1, List.forall_mem_cons.mpr ⟨hct_X0_group_1, List.forall_mem_cons.mpr ⟨hct_X0_weighKin_1, List.forall_mem_cons.mpr ⟨hct_X5_passTwo_w, fun _ h => absurd h List.not_mem_nil⟩⟩⟩⟩) (by decide +kernel)
def ct_X1_readHole : zCt := (49, [.inr (.inr (16, 0))], [], [(3, 1, 5), (14, 0, 15)], [.inl (some (.inl (2147483648, 2147483649)), [(49156, (2147483647, 2147483651)), (49155, (2147483647, 2147483651))])], 10)
theorem hct_X1_readHole : z_ctH zTb ct_X1_readHole := z_ct_ok [(3, 3, 4)] z_hds_ok [ct_X0_makeHole_1, ct_X0_squareAt_1, ct_X5_refuseLatest_0, ct_X5_passTwo_0_3_0_3] [] 8 2 (List.forall_mem_cons.mpr ⟨hct_X0_makeHole_1, List.forall_mem_cons.mpr ⟨hct_X0_squareAt_1, List.forall_mem_cons.mpr ⟨hct_X5_refuseLatest_0, List.forall_mem_cons.mpr ⟨hct_X5_passTwo_0_3_0_3, fun _ h => absurd h List.not_mem_nil⟩⟩⟩⟩) (by decide +kernel)
def ct_X1_readLine : zCt := (50, [.inr (.inr (16, 0)), .inl (2147483648, 2147483649)], [], [(3, 1, 5), (12, 0, 31)], [.inl (some (.inl (2147483648, 2147483649)), [(49156, (2147483647, 2147483651)), (49155, (2147483647, 2147483651))])], 10)
theorem hct_X1_readLine : z_ctH zTb ct_X1_readLine := z_ct_ok [(3, 3, 4)] z_hds_ok [ct_X2_order_1, ct_X0_group_1, ct_X0_lineAt_1, ct_X0_putTurn_1, ct_X5_refuseLatest_0, ct_X5_number_t, ct_X5_passTwo_0_3_0_3] [] 8 2 (List.forall_mem_cons.mpr ⟨hct_X2_order_1, List.forall_mem_cons.mpr ⟨hct_X0_group_1, List.forall_mem_cons.mpr ⟨hct_X0_lineAt_1, List.forall_mem_cons.mpr ⟨hct_X0_putTurn_1, List.forall_mem_cons.mpr ⟨hct_X5_refuseLatest_0, List.forall_mem_cons.mpr ⟨hct_X5_number_t, List.forall_mem_cons.mpr ⟨hct_X5_passTwo_0_3_0_3, fun _ h => absurd h List.not_mem_nil⟩⟩⟩⟩⟩⟩⟩) (by decide +kernel)
def ct_X1_readPart : zCt := (44, [.inr (.inr (16, 0))], [], [(3, 1, 5), (4, 1, 3), (4, 5, 6), (5, 0, 2), (6, 0, 63), (7, 0, 7), (8, 0, 7), (9, 0, 7), (10, 0, 7), (11, 0, 7), (12, 0, 31), (13, 0, 7), (14, 0, 15)], [.inl (some (.inl (2147483648, 2147483649)), [])], 12)
theorem hct_X1_readPart : z_ctH zTb ct_X1_readPart := z_ct_ok [(3, 3, 4)] z_hds_ok [ct_X5_refuseLatest_0, ct_X5_passWord, ct_X5_isWord_100, ct_X5_isWord_101, ct_X5_isWord_102, ct_X5_isWord_103, ct_X5_isWord_104, ct_X5_isWord_105, ct_X5_isWord_106, ct_X1_readGroup, ct_X1_readSize, ct_X1_readShape, ct_X1_readWeight, ct_X1_readHole, ct_X1_readLine] [] 10 2 (List.forall_mem_cons.mpr ⟨hct_X5_refuseLatest_0, List.forall_mem_cons.mpr ⟨hct_X5_passWord, List.forall_mem_cons.mpr ⟨hct_X5_isWord_100, List.forall_mem_cons.mpr ⟨hct_X5_isWord_101, List.forall_mem_cons.mpr ⟨hct_X5_isWord_102, List.forall_mem_cons.mpr ⟨hct_X5_isWord_103, List.forall_mem_cons.mpr ⟨hct_X5_isWord_104, List.forall_mem_cons.mpr ⟨hct_X5_isWord_105, List.forall_mem_cons.mpr ⟨hct_X5_isWord_106, List.forall_mem_cons.mpr ⟨hct_X1_readGroup, List.forall_mem_cons.mpr ⟨hct_X1_readSize, List.forall_mem_cons.mpr ⟨hct_X1_readShape, List.forall_mem_cons.mpr ⟨hct_X1_readWeight, List.forall_mem_cons.mpr ⟨hct_X1_readHole, List.forall_mem_cons.mpr ⟨hct_X1_readLine, fun _ h => absurd h List.not_mem_nil⟩⟩⟩⟩⟩⟩⟩⟩⟩⟩⟩⟩⟩⟩⟩) (by decide +kernel)
def ct_X1_read : zCt := (43, [.inr (.inr (16, 0))], [], [(3, 1, 5), (4, 1, 3), (4, 5, 6), (5, 0, 2), (6, 0, 63), (7, 0, 7), (8, 0, 7), (9, 0, 7), (10, 0, 7), (11, 0, 7), (12, 0, 31), (13, 0, 7), (14, 0, 15)], [.inl (some (.inl (2147483648, 2147483649)), [])], 14)
theorem hct_X1_read : z_ctH zTb ct_X1_read := z_ct_ok [(3, 3, 4)] z_hds_ok [ct_X5_open_0, ct_X5_hasMore, ct_X5_refuseNext_0, ct_X5_isEnded_0, ct_X5_passSemicolon_0, ct_X1_readPart] [] 12 2 (List.forall_mem_cons.mpr ⟨hct_X5_open_0, List.forall_mem_cons.mpr ⟨hct_X5_hasMore, List.forall_mem_cons.mpr ⟨hct_X5_refuseNext_0, List.forall_mem_cons.mpr ⟨hct_X5_isEnded_0, List.forall_mem_cons.mpr ⟨hct_X5_passSemicolon_0, List.forall_mem_cons.mpr ⟨hct_X1_readPart, fun _ h => absurd h List.not_mem_nil⟩⟩⟩⟩⟩⟩) (by decide +kernel)
def ct_X5_number_w : zCt := (102, [.inr (.inr (3, 0)), .inl (2147483648, 2147483648), .inl (2147483649, 2147483651)], [], [(3, 1, 2), (3, 5, 5)], [.inl (some (.inl (2147483647, 2147483647)), []), .inl (some (.inl (2147483648, 2147483651)), [])], 6)
set_option maxRecDepth 10000 in
theorem hct_X5_number_w : z_ctH zTb ct_X5_number_w := by
  intro nS d as M hd hS hT hG
  obtain ⟨e, rfl⟩ := h_rk hd
  obtain ⟨xl, xh, rfl, hl, hh⟩ := h_S3 (by decide) hS
  show aC nS (e + 5 + 1) 102 _ M _ _
  refine aC_mk rfl rfl ?_
  intro K hK hF
  have lp : ∀ (n : Nat) (M1 : aM) (x3 : Int32), 4294967296 - z_b (M1.1 3 0 1) = n → z_M (zTb, [(3, 1, 2), (3, 5, 5)], []) M [] M1 → K 15 [some (vR 3 0), some (vI xl), some (vI xh), some (vI x3), none] [] M1 := by
    intro n
    induction n using Nat.strongRecOn with
    | ind n ih =>
    intro M1 x3 hm hM
    have tail : K 94 [some (vR 3 0), some (vI xl), some (vI xh), some (vI x3), none] [] M1 := by
      have bad : ∀ x4, K 127 [some (vR 3 0), some (vI xl), some (vI xh), some (vI x3), some (vI x4)] [] M1 := by
        intro x4
        refine hK _ _ _ _ (hK _ _ _ _ (hK _ _ _ _ (?_)))
        refine hK _ _ _ _ ⟨_, h_pW hct_X5_refuse_0 rfl rfl (show (2 : Nat) ≤ e + 5 by omega) (h_R (h_I trivial)) hM.1, rfl, fun v M2 g => ?_⟩
        obtain ⟨g1, g2⟩ := g
        obtain ⟨y, rfl, -⟩ := h_ovI g1
        exact hK _ _ _ _ (hK _ _ _ _ (hK _ _ _ _ ⟨_, _, List.mem_cons_self, ⟨Nat.le_of_eq z_b_m1.symm, Nat.le_of_eq z_b_m1⟩, h_Mt hM g2 (by decide)⟩))
      refine hK _ _ _ _ (hK _ _ _ _ (hK _ _ _ _ (hK _ _ _ _ (hK _ _ _ _ (hK _ _ _ _ (?_))))))
      refine hK _ _ _ _ (hK _ _ _ _ (?_))
      refine hK _ _ _ _ ⟨fun h => bad _, fun h => ?_⟩
      refine hK _ _ _ _ (hK _ _ _ _ (?_))
      refine hK _ _ _ _ ⟨fun h => bad _, fun h => ?_⟩
      refine hK _ _ _ _ (hK _ _ _ _ (?_))
      refine hK _ _ _ _ ⟨fun h => bad _, fun h3 => ?_⟩
      refine hK _ _ _ _ (hK _ _ _ _ (?_))
      refine hK _ _ _ _ ⟨fun h4 => ?_, fun h => bad _⟩
      refine hK _ _ _ _ (hK _ _ _ _ ⟨_, _, List.mem_cons_of_mem _ (List.mem_singleton.mpr rfl), ⟨?_, ?_⟩, hM⟩)
      · exact Nat.le_trans hl.1 (z_b_le.mp (Int32.not_lt.mp h3))
      · exact Nat.le_trans (z_b_le.mp h4) hh.2
    refine hK _ _ _ _ (hK _ _ _ _ (hK _ _ _ _ (hK _ _ _ _ (?_))))
    refine hK _ _ _ _ ⟨_, hx_size, rfl, fun v M2 g => ?_⟩
    obtain ⟨rfl, rfl⟩ := g
    refine hK _ _ _ _ ⟨fun h => tail, fun h1 => ?_⟩
    refine hK _ _ _ _ (hK _ _ _ _ (hK _ _ _ _ (hK _ _ _ _ (?_))))
    refine hK _ _ _ _ ⟨_, h_pI hct_X8_byteAt_0 rfl rfl rfl (show (2 : Nat) ≤ e + 5 by omega) (h_R (h_I trivial)) hM.1, rfl, fun v M2 g => ?_⟩
    obtain ⟨⟨y, rfl, -⟩, rfl⟩ := g
    refine hK _ _ _ _ (hK _ _ _ _ ⟨fun h => tail, fun h => ?_⟩)
    refine hK _ _ _ _ (hK _ _ _ _ (hK _ _ _ _ (hK _ _ _ _ (?_))))
    refine hK _ _ _ _ ⟨_, h_pI hct_X8_byteAt_0 rfl rfl rfl (show (2 : Nat) ≤ e + 5 by omega) (h_R (h_I trivial)) hM.1, rfl, fun v M2 g => ?_⟩
    obtain ⟨⟨y, rfl, -⟩, rfl⟩ := g
    refine hK _ _ _ _ (hK _ _ _ _ ⟨fun h => tail, fun h => ?_⟩)
    refine hK _ _ _ _ (hK _ _ _ _ (hK _ _ _ _ (hK _ _ _ _ (hK _ _ _ _ (hK _ _ _ _ (hK _ _ _ _ (?_)))))))
    refine hK _ _ _ _ ⟨_, h_pI hct_X8_byteAt_0 rfl rfl rfl (show (2 : Nat) ≤ e + 5 by omega) (h_R (h_I trivial)) hM.1, rfl, fun v M2 g => ?_⟩
    obtain ⟨⟨y, rfl, -⟩, rfl⟩ := g
    refine hK _ _ _ _ (hK _ _ _ _ (hK _ _ _ _ (hK _ _ _ _ (hK _ _ _ _ (hK _ _ _ _ (hK _ _ _ _ (hK _ _ _ _ (hK _ _ _ _ (hK _ _ _ _ (hK _ _ _ _ (?_)))))))))))
    have hM3 : z_M (zTb, [(3, 1, 2), (3, 5, 5)], []) M [] (a_pI M1 3 0 1 (M1.1 3 0 1 + 1)) := h_Mp hM (by decide) (z_i_top _)
    refine ih _ ?_ _ _ rfl hM3
    rw [h_pIs]
    exact v_up hm h1
  refine hK _ _ _ _ ?_
  refine hK _ _ _ _ ⟨_, h_pW hct_X5_hasMore rfl rfl (show (4 : Nat) ≤ e + 5 by omega) (h_R trivial) hT, rfl, fun v M2 g => ?_⟩
  obtain ⟨g1, g2⟩ := g
  obtain ⟨y, rfl, -⟩ := h_ovI g1
  have hM2 : z_M (zTb, [(3, 1, 2), (3, 5, 5)], []) M [] M2 := h_Mt (h_M0 hT) g2 (by decide)
  refine hK _ _ _ _ (hK _ _ _ _ (hK _ _ _ _ (hK _ _ _ _ (hK _ _ _ _ (?_)))))
  have hM3 : z_M (zTb, [(3, 1, 2), (3, 5, 5)], []) M [] (a_pI M2 3 0 2 (M2.1 3 0 1)) := h_Mp hM2 (by decide) (z_i_top _)
  refine hK _ _ _ _ (hK _ _ _ _ (?_))
  exact lp _ _ _ rfl hM3
def ct_X5_passTwo_f : zCt := (103, [.inr (.inr (3, 0)), .inl (2147483648, 2147483648), .inl (2147483649, 2147483651), .inl (2147483648, 2147483648), .inl (2147483649, 2147483651)], [], [(3, 1, 5)], [.inl (some (.inl (2147483649, 2147483649)), [(49156, (2147483648, 2147483655)), (49155, (2147483648, 2147483655))]), .inl (some (.inl (2147483648, 2147483648)), [(49156, (2147483647, 2147483647)), (49155, (2147483647, 2147483655))])], 8)
theorem hct_X5_passTwo_f : z_ctH zTb ct_X5_passTwo_f := z_ct_ok [(3, 3, 4)] z_hds_ok [ct_X5_number_t] [] 6 2 (List.forall_mem_cons.mpr ⟨hct_X5_number_t, fun _ h => absurd h List.not_mem_nil⟩) (by decide +kernel)
def ct_X9_comesTo_0 : zCt := (144, [.inr (.inr (17, 0))], [], [], [.inl (some (.inl (0, 4294967295)), [])], 2)
theorem hct_X9_comesTo_0 : z_ctH zTb ct_X9_comesTo_0 := z_ct_ok [] z_hds_ok [] [] 0 2 (fun _ h => absurd h List.not_mem_nil) (by decide +kernel)
def ct_X9_length_0 : zCt := (145, [.inr (.inr (17, 0))], [], [], [.inl (some (.inl (0, 4294967295)), [])], 2)
theorem hct_X9_length_0 : z_ctH zTb ct_X9_length_0 := z_ct_ok [] z_hds_ok [] [] 0 2 (fun _ h => absurd h List.not_mem_nil) (by decide +kernel)
def ct_X9_isClosed_0 : zCt := (146, [.inr (.inr (17, 0))], [], [], [.inl (some (.inl (2147483648, 2147483649)), [])], 4)
theorem hct_X9_isClosed_0 : z_ctH zTb ct_X9_isClosed_0 := z_ct_ok [] z_hds_ok [ct_X0_cornerAt_0] [] 2 2 (List.forall_mem_cons.mpr ⟨hct_X0_cornerAt_0, fun _ h => absurd h List.not_mem_nil⟩) (by decide +kernel)
def ct_X9_stepBehind_0 : zCt := (142, [.inr (.inr (17, 0)), .inl (0, 4294967295)], [], [(17, 3, 4)], [.inl (none, [])], 4)
theorem hct_X9_stepBehind_0 : z_ctH zTb ct_X9_stepBehind_0 := z_ct_ok [] z_hds_ok [ct_X0_wide_0, ct_X0_high_0, ct_X0_isFlat_0, ct_X0_isClosed_0] [] 2 2 (List.forall_mem_cons.mpr ⟨hct_X0_wide_0, List.forall_mem_cons.mpr ⟨hct_X0_high_0, List.forall_mem_cons.mpr ⟨hct_X0_isFlat_0, List.forall_mem_cons.mpr ⟨hct_X0_isClosed_0, fun _ h => absurd h List.not_mem_nil⟩⟩⟩⟩) (by decide +kernel)
def ct_X9_arrive_0 : zCt := (143, [.inr (.inr (17, 0)), .inl (0, 4294967295)], [], [(17, 3, 5), (18, 0, 15)], [.inl (none, [])], 3)
theorem hct_X9_arrive_0 : z_ctH zTb ct_X9_arrive_0 := z_ct_ok [] z_hds_ok [ct_X6_add_18_0, ct_X0_columnOf_0, ct_X0_rowOf_0] [] 1 2 (List.forall_mem_cons.mpr ⟨hct_X6_add_18_0, List.forall_mem_cons.mpr ⟨hct_X0_columnOf_0, List.forall_mem_cons.mpr ⟨hct_X0_rowOf_0, fun _ h => absurd h List.not_mem_nil⟩⟩⟩) (by decide +kernel)
def ct_X9_begin_0 : zCt := (138, [.inr (.inr (17, 0)), .inl (0, 4294967295)], [], [(17, 2, 6), (18, 0, 15), (19, 0, 15)], [.inl (none, [])], 3)
theorem hct_X9_begin_0 : z_ctH zTb ct_X9_begin_0 := z_ct_ok [] z_hds_ok [ct_X6_fill_18_0, ct_X6_fill_19_0, ct_X0_columnOf_0, ct_X0_rowOf_0] [] 1 2 (List.forall_mem_cons.mpr ⟨hct_X6_fill_18_0, List.forall_mem_cons.mpr ⟨hct_X6_fill_19_0, List.forall_mem_cons.mpr ⟨hct_X0_columnOf_0, List.forall_mem_cons.mpr ⟨hct_X0_rowOf_0, fun _ h => absurd h List.not_mem_nil⟩⟩⟩⟩) (by decide +kernel)
def ct_X9_go_0 : zCt := (141, [.inr (.inr (17, 0)), .inl (0, 4294967295)], [], [(17, 3, 6), (18, 0, 15), (19, 0, 15)], [.inl (some (.inl (2147483648, 2147483649)), [])], 7)
theorem hct_X9_go_0 : z_ctH zTb ct_X9_go_0 := z_ct_ok [] z_hds_ok [ct_X6_add_19_0, ct_X2_times_0, ct_X2_against_0, ct_X0_group_0, ct_X0_beginOf_0, ct_X0_lineAt_0, ct_X0_endOf_0, ct_X0_turnOn_0, ct_X9_stepBehind_0, ct_X9_arrive_0] [] 5 2 (List.forall_mem_cons.mpr ⟨hct_X6_add_19_0, List.forall_mem_cons.mpr ⟨hct_X2_times_0, List.forall_mem_cons.mpr ⟨hct_X2_against_0, List.forall_mem_cons.mpr ⟨hct_X0_group_0, List.forall_mem_cons.mpr ⟨hct_X0_beginOf_0, List.forall_mem_cons.mpr ⟨hct_X0_lineAt_0, List.forall_mem_cons.mpr ⟨hct_X0_endOf_0, List.forall_mem_cons.mpr ⟨hct_X0_turnOn_0, List.forall_mem_cons.mpr ⟨hct_X9_stepBehind_0, List.forall_mem_cons.mpr ⟨hct_X9_arrive_0, fun _ h => absurd h List.not_mem_nil⟩⟩⟩⟩⟩⟩⟩⟩⟩⟩) (by decide +kernel)
def ct_X9_wayRead_0 : zCt := (140, [.inr (.inr (17, 0))], [], [], [.inl (some (.inl (2147483647, 2147483651)), [])], 10)
theorem hct_X9_wayRead_0 : z_ctH zTb ct_X9_wayRead_0 := z_ct_ok [] z_hds_ok [ct_X5_isWord_108, ct_X5_isWord_109, ct_X5_isWord_110, ct_X5_isWord_111] [] 8 2 (List.forall_mem_cons.mpr ⟨hct_X5_isWord_108, List.forall_mem_cons.mpr ⟨hct_X5_isWord_109, List.forall_mem_cons.mpr ⟨hct_X5_isWord_110, List.forall_mem_cons.mpr ⟨hct_X5_isWord_111, fun _ h => absurd h List.not_mem_nil⟩⟩⟩⟩) (by decide +kernel)
def ct_X9_readBegin_0 : zCt := (137, [.inr (.inr (17, 0))], [], [(3, 1, 5), (17, 2, 6), (18, 0, 15), (19, 0, 15)], [.inl (some (.inl (2147483648, 2147483649)), [])], 10)
theorem hct_X9_readBegin_0 : z_ctH zTb ct_X9_readBegin_0 := z_ct_ok [] z_hds_ok [ct_X0_wide_0, ct_X0_high_0, ct_X0_cornerAt_0, ct_X5_refuseLatest_0, ct_X5_passWord, ct_X5_isWord_107, ct_X5_passTwo_f, ct_X9_begin_0] [] 8 2 (List.forall_mem_cons.mpr ⟨hct_X0_wide_0, List.forall_mem_cons.mpr ⟨hct_X0_high_0, List.forall_mem_cons.mpr ⟨hct_X0_cornerAt_0, List.forall_mem_cons.mpr ⟨hct_X5_refuseLatest_0, List.forall_mem_cons.mpr ⟨hct_X5_passWord, List.forall_mem_cons.mpr ⟨hct_X5_isWord_107, List.forall_mem_cons.mpr ⟨hct_X5_passTwo_f, List.forall_mem_cons.mpr ⟨hct_X9_begin_0, fun _ h => absurd h List.not_mem_nil⟩⟩⟩⟩⟩⟩⟩⟩) (by decide +kernel)
def ct_X9_readPart_0 : zCt := (139, [.inr (.inr (17, 0))], [], [(3, 1, 2), (3, 5, 5), (17, 3, 6), (18, 0, 15), (19, 0, 15)], [.inl (some (.inl (2147483648, 2147483649)), [])], 12)
theorem hct_X9_readPart_0 : z_ctH zTb ct_X9_readPart_0 := z_ct_ok [] z_hds_ok [ct_X5_begin_0, ct_X5_refuse_0, ct_X5_refuseLatest_0, ct_X5_passWord, ct_X5_number_1_9, ct_X9_go_0, ct_X9_wayRead_0] [] 10 2 (List.forall_mem_cons.mpr ⟨hct_X5_begin_0, List.forall_mem_cons.mpr ⟨hct_X5_refuse_0, List.forall_mem_cons.mpr ⟨hct_X5_refuseLatest_0, List.forall_mem_cons.mpr ⟨hct_X5_passWord, List.forall_mem_cons.mpr ⟨hct_X5_number_1_9, List.forall_mem_cons.mpr ⟨hct_X9_go_0, List.forall_mem_cons.mpr ⟨hct_X9_wayRead_0, fun _ h => absurd h List.not_mem_nil⟩⟩⟩⟩⟩⟩⟩) (by decide +kernel)
def ct_X9_read_0 : zCt := (136, [.inr (.inr (17, 0))], [], [(3, 1, 5), (17, 2, 6), (18, 0, 15), (19, 0, 15)], [.inl (some (.inl (2147483648, 2147483649)), [])], 14)
theorem hct_X9_read_0 : z_ctH zTb ct_X9_read_0 := z_ct_ok [] z_hds_ok [ct_X5_open_0, ct_X5_refuseNext_0, ct_X5_isEnded_0, ct_X5_passSemicolon_0, ct_X9_readBegin_0, ct_X9_readPart_0] [] 12 2 (List.forall_mem_cons.mpr ⟨hct_X5_open_0, List.forall_mem_cons.mpr ⟨hct_X5_refuseNext_0, List.forall_mem_cons.mpr ⟨hct_X5_isEnded_0, List.forall_mem_cons.mpr ⟨hct_X5_passSemicolon_0, List.forall_mem_cons.mpr ⟨hct_X9_readBegin_0, List.forall_mem_cons.mpr ⟨hct_X9_readPart_0, fun _ h => absurd h List.not_mem_nil⟩⟩⟩⟩⟩⟩) (by decide +kernel)
def ct_X9_isSimple_0 : zCt := (147, [.inr (.inr (17, 0))], [], [], [.inl (some (.inl (2147483648, 2147483649)), [])], 6)
theorem hct_X9_isSimple_0 : z_ctH zTb ct_X9_isSimple_0 := z_ct_ok [] z_hds_ok [ct_X6_at_18_0, ct_X9_isClosed_0] [] 4 2 (List.forall_mem_cons.mpr ⟨hct_X6_at_18_0, List.forall_mem_cons.mpr ⟨hct_X9_isClosed_0, fun _ h => absurd h List.not_mem_nil⟩⟩) (by decide +kernel)
def ct_X9_windsRound : zCt := (148, [.inr (.inr (17, 0)), .inl (2147483648, 2147483650), .inl (2147483648, 2147483650)], [], [], [.inl (some (.inl (0, 4294967295)), [])], 4)
theorem hct_X9_windsRound : z_ctH zTb ct_X9_windsRound := z_ct_ok [] z_hds_ok [ct_X6_at_19_0, ct_X0_wide_0] [] 2 2 (List.forall_mem_cons.mpr ⟨hct_X6_at_19_0, List.forall_mem_cons.mpr ⟨hct_X0_wide_0, fun _ h => absurd h List.not_mem_nil⟩⟩) (by decide +kernel)
def ct_X9_squaresWithin_0 : zCt := (149, [.inr (.inr (17, 0))], [], [], [.inl (some (.inl (2147483648, 2147483657)), [])], 6)
theorem hct_X9_squaresWithin_0 : z_ctH zTb ct_X9_squaresWithin_0 := z_ct_ok [] z_hds_ok [ct_X0_wide_0, ct_X0_high_0, ct_X9_windsRound] [] 4 2 (List.forall_mem_cons.mpr ⟨hct_X0_wide_0, List.forall_mem_cons.mpr ⟨hct_X0_high_0, List.forall_mem_cons.mpr ⟨hct_X9_windsRound, fun _ h => absurd h List.not_mem_nil⟩⟩⟩) (by decide +kernel)
def ct_X3_forget_0 : zCt := (71, [.inr (.inr (20, 0))], [], [(20, 4, 5)], [.inl (none, [])], 2)
theorem hct_X3_forget_0 : z_ctH zTb ct_X3_forget_0 := z_ct_ok [] z_hds_ok [] [] 0 2 (fun _ h => absurd h List.not_mem_nil) (by decide +kernel)
def ct_X3_dropOldest_0 : zCt := (75, [.inr (.inr (20, 0))], [], [(20, 4, 4), (21, 0, 19), (22, 0, 19), (23, 0, 19)], [.inl (none, [])], 3)
theorem hct_X3_dropOldest_0 : z_ctH zTb ct_X3_dropOldest_0 := z_ct_ok [] z_hds_ok [ct_X6_at_21_0, ct_X6_put_21_0, ct_X6_at_22_0, ct_X6_put_22_0, ct_X6_at_23_0, ct_X6_put_23_0] [] 1 2 (List.forall_mem_cons.mpr ⟨hct_X6_at_21_0, List.forall_mem_cons.mpr ⟨hct_X6_put_21_0, List.forall_mem_cons.mpr ⟨hct_X6_at_22_0, List.forall_mem_cons.mpr ⟨hct_X6_put_22_0, List.forall_mem_cons.mpr ⟨hct_X6_at_23_0, List.forall_mem_cons.mpr ⟨hct_X6_put_23_0, fun _ h => absurd h List.not_mem_nil⟩⟩⟩⟩⟩⟩) (by decide +kernel)
def ct_X3_note_0 : zCt := (74, [.inr (.inr (20, 0)), .inl (0, 4294967295), .inl (0, 4294967295), .inl (0, 4294967295)], [], [(20, 4, 5), (21, 0, 19), (22, 0, 19), (23, 0, 19)], [.inl (none, [])], 5)
theorem hct_X3_note_0 : z_ctH zTb ct_X3_note_0 := z_ct_ok [] z_hds_ok [ct_X6_put_21_0, ct_X6_put_22_0, ct_X6_put_23_0, ct_X3_dropOldest_0] [] 3 2 (List.forall_mem_cons.mpr ⟨hct_X6_put_21_0, List.forall_mem_cons.mpr ⟨hct_X6_put_22_0, List.forall_mem_cons.mpr ⟨hct_X6_put_23_0, List.forall_mem_cons.mpr ⟨hct_X3_dropOldest_0, fun _ h => absurd h List.not_mem_nil⟩⟩⟩⟩) (by decide +kernel)
def ct_X3_noteLine_0 : zCt := (72, [.inr (.inr (20, 0)), .inl (0, 4294967295), .inl (0, 4294967295), .inl (0, 4294967295)], [], [(20, 4, 5), (21, 0, 19), (22, 0, 19), (23, 0, 19)], [.inl (none, [])], 7)
theorem hct_X3_noteLine_0 : z_ctH zTb ct_X3_noteLine_0 := z_ct_ok [] z_hds_ok [ct_X3_note_0] [] 5 2 (List.forall_mem_cons.mpr ⟨hct_X3_note_0, fun _ h => absurd h List.not_mem_nil⟩) (by decide +kernel)
def ct_X3_noteFrame_0 : zCt := (73, [.inr (.inr (20, 0)), .inl (0, 4294967295), .inl (0, 4294967295), .inl (0, 4294967295)], [], [(20, 4, 5), (21, 0, 19), (22, 0, 19), (23, 0, 19)], [.inl (none, [])], 7)
theorem hct_X3_noteFrame_0 : z_ctH zTb ct_X3_noteFrame_0 := z_ct_ok [] z_hds_ok [ct_X3_note_0] [] 5 2 (List.forall_mem_cons.mpr ⟨hct_X3_note_0, fun _ h => absurd h List.not_mem_nil⟩) (by decide +kernel)
def ct_X3_apply_0 : zCt := (78, [.inr (.inr (20, 0)), .inl (0, 4294967295), .inl (0, 4294967295)], [], [(12, 0, 31)], [.inl (none, [])], 8)
theorem hct_X3_apply_0 : z_ctH zTb ct_X3_apply_0 := z_ct_ok [] z_hds_ok [ct_X0_putTurn_0, ct_X0_reframe_0] [] 6 2 (List.forall_mem_cons.mpr ⟨hct_X0_putTurn_0, List.forall_mem_cons.mpr ⟨hct_X0_reframe_0, fun _ h => absurd h List.not_mem_nil⟩⟩) (by decide +kernel)
def ct_X3_takeBack_0 : zCt := (76, [.inr (.inr (20, 0))], [], [(12, 0, 31), (20, 4, 4)], [.inl (some (.inl (2147483648, 2147483649)), [])], 10)
theorem hct_X3_takeBack_0 : z_ctH zTb ct_X3_takeBack_0 := z_ct_ok [] z_hds_ok [ct_X6_at_21_0, ct_X6_at_22_0, ct_X3_apply_0] [] 8 2 (List.forall_mem_cons.mpr ⟨hct_X6_at_21_0, List.forall_mem_cons.mpr ⟨hct_X6_at_22_0, List.forall_mem_cons.mpr ⟨hct_X3_apply_0, fun _ h => absurd h List.not_mem_nil⟩⟩⟩) (by decide +kernel)
def ct_X3_doAgain_0 : zCt := (77, [.inr (.inr (20, 0))], [], [(12, 0, 31), (20, 4, 4)], [.inl (some (.inl (2147483648, 2147483649)), [])], 10)
theorem hct_X3_doAgain_0 : z_ctH zTb ct_X3_doAgain_0 := z_ct_ok [] z_hds_ok [ct_X6_at_21_0, ct_X6_at_23_0, ct_X3_apply_0] [] 8 2 (List.forall_mem_cons.mpr ⟨hct_X6_at_21_0, List.forall_mem_cons.mpr ⟨hct_X6_at_23_0, List.forall_mem_cons.mpr ⟨hct_X3_apply_0, fun _ h => absurd h List.not_mem_nil⟩⟩⟩) (by decide +kernel)
def ct_X3_undoable_0 : zCt := (79, [.inr (.inr (20, 0))], [], [], [.inl (some (.inl (0, 4294967295)), [])], 2)
theorem hct_X3_undoable_0 : z_ctH zTb ct_X3_undoable_0 := z_ct_ok [] z_hds_ok [] [] 0 2 (fun _ h => absurd h List.not_mem_nil) (by decide +kernel)
def ct_X3_redoable_0 : zCt := (80, [.inr (.inr (20, 0))], [], [], [.inl (some (.inl (0, 4294967295)), [])], 2)
theorem hct_X3_redoable_0 : z_ctH zTb ct_X3_redoable_0 := z_ct_ok [] z_hds_ok [] [] 0 2 (fun _ h => absurd h List.not_mem_nil) (by decide +kernel)
def ct_X7_begin_0 : zCt := (113, [.inr (.inr (24, 0))], [], [(25, 0, 7)], [.inl (none, [])], 3)
theorem hct_X7_begin_0 : z_ctH zTb ct_X7_begin_0 := z_ct_ok [] z_hds_ok [ct_X6_put__25_0, ct_X6_fill__25_0] [] 1 2 (List.forall_mem_cons.mpr ⟨hct_X6_put__25_0, List.forall_mem_cons.mpr ⟨hct_X6_fill__25_0, fun _ h => absurd h List.not_mem_nil⟩⟩) (by decide +kernel)
def ct_X7_multiplyOnce_0 : zCt := (115, [.inr (.inr (24, 0))], [], [(25, 0, 7), (26, 0, 7)], [.inl (none, [])], 5)
theorem hct_X7_multiplyOnce_0 : z_ctH zTb ct_X7_multiplyOnce_0 := z_ct_ok [] z_hds_ok [ct_X6_at__25_0, ct_X6_put__25_0, ct_X6_at__26_0, ct_X6_add__26_0, ct_X6_fill__26_0, ct_X6_at__27_0, ct_X2_times_0, ct_X2_order_0] [] 3 2 (List.forall_mem_cons.mpr ⟨hct_X6_at__25_0, List.forall_mem_cons.mpr ⟨hct_X6_put__25_0, List.forall_mem_cons.mpr ⟨hct_X6_at__26_0, List.forall_mem_cons.mpr ⟨hct_X6_add__26_0, List.forall_mem_cons.mpr ⟨hct_X6_fill__26_0, List.forall_mem_cons.mpr ⟨hct_X6_at__27_0, List.forall_mem_cons.mpr ⟨hct_X2_times_0, List.forall_mem_cons.mpr ⟨hct_X2_order_0, fun _ h => absurd h List.not_mem_nil⟩⟩⟩⟩⟩⟩⟩⟩) (by decide +kernel)
def ct_X7_multiply : zCt := (114, [.inr (.inr (24, 0)), .inl (2147483648, 2147483664)], [], [(25, 0, 7), (26, 0, 7)], [.inl (none, [])], 7)
theorem hct_X7_multiply : z_ctH zTb ct_X7_multiply := z_ct_ok [] z_hds_ok [ct_X7_multiplyOnce_0] [] 5 2 (List.forall_mem_cons.mpr ⟨hct_X7_multiplyOnce_0, fun _ h => absurd h List.not_mem_nil⟩) (by decide +kernel)
def ct_X7_takeSquare_0 : zCt := (116, [.inr (.inr (24, 0)), .inl (0, 4294967295)], [], [(27, 0, 7)], [.inl (none, [])], 7)
theorem hct_X7_takeSquare_0 : z_ctH zTb ct_X7_takeSquare_0 := z_ct_ok [] z_hds_ok [ct_X6_put__27_0, ct_X2_order_0, ct_X0_weightIn_0] [] 5 2 (List.forall_mem_cons.mpr ⟨hct_X6_put__27_0, List.forall_mem_cons.mpr ⟨hct_X2_order_0, List.forall_mem_cons.mpr ⟨hct_X0_weightIn_0, fun _ h => absurd h List.not_mem_nil⟩⟩⟩) (by decide +kernel)
def ct_X7_takeSame_0 : zCt := (117, [.inr (.inr (24, 0)), .inr (.inl none), .inr (.inl none)], [], [(27, 0, 7)], [.inl (none, [])], 4)
theorem hct_X7_takeSame_0 : z_ctH zTb ct_X7_takeSame_0 := z_ct_ok [] z_hds_ok [ct_X6_put__27_0, ct_X2_order_0] [] 2 2 (List.forall_mem_cons.mpr ⟨hct_X6_put__27_0, List.forall_mem_cons.mpr ⟨hct_X2_order_0, fun _ h => absurd h List.not_mem_nil⟩⟩) (by decide +kernel)
def ct_X7_together_25 : zCt := (118, [.inr (.inr (24, 0)), .inr (.inr (25, 0))], [], [], [.inl (some (.inr (.inl none)), [])], 4)
theorem hct_X7_together_25 : z_ctH zTb ct_X7_together_25 := z_ct_ok [] z_hds_ok [ct_X6_at__25_0, ct_X2_order_0] [] 2 2 (List.forall_mem_cons.mpr ⟨hct_X6_at__25_0, List.forall_mem_cons.mpr ⟨hct_X2_order_0, fun _ h => absurd h List.not_mem_nil⟩⟩) (by decide +kernel)
def ct_X7_together_27 : zCt := (118, [.inr (.inr (24, 0)), .inr (.inr (27, 0))], [], [], [.inl (some (.inr (.inl none)), [])], 4)
theorem hct_X7_together_27 : z_ctH zTb ct_X7_together_27 := z_ct_ok [] z_hds_ok [ct_X6_at__27_0, ct_X2_order_0] [] 2 2 (List.forall_mem_cons.mpr ⟨hct_X6_at__27_0, List.forall_mem_cons.mpr ⟨hct_X2_order_0, fun _ h => absurd h List.not_mem_nil⟩⟩) (by decide +kernel)
def ct_J6_bitCount_0f7a4 : zCt := (258, [.inl (0, 4294967295)], [], [], [.inl (some (.inl (2147483648, 2147483711)), [])], 1)
theorem hct_J6_bitCount_0f7a4 : z_ctH zTb ct_J6_bitCount_0f7a4 := z_ct_ok [] z_hds_ok [] [] 0 1 (fun _ h => absurd h List.not_mem_nil) (by decide +kernel)
def ct_X7_choices : zCt := (122, [.inl (0, 4294967295), .inl (0, 4294967295)], [], [], [.inl (some (.inr (.inl none)), [])], 3)
set_option maxRecDepth 10000 in
theorem hct_X7_choices : z_ctH zTb ct_X7_choices := by
  intro nS d as M hd hS hT hG
  obtain ⟨e, rfl⟩ := h_rk hd
  obtain ⟨x0, s1, rfl, -, hS⟩ := z_S_I hS
  obtain ⟨x1, s2, rfl, -, hS⟩ := z_S_I hS
  have h1 := z_S_N hS
  subst h1
  show aC nS (e + 2 + 1) 122 _ M _ _
  refine aC_mk rfl rfl ?_
  intro K hK hF
  have lp : ∀ (n : Nat) (x2 : Int64) (x4 : Int32), 4294967296 - z_b x4 = n → K 5 [some (vI x0), some (vI x1), some (vL x2), none, some (vI x4)] [] M := by
    intro n
    induction n using Nat.strongRecOn with
    | ind n ih =>
    intro x2 x4 hm
    refine hK _ _ _ _ (hK _ _ _ _ (hK _ _ _ _ (hK _ _ _ _ (?_))))
    refine hK _ _ _ _ ⟨fun h => ?_, fun h1 => ?_⟩
    · exact hK _ _ _ _ (hK _ _ _ _ ⟨_, _, List.mem_singleton.mpr rfl, trivial, h_M0 hT⟩)
    refine hK _ _ _ _ (hK _ _ _ _ (?_))
    refine hK _ _ _ _ ⟨_, h_pI hct_J6_bitCount_0f7a4 rfl rfl rfl (show (1 : Nat) ≤ e + 2 by omega) (h_I trivial) hT, rfl, fun v M2 g => ?_⟩
    obtain ⟨⟨y, rfl, -⟩, rfl⟩ := g
    refine hK _ _ _ _ (hK _ _ _ _ ⟨fun h => ?_, fun h => ?_⟩)
    · refine hK _ _ _ _ (hK _ _ _ _ (hK _ _ _ _ (hK _ _ _ _ (?_))))
      exact hK _ _ _ _ (ih _ (v_up hm h1) _ _ rfl)
    · refine hK _ _ _ _ (hK _ _ _ _ (hK _ _ _ _ (hK _ _ _ _ (hK _ _ _ _ (?_)))))
      exact hK _ _ _ _ (ih _ (v_up hm h1) _ _ rfl)
  refine hK _ _ _ _ (hK _ _ _ _ (hK _ _ _ _ (hK _ _ _ _ (?_))))
  exact lp _ _ _ rfl
def ct_X7_overShape_0 : zCt := (119, [.inr (.inr (24, 0))], [], [], [.inl (some (.inr (.inl none)), [])], 6)
theorem hct_X7_overShape_0 : z_ctH zTb ct_X7_overShape_0 := z_ct_ok [] z_hds_ok [ct_X6_at__25_0, ct_X2_commutators_0, ct_X2_order_0, ct_X0_isFlat_0, ct_X0_isClosed_0, ct_X7_together_25] [] 4 2 (List.forall_mem_cons.mpr ⟨hct_X6_at__25_0, List.forall_mem_cons.mpr ⟨hct_X2_commutators_0, List.forall_mem_cons.mpr ⟨hct_X2_order_0, List.forall_mem_cons.mpr ⟨hct_X0_isFlat_0, List.forall_mem_cons.mpr ⟨hct_X0_isClosed_0, List.forall_mem_cons.mpr ⟨hct_X7_together_25, fun _ h => absurd h List.not_mem_nil⟩⟩⟩⟩⟩⟩) (by decide +kernel)
def ct_X7_ofStates_0 : zCt := (120, [.inr (.inr (24, 0))], [], [(25, 0, 7), (26, 0, 7), (27, 0, 7)], [.inl (some (.inr (.inl none)), [])], 9)
theorem hct_X7_ofStates_0 : z_ctH zTb ct_X7_ofStates_0 := z_ct_ok [] z_hds_ok [ct_X0_wide_0, ct_X0_high_0, ct_X0_squareAt_0, ct_X7_begin_0, ct_X7_multiplyOnce_0, ct_X7_takeSquare_0, ct_X7_overShape_0] [] 7 2 (List.forall_mem_cons.mpr ⟨hct_X0_wide_0, List.forall_mem_cons.mpr ⟨hct_X0_high_0, List.forall_mem_cons.mpr ⟨hct_X0_squareAt_0, List.forall_mem_cons.mpr ⟨hct_X7_begin_0, List.forall_mem_cons.mpr ⟨hct_X7_multiplyOnce_0, List.forall_mem_cons.mpr ⟨hct_X7_takeSquare_0, List.forall_mem_cons.mpr ⟨hct_X7_overShape_0, fun _ h => absurd h List.not_mem_nil⟩⟩⟩⟩⟩⟩⟩) (by decide +kernel)
def ct_X7_statesTurned_0 : zCt := (121, [.inr (.inr (24, 0)), .inl (0, 4294967295)], [], [(25, 0, 7), (26, 0, 7), (27, 0, 7)], [.inl (some (.inr (.inl none)), [])], 9)
theorem hct_X7_statesTurned_0 : z_ctH zTb ct_X7_statesTurned_0 := z_ct_ok [] z_hds_ok [ct_X0_squares_0, ct_X0_holes_0, ct_X7_begin_0, ct_X7_multiply, ct_X7_takeSame_0, ct_X7_choices, ct_X7_overShape_0] [] 7 2 (List.forall_mem_cons.mpr ⟨hct_X0_squares_0, List.forall_mem_cons.mpr ⟨hct_X0_holes_0, List.forall_mem_cons.mpr ⟨hct_X7_begin_0, List.forall_mem_cons.mpr ⟨hct_X7_multiply, List.forall_mem_cons.mpr ⟨hct_X7_takeSame_0, List.forall_mem_cons.mpr ⟨hct_X7_choices, List.forall_mem_cons.mpr ⟨hct_X7_overShape_0, fun _ h => absurd h List.not_mem_nil⟩⟩⟩⟩⟩⟩⟩) (by decide +kernel)
def ct_X7_ofWalk_0 : zCt := (123, [.inr (.inr (24, 0)), .inr (.inr (17, 0)), .inl (0, 4294967295)], [], [(25, 0, 7), (26, 0, 7), (27, 0, 7)], [.inl (some (.inr (.inl none)), [])], 9)
theorem hct_X7_ofWalk_0 : z_ctH zTb ct_X7_ofWalk_0 := z_ct_ok [] z_hds_ok [ct_X6_at__25_0, ct_X2_against_0, ct_X2_kinOf_0, ct_X2_order_0, ct_X0_wide_0, ct_X0_high_0, ct_X0_squareAt_0, ct_X9_windsRound, ct_X7_begin_0, ct_X7_multiplyOnce_0, ct_X7_takeSquare_0, ct_X7_together_27] [] 7 2 (List.forall_mem_cons.mpr ⟨hct_X6_at__25_0, List.forall_mem_cons.mpr ⟨hct_X2_against_0, List.forall_mem_cons.mpr ⟨hct_X2_kinOf_0, List.forall_mem_cons.mpr ⟨hct_X2_order_0, List.forall_mem_cons.mpr ⟨hct_X0_wide_0, List.forall_mem_cons.mpr ⟨hct_X0_high_0, List.forall_mem_cons.mpr ⟨hct_X0_squareAt_0, List.forall_mem_cons.mpr ⟨hct_X9_windsRound, List.forall_mem_cons.mpr ⟨hct_X7_begin_0, List.forall_mem_cons.mpr ⟨hct_X7_multiplyOnce_0, List.forall_mem_cons.mpr ⟨hct_X7_takeSquare_0, List.forall_mem_cons.mpr ⟨hct_X7_together_27, fun _ h => absurd h List.not_mem_nil⟩⟩⟩⟩⟩⟩⟩⟩⟩⟩⟩⟩) (by decide +kernel)
def ct_X7_restsInAll_0 : zCt := (124, [.inr (.inr (24, 0))], [], [], [.inl (some (.inl (0, 4294967295)), [])], 6)
theorem hct_X7_restsInAll_0 : z_ctH zTb ct_X7_restsInAll_0 := z_ct_ok [] z_hds_ok [ct_X2_commutators_0, ct_X2_order_0, ct_X0_isFlat_0, ct_X0_isClosed_0] [] 4 2 (List.forall_mem_cons.mpr ⟨hct_X2_commutators_0, List.forall_mem_cons.mpr ⟨hct_X2_order_0, List.forall_mem_cons.mpr ⟨hct_X0_isFlat_0, List.forall_mem_cons.mpr ⟨hct_X0_isClosed_0, fun _ h => absurd h List.not_mem_nil⟩⟩⟩⟩) (by decide +kernel)
def ct_X7_commutingPairsOnce_0 : zCt := (126, [.inr (.inr (24, 0))], [], [], [.inl (some (.inl (2147483648, 2147483904)), [])], 8)
theorem hct_X7_commutingPairsOnce_0 : z_ctH zTb ct_X7_commutingPairsOnce_0 := z_ct_ok [] z_hds_ok [ct_X2_commute_0, ct_X2_order_0] [] 6 2 (List.forall_mem_cons.mpr ⟨hct_X2_commute_0, List.forall_mem_cons.mpr ⟨hct_X2_order_0, fun _ h => absurd h List.not_mem_nil⟩⟩) (by decide +kernel)
def ct_X7_restsOnce_0 : zCt := (125, [.inr (.inr (24, 0))], [], [], [.inl (some (.inl (0, 4294967295)), [])], 10)
theorem hct_X7_restsOnce_0 : z_ctH zTb ct_X7_restsOnce_0 := z_ct_ok [] z_hds_ok [ct_X2_kins_0, ct_X0_isFlat_0, ct_X0_isClosed_0, ct_X7_commutingPairsOnce_0] [] 8 2 (List.forall_mem_cons.mpr ⟨hct_X2_kins_0, List.forall_mem_cons.mpr ⟨hct_X0_isFlat_0, List.forall_mem_cons.mpr ⟨hct_X0_isClosed_0, List.forall_mem_cons.mpr ⟨hct_X7_commutingPairsOnce_0, fun _ h => absurd h List.not_mem_nil⟩⟩⟩⟩) (by decide +kernel)
def ct_X7_dualOf_0 : zCt := (128, [.inr (.inr (24, 0)), .inl (0, 4294967295)], [], [], [.inl (some (.inl (0, 4294967295)), [])], 5)
theorem hct_X7_dualOf_0 : z_ctH zTb ct_X7_dualOf_0 := z_ct_ok [] z_hds_ok [ct_X2_order_0, ct_X0_weight_0, ct_J6_bitCount_0f7a4] [] 3 2 (List.forall_mem_cons.mpr ⟨hct_X2_order_0, List.forall_mem_cons.mpr ⟨hct_X0_weight_0, List.forall_mem_cons.mpr ⟨hct_J6_bitCount_0f7a4, fun _ h => absurd h List.not_mem_nil⟩⟩⟩) (by decide +kernel)
def ct_X7_ofDuals_0 : zCt := (129, [.inr (.inr (24, 0))], [], [], [.inl (some (.inr (.inl none)), [])], 7)
theorem hct_X7_ofDuals_0 : z_ctH zTb ct_X7_ofDuals_0 := z_ct_ok [] z_hds_ok [ct_X2_order_0, ct_X0_wide_0, ct_X0_high_0, ct_X0_squareAt_0, ct_X0_isHole_0, ct_X7_dualOf_0] [] 5 2 (List.forall_mem_cons.mpr ⟨hct_X2_order_0, List.forall_mem_cons.mpr ⟨hct_X0_wide_0, List.forall_mem_cons.mpr ⟨hct_X0_high_0, List.forall_mem_cons.mpr ⟨hct_X0_squareAt_0, List.forall_mem_cons.mpr ⟨hct_X0_isHole_0, List.forall_mem_cons.mpr ⟨hct_X7_dualOf_0, fun _ h => absurd h List.not_mem_nil⟩⟩⟩⟩⟩⟩) (by decide +kernel)
def ct_X7_ofBody : zCt := (127, [.inr (.inr (24, 0)), .inl (2147483648, 2147483654), .inl (2147483648, 2147483650), .inl (2147483648, 2147483650)], [], [(25, 0, 7), (26, 0, 7), (27, 0, 7)], [.inl (some (.inr (.inl none)), [])], 9)
theorem hct_X7_ofBody : z_ctH zTb ct_X7_ofBody := z_ct_ok [] z_hds_ok [ct_X6_at__25_0, ct_X6_put__27_0, ct_X2_commutators_0, ct_X2_roots_0, ct_X2_order_0, ct_X0_weight_0, ct_X7_begin_0, ct_X7_multiply] [] 7 2 (List.forall_mem_cons.mpr ⟨hct_X6_at__25_0, List.forall_mem_cons.mpr ⟨hct_X6_put__27_0, List.forall_mem_cons.mpr ⟨hct_X2_commutators_0, List.forall_mem_cons.mpr ⟨hct_X2_roots_0, List.forall_mem_cons.mpr ⟨hct_X2_order_0, List.forall_mem_cons.mpr ⟨hct_X0_weight_0, List.forall_mem_cons.mpr ⟨hct_X7_begin_0, List.forall_mem_cons.mpr ⟨hct_X7_multiply, fun _ h => absurd h List.not_mem_nil⟩⟩⟩⟩⟩⟩⟩⟩) (by decide +kernel)
def ct_X4_turnOf_0 : zCt := (88, [.inr (.inr (28, 0)), .inl (0, 4294967295)], [], [], [.inl (some (.inl (0, 4294967295)), [])], 3)
theorem hct_X4_turnOf_0 : z_ctH zTb ct_X4_turnOf_0 := z_ct_ok [] z_hds_ok [ct_X6_at_31_0, ct_X6_at_32_0] [] 1 2 (List.forall_mem_cons.mpr ⟨hct_X6_at_31_0, List.forall_mem_cons.mpr ⟨hct_X6_at_32_0, fun _ h => absurd h List.not_mem_nil⟩⟩) (by decide +kernel)
def ct_X4_comesRound_0 : zCt := (87, [.inr (.inr (28, 0)), .inl (0, 4294967295)], [], [], [.inl (some (.inl (0, 4294967295)), [])], 5)
theorem hct_X4_comesRound_0 : z_ctH zTb ct_X4_comesRound_0 := z_ct_ok [] z_hds_ok [ct_X2_times_0, ct_X2_against_0, ct_X4_turnOf_0] [] 3 2 (List.forall_mem_cons.mpr ⟨hct_X2_times_0, List.forall_mem_cons.mpr ⟨hct_X2_against_0, List.forall_mem_cons.mpr ⟨hct_X4_turnOf_0, fun _ h => absurd h List.not_mem_nil⟩⟩⟩) (by decide +kernel)
def ct_X4_findLevels : zCt := (82, [.inr (.inr (28, 0))], [], [(28, 2, 2), (29, 0, 31), (30, 0, 31), (31, 0, 31)], [.inl (none, [(458754, (2147483648, 2147483680))])], 5)
theorem hct_X4_findLevels : z_ctH zTb ct_X4_findLevels := z_ct_ok [(28, 2, 2)] z_hds_ok [ct_X6_put_29_0, ct_X6_put_30_0, ct_X6_put_31_0, ct_X0_hasLine_0, ct_X0_isOfTree_0] [] 3 2 (List.forall_mem_cons.mpr ⟨hct_X6_put_29_0, List.forall_mem_cons.mpr ⟨hct_X6_put_30_0, List.forall_mem_cons.mpr ⟨hct_X6_put_31_0, List.forall_mem_cons.mpr ⟨hct_X0_hasLine_0, List.forall_mem_cons.mpr ⟨hct_X0_isOfTree_0, fun _ h => absurd h List.not_mem_nil⟩⟩⟩⟩⟩) (by decide +kernel)
def ct_X4_findSquare : zCt := (84, [.inr (.inr (28, 0)), .inl (2147483648, 2147483658)], [], [(32, 0, 15), (33, 0, 3), (34, 0, 31)], [.inl (none, [])], 9)
theorem hct_X4_findSquare : z_ctH zTb ct_X4_findSquare := z_ct_ok [] z_hds_ok [ct_X6_at_30_0, ct_X6_put_32_0, ct_X6_put_33_0, ct_X6_put_34_0, ct_X2_order_0, ct_X0_sideOf_0, ct_X0_weightIn_0] [] 7 2 (List.forall_mem_cons.mpr ⟨hct_X6_at_30_0, List.forall_mem_cons.mpr ⟨hct_X6_put_32_0, List.forall_mem_cons.mpr ⟨hct_X6_put_33_0, List.forall_mem_cons.mpr ⟨hct_X6_put_34_0, List.forall_mem_cons.mpr ⟨hct_X2_order_0, List.forall_mem_cons.mpr ⟨hct_X0_sideOf_0, List.forall_mem_cons.mpr ⟨hct_X0_weightIn_0, fun _ h => absurd h List.not_mem_nil⟩⟩⟩⟩⟩⟩⟩) (by decide +kernel)
def ct_X4_findSquare_a : zCt := (84, [.inr (.inr (28, 0)), .inl (0, 4294967295)], [], [(32, 0, 15), (33, 0, 3), (34, 0, 31)], [.inl (none, [])], 9)
theorem hct_X4_findSquare_a : z_ctH zTb ct_X4_findSquare_a := z_ct_ok [] z_hds_ok [ct_X6_at_30_0, ct_X6_put_32_0, ct_X6_put_33_0, ct_X6_put_34_0, ct_X2_order_0, ct_X0_sideOf_0, ct_X0_weightIn_0] [] 7 2 (List.forall_mem_cons.mpr ⟨hct_X6_at_30_0, List.forall_mem_cons.mpr ⟨hct_X6_put_32_0, List.forall_mem_cons.mpr ⟨hct_X6_put_33_0, List.forall_mem_cons.mpr ⟨hct_X6_put_34_0, List.forall_mem_cons.mpr ⟨hct_X2_order_0, List.forall_mem_cons.mpr ⟨hct_X0_sideOf_0, List.forall_mem_cons.mpr ⟨hct_X0_weightIn_0, fun _ h => absurd h List.not_mem_nil⟩⟩⟩⟩⟩⟩⟩) (by decide +kernel)
def ct_X4_findSquares : zCt := (83, [.inr (.inr (28, 0))], [], [(28, 3, 3), (32, 0, 15), (33, 0, 3), (34, 0, 31)], [.inl (none, [(458755, (2147483649, 2147483657))])], 11)
theorem hct_X4_findSquares : z_ctH zTb ct_X4_findSquares := z_ct_ok [(28, 3, 3)] z_hds_ok [ct_X0_wide_0, ct_X0_high_0, ct_X0_squareAt_0, ct_X4_findSquare_a] [] 9 2 (List.forall_mem_cons.mpr ⟨hct_X0_wide_0, List.forall_mem_cons.mpr ⟨hct_X0_high_0, List.forall_mem_cons.mpr ⟨hct_X0_squareAt_0, List.forall_mem_cons.mpr ⟨hct_X4_findSquare_a, fun _ h => absurd h List.not_mem_nil⟩⟩⟩⟩) (by decide +kernel)
def ct_X4_goOn : zCt := (85, [.inr (.inr (28, 0))], [], [(31, 0, 31)], [.inl (some (.inl (2147483648, 2147483679)), []), .inl (some (.inl (2147483647, 2147483647)), [])], 4)
theorem hct_X4_goOn : z_ctH zTb ct_X4_goOn := z_ct_ok [] z_hds_ok [ct_X6_at_29_0, ct_X6_at_31_0, ct_X6_put_31_0, ct_X2_order_0] [] 2 2 (List.forall_mem_cons.mpr ⟨hct_X6_at_29_0, List.forall_mem_cons.mpr ⟨hct_X6_at_31_0, List.forall_mem_cons.mpr ⟨hct_X6_put_31_0, List.forall_mem_cons.mpr ⟨hct_X2_order_0, fun _ h => absurd h List.not_mem_nil⟩⟩⟩⟩) (by decide +kernel)
def ct_X4_weighFrom : zCt := (86, [.inr (.inr (28, 0)), .inl (2147483648, 2147483679)], [], [(35, 0, 32)], [.inl (none, [])], 7)
theorem hct_X4_weighFrom : z_ctH zTb ct_X4_weighFrom := z_ct_ok [] z_hds_ok [ct_X6_at_33_0, ct_X6_at_34_0, ct_X6_at__35_0, ct_X6_put__35_0, ct_X4_comesRound_0] [] 5 2 (List.forall_mem_cons.mpr ⟨hct_X6_at_33_0, List.forall_mem_cons.mpr ⟨hct_X6_at_34_0, List.forall_mem_cons.mpr ⟨hct_X6_at__35_0, List.forall_mem_cons.mpr ⟨hct_X6_put__35_0, List.forall_mem_cons.mpr ⟨hct_X4_comesRound_0, fun _ h => absurd h List.not_mem_nil⟩⟩⟩⟩⟩) (by decide +kernel)
def ct_X4_ofStates : zCt := (81, [.inr (.inr (28, 0))], [], [(28, 2, 3), (29, 0, 31), (30, 0, 31), (31, 0, 31), (32, 0, 15), (33, 0, 3), (34, 0, 31), (35, 0, 32)], [.inl (some (.inr (.inl none)), [])], 12)
set_option maxRecDepth 10000 in
theorem hct_X4_ofStates : z_ctH zTb ct_X4_ofStates := by
  intro nS d as M hd hS hT hG
  obtain ⟨e, rfl⟩ := h_rk hd
  have h1 := h_S1 (by decide) hS
  subst h1
  show aC nS (e + 11 + 1) 81 _ M _ _
  refine aC_mk rfl rfl ?_
  intro K hK hF
  have lp : ∀ (n : Nat) (M1 : aM) (x1 : Int64) (x3 x4 : Int32), 4294967296 - z_b x4 = n → z_i (2147483647, 2147483679) x3 → z_M (zTb, [(28, 2, 3), (29, 0, 31), (30, 0, 31), (31, 0, 31), (32, 0, 15), (33, 0, 3), (34, 0, 31), (35, 0, 32)], []) M [] M1 → K 24 [some (vR 28 0), some (vL x1), none, some (vI x3), some (vI x4)] [] M1 := by
    intro n
    induction n using Nat.strongRecOn with
    | ind n ih =>
    intro M1 x1 x3 x4 hm hx hM
    have tail : K 66 [some (vR 28 0), some (vL x1), none, some (vI x3), some (vI x4)] [] M1 := hK _ _ _ _ (hK _ _ _ _ ⟨_, _, List.mem_singleton.mpr rfl, trivial, hM⟩)
    refine hK _ _ _ _ (hK _ _ _ _ (?_))
    refine hK _ _ _ _ ⟨fun h => tail, fun h1 => ?_⟩
    refine hK _ _ _ _ (hK _ _ _ _ (?_))
    refine hK _ _ _ _ ⟨fun h => tail, fun h2 => ?_⟩
    have hx2 : z_i (2147483648, 2147483679) x3 := by
      refine ⟨?_, hx.2⟩
      have h3 : ¬ z_b x3 = 2147483647 := fun z => h2 (z_b_inj (z.trans z_b_m1.symm))
      have h4 := hx.1
      dsimp only at h4 ⊢
      omega
    refine hK _ _ _ _ (hK _ _ _ _ (?_))
    refine hK _ _ _ _ ⟨_, h_pW hct_X4_weighFrom rfl rfl (show (7 : Nat) ≤ e + 11 by omega) (h_R (h_Iv hx2 trivial)) hM.1, rfl, fun v M2 g => ?_⟩
    obtain ⟨g1, g2⟩ := g
    have g1 := h_ovN g1
    subst g1
    have hM2 : z_M (zTb, [(28, 2, 3), (29, 0, 31), (30, 0, 31), (31, 0, 31), (32, 0, 15), (33, 0, 3), (34, 0, 31), (35, 0, 32)], []) M [] M2 := h_Mt hM g2 (by decide)
    refine hK _ _ _ _ (hK _ _ _ _ (hK _ _ _ _ (hK _ _ _ _ (hK _ _ _ _ (?_)))))
    refine hK _ _ _ _ ⟨_, h_pW hct_X6_at__35_0 rfl rfl (show (1 : Nat) ≤ e + 11 by omega) (h_R (h_I trivial)) hM2.1, rfl, fun v M3 g => ?_⟩
    obtain ⟨g1, g3⟩ := g
    obtain ⟨y, rfl⟩ := h_ovJ g1
    have hM3 : z_M (zTb, [(28, 2, 3), (29, 0, 31), (30, 0, 31), (31, 0, 31), (32, 0, 15), (33, 0, 3), (34, 0, 31), (35, 0, 32)], []) M [] M3 := h_Mt hM2 g3 (by decide)
    refine hK _ _ _ _ (hK _ _ _ _ (hK _ _ _ _ (?_)))
    refine hK _ _ _ _ ⟨_, h_p2 hct_X4_goOn rfl (show (4 : Nat) ≤ e + 11 by omega) (h_R trivial) hM3.1 h_MG0, rfl, fun v M4 g => ?_⟩
    obtain ⟨y, rfl, g4⟩ := g
    have hy : z_i (2147483647, 2147483679) y ∧ z_M (zTb, [(28, 2, 3), (29, 0, 31), (30, 0, 31), (31, 0, 31), (32, 0, 15), (33, 0, 3), (34, 0, 31), (35, 0, 32)], []) M [] M4 := by
      rcases g4 with ⟨q1, q2⟩ | ⟨q1, q2⟩
      · exact ⟨z_iI_ok (by decide) q1, h_Mt hM3 (h_Md q2) (by decide)⟩
      · exact ⟨z_iI_ok (by decide) q1, h_Mt hM3 (h_Md q2) (by decide)⟩
    refine hK _ _ _ _ (hK _ _ _ _ (hK _ _ _ _ (?_)))
    exact ih _ (v_up hm h1) _ _ _ _ rfl hy.1 hy.2
  refine hK _ _ _ _ (?_)
  refine hK _ _ _ _ ⟨_, h_pW hct_X4_findLevels rfl rfl (show (5 : Nat) ≤ e + 11 by omega) (h_R trivial) hT, rfl, fun v M2 g => ?_⟩
  obtain ⟨g1, g2⟩ := g
  have g1 := h_ovN g1
  subst g1
  have hM2 : z_M (zTb, [(28, 2, 3), (29, 0, 31), (30, 0, 31), (31, 0, 31), (32, 0, 15), (33, 0, 3), (34, 0, 31), (35, 0, 32)], []) M [] M2 := h_Mt (h_M0 hT) g2 (by decide)
  refine hK _ _ _ _ (?_)
  refine hK _ _ _ _ ⟨_, h_pW hct_X4_findSquares rfl rfl (show (11 : Nat) ≤ e + 11 by omega) (h_R trivial) hM2.1, rfl, fun v M3 g => ?_⟩
  obtain ⟨g1, g3⟩ := g
  have g1 := h_ovN g1
  subst g1
  have hM4 : z_M (zTb, [(28, 2, 3), (29, 0, 31), (30, 0, 31), (31, 0, 31), (32, 0, 15), (33, 0, 3), (34, 0, 31), (35, 0, 32)], []) M [] M3 := h_Mt hM2 g3 (by decide)
  refine hK _ _ _ _ (hK _ _ _ _ (hK _ _ _ _ (hK _ _ _ _ (?_))))
  refine hK _ _ _ _ ⟨_, h_pW hct_X6_put__35_0 rfl rfl (show (1 : Nat) ≤ e + 11 by omega) (h_R (h_I ⟨trivial, trivial⟩)) hM4.1, rfl, fun v M4 g => ?_⟩
  obtain ⟨g1, g4⟩ := g
  have g1 := h_ovN g1
  subst g1
  have hM5 : z_M (zTb, [(28, 2, 3), (29, 0, 31), (30, 0, 31), (31, 0, 31), (32, 0, 15), (33, 0, 3), (34, 0, 31), (35, 0, 32)], []) M [] M4 := h_Mt hM4 g4 (by decide)
  refine hK _ _ _ _ (hK _ _ _ _ (hK _ _ _ _ (hK _ _ _ _ (hK _ _ _ _ (hK _ _ _ _ (?_))))))
  exact lp _ _ _ _ _ rfl (by rw [show z_i (2147483647, 2147483679) 0 ↔ _ from Iff.rfl]; unfold z_i; rw [z_b0]; decide) hM5
def ct_X10_board_0 : zCt := (152, [.inr (.inr (0, 0))], [], [(1, 1, 1), (3, 1, 5), (4, 1, 6), (5, 0, 2), (6, 0, 63), (7, 0, 7), (8, 0, 7), (9, 0, 7), (10, 0, 7), (11, 0, 7), (12, 0, 31), (13, 0, 7), (14, 0, 15), (20, 4, 5)], [.inr (.inl (0, [(16385, (2147483648, 2147483648))])), .inr (.inl (1, [(16385, (2147483648, 2147483648))])), .inl (some (.inl (0, 4294967295)), [(16385, (2147483648, 2147483648))])], 16)
theorem hct_X10_board_0 : z_ctH zTb ct_X10_board_0 := z_ct_ok [] z_hds_ok [ct_X0_countText_1, ct_X0_texts_0, ct_X0_copyFrom_1_0, ct_X0_copyFrom_0_1, ct_X8_clearc, ct_X1_read, ct_X3_forget_0] [] 14 2 (List.forall_mem_cons.mpr ⟨hct_X0_countText_1, List.forall_mem_cons.mpr ⟨hct_X0_texts_0, List.forall_mem_cons.mpr ⟨hct_X0_copyFrom_1_0, List.forall_mem_cons.mpr ⟨hct_X0_copyFrom_0_1, List.forall_mem_cons.mpr ⟨hct_X8_clearc, List.forall_mem_cons.mpr ⟨hct_X1_read, List.forall_mem_cons.mpr ⟨hct_X3_forget_0, fun _ h => absurd h List.not_mem_nil⟩⟩⟩⟩⟩⟩⟩) (by decide +kernel)
def ct_X10_fault_0 : zCt := (153, [.inr (.inr (0, 0))], [], [], [.inl (some (.inl (0, 4294967295)), [])], 4)
theorem hct_X10_fault_0 : z_ctH zTb ct_X10_fault_0 := z_ct_ok [] z_hds_ok [ct_X5_wrong_0] [] 2 2 (List.forall_mem_cons.mpr ⟨hct_X5_wrong_0, fun _ h => absurd h List.not_mem_nil⟩) (by decide +kernel)
def ct_X10_by_0 : zCt := (154, [.inr (.inr (0, 0)), .inl (0, 4294967295), .inl (0, 4294967295)], [], [], [.inl (some (.inl (0, 4294967295)), []), .inr (.inl (2, []))], 8)
theorem hct_X10_by_0 : z_ctH zTb ct_X10_by_0 := z_ct_ok [] z_hds_ok [ct_X2_times_0, ct_X2_has_0, ct_X0_group_0] [] 6 2 (List.forall_mem_cons.mpr ⟨hct_X2_times_0, List.forall_mem_cons.mpr ⟨hct_X2_has_0, List.forall_mem_cons.mpr ⟨hct_X0_group_0, fun _ h => absurd h List.not_mem_nil⟩⟩⟩) (by decide +kernel)
def ct_X10_turn_0 : zCt := (155, [.inr (.inr (0, 0)), .inl (0, 4294967295), .inl (0, 4294967295)], [], [], [.inl (some (.inl (0, 4294967295)), []), .inr (.inl (3, [])), .inr (.inl (2, []))], 9)
theorem hct_X10_turn_0 : z_ctH zTb ct_X10_turn_0 := z_ct_ok [] z_hds_ok [ct_X2_against_0, ct_X2_timesToRest_0, ct_X2_kinOf_0, ct_X2_kinSize_0, ct_X2_commutators_0, ct_X2_roots_0, ct_X2_has_0, ct_X0_group_0, ct_X0_weight_0] [] 7 2 (List.forall_mem_cons.mpr ⟨hct_X2_against_0, List.forall_mem_cons.mpr ⟨hct_X2_timesToRest_0, List.forall_mem_cons.mpr ⟨hct_X2_kinOf_0, List.forall_mem_cons.mpr ⟨hct_X2_kinSize_0, List.forall_mem_cons.mpr ⟨hct_X2_commutators_0, List.forall_mem_cons.mpr ⟨hct_X2_roots_0, List.forall_mem_cons.mpr ⟨hct_X2_has_0, List.forall_mem_cons.mpr ⟨hct_X0_group_0, List.forall_mem_cons.mpr ⟨hct_X0_weight_0, fun _ h => absurd h List.not_mem_nil⟩⟩⟩⟩⟩⟩⟩⟩⟩) (by decide +kernel)
def ct_X10_line_0 : zCt := (156, [.inr (.inr (0, 0)), .inl (0, 4294967295), .inl (0, 4294967295), .inl (2147483648, 2147483649)], [], [], [.inr (.inl (2, [])), .inl (some (.inl (0, 4294967295)), [])], 8)
theorem hct_X10_line_0 : z_ctH zTb ct_X10_line_0 := z_ct_ok [] z_hds_ok [ct_X0_lineAt_0, ct_X0_turnOn_0] [] 6 2 (List.forall_mem_cons.mpr ⟨hct_X0_lineAt_0, List.forall_mem_cons.mpr ⟨hct_X0_turnOn_0, fun _ h => absurd h List.not_mem_nil⟩⟩) (by decide +kernel)
def ct_X10_set_0 : zCt := (157, [.inr (.inr (0, 0)), .inl (0, 4294967295), .inl (0, 4294967295), .inl (2147483648, 2147483649), .inl (0, 4294967295)], [], [(12, 0, 31), (20, 4, 5), (21, 0, 19), (22, 0, 19), (23, 0, 19)], [.inl (some (.inl (0, 4294967295)), []), .inr (.inl (2, []))], 9)
theorem hct_X10_set_0 : z_ctH zTb ct_X10_set_0 := z_ct_ok [] z_hds_ok [ct_X2_has_0, ct_X0_group_0, ct_X0_lineAt_0, ct_X0_turnOn_0, ct_X0_putTurn_0, ct_X3_noteLine_0] [] 7 2 (List.forall_mem_cons.mpr ⟨hct_X2_has_0, List.forall_mem_cons.mpr ⟨hct_X0_group_0, List.forall_mem_cons.mpr ⟨hct_X0_lineAt_0, List.forall_mem_cons.mpr ⟨hct_X0_turnOn_0, List.forall_mem_cons.mpr ⟨hct_X0_putTurn_0, List.forall_mem_cons.mpr ⟨hct_X3_noteLine_0, fun _ h => absurd h List.not_mem_nil⟩⟩⟩⟩⟩⟩) (by decide +kernel)
def ct_X10_round_0 : zCt := (158, [.inr (.inr (0, 0)), .inl (0, 4294967295), .inl (0, 4294967295)], [], [], [.inr (.inl (2, [])), .inl (some (.inl (0, 4294967295)), [])], 11)
theorem hct_X10_round_0 : z_ctH zTb ct_X10_round_0 := z_ct_ok [] z_hds_ok [ct_X0_squareAt_0, ct_X0_turnRound_0] [] 9 2 (List.forall_mem_cons.mpr ⟨hct_X0_squareAt_0, List.forall_mem_cons.mpr ⟨hct_X0_turnRound_0, fun _ h => absurd h List.not_mem_nil⟩⟩) (by decide +kernel)
def ct_X10_frame_0 : zCt := (159, [.inr (.inr (0, 0)), .inl (0, 4294967295), .inl (0, 4294967295), .inl (0, 4294967295)], [], [(12, 0, 31), (20, 4, 5), (21, 0, 19), (22, 0, 19), (23, 0, 19)], [.inl (some (.inl (2147483648, 2147483680)), []), .inr (.inl (2, []))], 9)
theorem hct_X10_frame_0 : z_ctH zTb ct_X10_frame_0 := z_ct_ok [] z_hds_ok [ct_X2_against_0, ct_X2_has_0, ct_X0_group_0, ct_X0_cornerAt_0, ct_X0_reframe_0, ct_X3_noteFrame_0] [] 7 2 (List.forall_mem_cons.mpr ⟨hct_X2_against_0, List.forall_mem_cons.mpr ⟨hct_X2_has_0, List.forall_mem_cons.mpr ⟨hct_X0_group_0, List.forall_mem_cons.mpr ⟨hct_X0_cornerAt_0, List.forall_mem_cons.mpr ⟨hct_X0_reframe_0, List.forall_mem_cons.mpr ⟨hct_X3_noteFrame_0, fun _ h => absurd h List.not_mem_nil⟩⟩⟩⟩⟩⟩) (by decide +kernel)
def ct_X10_undo_0 : zCt := (160, [.inr (.inr (0, 0))], [], [(12, 0, 31), (20, 4, 4)], [.inl (some (.inl (2147483648, 2147483649)), [])], 12)
theorem hct_X10_undo_0 : z_ctH zTb ct_X10_undo_0 := z_ct_ok [] z_hds_ok [ct_X3_takeBack_0] [] 10 2 (List.forall_mem_cons.mpr ⟨hct_X3_takeBack_0, fun _ h => absurd h List.not_mem_nil⟩) (by decide +kernel)
def ct_X10_redo_0 : zCt := (161, [.inr (.inr (0, 0))], [], [(12, 0, 31), (20, 4, 4)], [.inl (some (.inl (2147483648, 2147483649)), [])], 12)
theorem hct_X10_redo_0 : z_ctH zTb ct_X10_redo_0 := z_ct_ok [] z_hds_ok [ct_X3_doAgain_0] [] 10 2 (List.forall_mem_cons.mpr ⟨hct_X3_doAgain_0, fun _ h => absurd h List.not_mem_nil⟩) (by decide +kernel)
def ct_X10_walk_0 : zCt := (162, [.inr (.inr (0, 0)), .inl (0, 4294967295)], [], [(1, 1, 1), (3, 1, 5), (17, 2, 6), (18, 0, 15), (19, 0, 15)], [.inr (.inl (0, [(16385, (2147483648, 2147483648))])), .inl (some (.inl (0, 4294967295)), [(16385, (2147483648, 2147483648))]), .inr (.inl (3, [(16385, (2147483648, 2147483648))]))], 16)
theorem hct_X10_walk_0 : z_ctH zTb ct_X10_walk_0 := z_ct_ok [] z_hds_ok [ct_X8_clearc, ct_X9_comesTo_0, ct_X9_length_0, ct_X9_isClosed_0, ct_X9_read_0] [] 14 2 (List.forall_mem_cons.mpr ⟨hct_X8_clearc, List.forall_mem_cons.mpr ⟨hct_X9_comesTo_0, List.forall_mem_cons.mpr ⟨hct_X9_length_0, List.forall_mem_cons.mpr ⟨hct_X9_isClosed_0, List.forall_mem_cons.mpr ⟨hct_X9_read_0, fun _ h => absurd h List.not_mem_nil⟩⟩⟩⟩⟩) (by decide +kernel)
def ct_X10_worth_0 : zCt := (163, [.inr (.inr (0, 0))], [], [], [.inl (some (.inr (.inl none)), [])], 13)
theorem hct_X10_worth_0 : z_ctH zTb ct_X10_worth_0 := z_ct_ok [] z_hds_ok [ct_X0_worthOfTurns_0] [] 11 2 (List.forall_mem_cons.mpr ⟨hct_X0_worthOfTurns_0, fun _ h => absurd h List.not_mem_nil⟩) (by decide +kernel)
def ct_X10_turned_0 : zCt := (164, [.inr (.inr (0, 0))], [], [], [.inl (some (.inl (2147483648, 2147483657)), [])], 13)
theorem hct_X10_turned_0 : z_ctH zTb ct_X10_turned_0 := z_ct_ok [] z_hds_ok [ct_X0_turnedSquares_0] [] 11 2 (List.forall_mem_cons.mpr ⟨hct_X0_turnedSquares_0, fun _ h => absurd h List.not_mem_nil⟩) (by decide +kernel)
def ct_X10_alike_0 : zCt := (165, [.inr (.inr (0, 0))], [], [(15, 0, 15)], [.inr (.inl (4, [])), .inl (some (.inl (2147483648, 2147483649)), [])], 12)
theorem hct_X10_alike_0 : z_ctH zTb ct_X10_alike_0 := z_ct_ok [] z_hds_ok [ct_X0_isReframed] [] 10 2 (List.forall_mem_cons.mpr ⟨hct_X0_isReframed, fun _ h => absurd h List.not_mem_nil⟩) (by decide +kernel)
def ct_X10_sum_0 : zCt := (166, [.inr (.inr (0, 0))], [], [(25, 0, 7), (26, 0, 7), (27, 0, 7)], [.inl (some (.inr (.inl none)), [])], 11)
theorem hct_X10_sum_0 : z_ctH zTb ct_X10_sum_0 := z_ct_ok [] z_hds_ok [ct_X7_ofStates_0] [] 9 2 (List.forall_mem_cons.mpr ⟨hct_X7_ofStates_0, fun _ h => absurd h List.not_mem_nil⟩) (by decide +kernel)
def ct_X10_listed_0 : zCt := (167, [.inr (.inr (0, 0))], [], [(28, 2, 3), (29, 0, 31), (30, 0, 31), (31, 0, 31), (32, 0, 15), (33, 0, 3), (34, 0, 31), (35, 0, 32)], [.inr (.inl (4, [])), .inl (some (.inr (.inl none)), [])], 14)
theorem hct_X10_listed_0 : z_ctH zTb ct_X10_listed_0 := z_ct_ok [] z_hds_ok [ct_X0_squares_0, ct_X4_ofStates] [] 12 2 (List.forall_mem_cons.mpr ⟨hct_X0_squares_0, List.forall_mem_cons.mpr ⟨hct_X4_ofStates, fun _ h => absurd h List.not_mem_nil⟩⟩) (by decide +kernel)
def ct_X10_states_0 : zCt := (168, [.inr (.inr (0, 0)), .inl (0, 4294967295)], [], [(25, 0, 7), (26, 0, 7), (27, 0, 7)], [.inl (some (.inr (.inl none)), [])], 11)
theorem hct_X10_states_0 : z_ctH zTb ct_X10_states_0 := z_ct_ok [] z_hds_ok [ct_X7_statesTurned_0] [] 9 2 (List.forall_mem_cons.mpr ⟨hct_X7_statesTurned_0, fun _ h => absurd h List.not_mem_nil⟩) (by decide +kernel)
def ct_X10_mean_0 : zCt := (169, [.inr (.inr (0, 0)), .inl (0, 4294967295)], [], [(1, 1, 1), (3, 1, 5), (17, 2, 6), (18, 0, 15), (19, 0, 15), (25, 0, 7), (26, 0, 7), (27, 0, 7)], [.inr (.inl (0, [(16385, (2147483648, 2147483648))])), .inl (some (.inr (.inl none)), [(16385, (2147483648, 2147483648))]), .inr (.inl (4, [(16385, (2147483648, 2147483648))])), .inr (.inl (2, [(16385, (2147483648, 2147483648))]))], 16)
theorem hct_X10_mean_0 : z_ctH zTb ct_X10_mean_0 := z_ct_ok [] z_hds_ok [ct_X2_hasKin_0, ct_X0_group_0, ct_X0_isFlat_0, ct_X8_clearc, ct_X9_read_0, ct_X9_isSimple_0, ct_X9_squaresWithin_0, ct_X7_ofWalk_0] [] 14 2 (List.forall_mem_cons.mpr ⟨hct_X2_hasKin_0, List.forall_mem_cons.mpr ⟨hct_X0_group_0, List.forall_mem_cons.mpr ⟨hct_X0_isFlat_0, List.forall_mem_cons.mpr ⟨hct_X8_clearc, List.forall_mem_cons.mpr ⟨hct_X9_read_0, List.forall_mem_cons.mpr ⟨hct_X9_isSimple_0, List.forall_mem_cons.mpr ⟨hct_X9_squaresWithin_0, List.forall_mem_cons.mpr ⟨hct_X7_ofWalk_0, fun _ h => absurd h List.not_mem_nil⟩⟩⟩⟩⟩⟩⟩⟩) (by decide +kernel)
def ct_X10_rests_0 : zCt := (170, [.inr (.inr (0, 0)), .inl (2147483648, 2147483649)], [], [], [.inl (some (.inl (0, 4294967295)), [])], 12)
theorem hct_X10_rests_0 : z_ctH zTb ct_X10_rests_0 := z_ct_ok [] z_hds_ok [ct_X7_restsInAll_0, ct_X7_restsOnce_0] [] 10 2 (List.forall_mem_cons.mpr ⟨hct_X7_restsInAll_0, List.forall_mem_cons.mpr ⟨hct_X7_restsOnce_0, fun _ h => absurd h List.not_mem_nil⟩⟩) (by decide +kernel)
def ct_X10_body_0 : zCt := (171, [.inr (.inr (0, 0)), .inl (0, 4294967295), .inl (0, 4294967295), .inl (0, 4294967295)], [], [(25, 0, 7), (26, 0, 7), (27, 0, 7)], [.inr (.inl (0, [])), .inl (some (.inr (.inl none)), [])], 11)
theorem hct_X10_body_0 : z_ctH zTb ct_X10_body_0 := z_ct_ok [] z_hds_ok [ct_X7_ofBody] [] 9 2 (List.forall_mem_cons.mpr ⟨hct_X7_ofBody, fun _ h => absurd h List.not_mem_nil⟩) (by decide +kernel)
def ct_X10_dual_0 : zCt := (172, [.inr (.inr (0, 0)), .inl (0, 4294967295)], [], [], [.inl (some (.inl (0, 4294967295)), []), .inr (.inl (4, [])), .inr (.inl (2, []))], 8)
theorem hct_X10_dual_0 : z_ctH zTb ct_X10_dual_0 := z_ct_ok [] z_hds_ok [ct_X2_has_0, ct_X2_isOfHalves_0, ct_X0_group_0, ct_X7_dualOf_0] [] 6 2 (List.forall_mem_cons.mpr ⟨hct_X2_has_0, List.forall_mem_cons.mpr ⟨hct_X2_isOfHalves_0, List.forall_mem_cons.mpr ⟨hct_X0_group_0, List.forall_mem_cons.mpr ⟨hct_X7_dualOf_0, fun _ h => absurd h List.not_mem_nil⟩⟩⟩⟩) (by decide +kernel)
def ct_X10_dualSum_0 : zCt := (173, [.inr (.inr (0, 0))], [], [], [.inl (some (.inr (.inl none)), []), .inr (.inl (4, []))], 9)
theorem hct_X10_dualSum_0 : z_ctH zTb ct_X10_dualSum_0 := z_ct_ok [] z_hds_ok [ct_X2_isOfHalves_0, ct_X0_group_0, ct_X0_isClosed_0, ct_X7_ofDuals_0] [] 7 2 (List.forall_mem_cons.mpr ⟨hct_X2_isOfHalves_0, List.forall_mem_cons.mpr ⟨hct_X0_group_0, List.forall_mem_cons.mpr ⟨hct_X0_isClosed_0, List.forall_mem_cons.mpr ⟨hct_X7_ofDuals_0, fun _ h => absurd h List.not_mem_nil⟩⟩⟩⟩) (by decide +kernel)
def ct_X10_draw_0 : zCt := (174, [.inr (.inr (0, 0)), .inl (0, 4294967295)], [], [(12, 0, 31), (20, 4, 5)], [.inr (.inl (4, [])), .inl (some (.inr (.inl none)), [])], 13)
theorem hct_X10_draw_0 : z_ctH zTb ct_X10_draw_0 := z_ct_ok [] z_hds_ok [ct_X0_isFlat_0, ct_X0_weightSum_0, ct_X0_worthOfTurns_0, ct_X0_drawTurns_0, ct_X3_forget_0] [] 11 2 (List.forall_mem_cons.mpr ⟨hct_X0_isFlat_0, List.forall_mem_cons.mpr ⟨hct_X0_weightSum_0, List.forall_mem_cons.mpr ⟨hct_X0_worthOfTurns_0, List.forall_mem_cons.mpr ⟨hct_X0_drawTurns_0, List.forall_mem_cons.mpr ⟨hct_X3_forget_0, fun _ h => absurd h List.not_mem_nil⟩⟩⟩⟩⟩) (by decide +kernel)
def ct_X10_image_0 : zCt := (175, [.inr (.inr (0, 0))], [], [(0, 5, 5), (4, 1, 6), (5, 0, 2), (6, 0, 63), (7, 0, 7), (8, 0, 7), (9, 0, 7), (10, 0, 7), (11, 0, 7), (12, 0, 31), (13, 0, 7), (14, 0, 15)], [.inl (none, [])], 11)
theorem hct_X10_image_0 : z_ctH zTb ct_X10_image_0 := z_ct_ok [] z_hds_ok [ct_X0_copyFrom_2_0] [] 9 2 (List.forall_mem_cons.mpr ⟨hct_X0_copyFrom_2_0, fun _ h => absurd h List.not_mem_nil⟩) (by decide +kernel)
def ct_X10_back_0 : zCt := (176, [.inr (.inr (0, 0))], [], [(4, 1, 6), (5, 0, 2), (6, 0, 63), (7, 0, 7), (8, 0, 7), (9, 0, 7), (10, 0, 7), (11, 0, 7), (12, 0, 31), (13, 0, 7), (14, 0, 15), (20, 4, 5)], [.inl (some (.inl (2147483648, 2147483649)), [])], 11)
theorem hct_X10_back_0 : z_ctH zTb ct_X10_back_0 := z_ct_ok [] z_hds_ok [ct_X0_copyFrom_0_2, ct_X3_forget_0] [] 9 2 (List.forall_mem_cons.mpr ⟨hct_X0_copyFrom_0_2, List.forall_mem_cons.mpr ⟨hct_X3_forget_0, fun _ h => absurd h List.not_mem_nil⟩⟩) (by decide +kernel)
def ct_X10_count_0 : zCt := (177, [.inr (.inr (0, 0)), .inl (0, 4294967295)], [], [], [.inl (some (.inl (0, 4294967295)), [])], 6)
theorem hct_X10_count_0 : z_ctH zTb ct_X10_count_0 := z_ct_ok [] z_hds_ok [ct_X2_commutators_0, ct_X2_kind_0, ct_X2_order_0, ct_X2_kins_0, ct_X0_group_0, ct_X0_wide_0, ct_X0_high_0, ct_X0_shape_0, ct_X0_texts_0, ct_X0_corners_0, ct_X0_lines_0, ct_X0_holes_0, ct_X3_undoable_0, ct_X3_redoable_0] [] 4 2 (List.forall_mem_cons.mpr ⟨hct_X2_commutators_0, List.forall_mem_cons.mpr ⟨hct_X2_kind_0, List.forall_mem_cons.mpr ⟨hct_X2_order_0, List.forall_mem_cons.mpr ⟨hct_X2_kins_0, List.forall_mem_cons.mpr ⟨hct_X0_group_0, List.forall_mem_cons.mpr ⟨hct_X0_wide_0, List.forall_mem_cons.mpr ⟨hct_X0_high_0, List.forall_mem_cons.mpr ⟨hct_X0_shape_0, List.forall_mem_cons.mpr ⟨hct_X0_texts_0, List.forall_mem_cons.mpr ⟨hct_X0_corners_0, List.forall_mem_cons.mpr ⟨hct_X0_lines_0, List.forall_mem_cons.mpr ⟨hct_X0_holes_0, List.forall_mem_cons.mpr ⟨hct_X3_undoable_0, List.forall_mem_cons.mpr ⟨hct_X3_redoable_0, fun _ h => absurd h List.not_mem_nil⟩⟩⟩⟩⟩⟩⟩⟩⟩⟩⟩⟩⟩⟩) (by decide +kernel)
