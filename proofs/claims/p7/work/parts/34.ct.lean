def ct_X6_at_2_0 : zCt := (104, [.inr (.inr (2, 0)), .inl (0, 4294967295)], [], [], [.inl (some (.inl (0, 4294967295)), [])], 1)
theorem hct_X6_at_2_0 : z_ctH zTb ct_X6_at_2_0 := z_ct_ok [] z_hds_ok [] [(true, 1, [(0, 2147483647), (2147483648, 2147484047), (2147484048, 4294967295)])] 0 1 (fun _ h => absurd h List.not_mem_nil) (by decide +kernel)
def ct_X6_put_2_0 : zCt := (106, [.inr (.inr (2, 0)), .inl (0, 4294967295), .inl (0, 4294967295)], [], [(2, 0, 399)], [.inl (none, [])], 1)
theorem hct_X6_put_2_0 : z_ctH zTb ct_X6_put_2_0 := z_ct_ok [] z_hds_ok [] [(true, 1, [(0, 2147483647), (2147483648, 2147484047), (2147484048, 4294967295)])] 0 1 (fun _ h => absurd h List.not_mem_nil) (by decide +kernel)
def ct_X6_add_2_0 : zCt := (107, [.inr (.inr (2, 0)), .inl (0, 4294967295), .inl (0, 4294967295)], [], [(2, 0, 399)], [.inl (none, [])], 1)
theorem hct_X6_add_2_0 : z_ctH zTb ct_X6_add_2_0 := z_ct_ok [] z_hds_ok [] [(true, 1, [(0, 2147483647), (2147483648, 2147484047), (2147484048, 4294967295)])] 0 1 (fun _ h => absurd h List.not_mem_nil) (by decide +kernel)
def ct_X6_fill_2_0 : zCt := (110, [.inr (.inr (2, 0)), .inl (0, 4294967295)], [], [(2, 0, 399)], [.inl (none, [])], 1)
theorem hct_X6_fill_2_0 : z_ctH zTb ct_X6_fill_2_0 := z_ct_ok [] z_hds_ok [] [] 0 1 (fun _ h => absurd h List.not_mem_nil) (by decide +kernel)
def ct_X6_at_6_0 : zCt := (104, [.inr (.inr (6, 0)), .inl (0, 4294967295)], [], [], [.inl (some (.inl (0, 4294967295)), [])], 1)
theorem hct_X6_at_6_0 : z_ctH zTb ct_X6_at_6_0 := z_ct_ok [] z_hds_ok [] [(true, 1, [(0, 2147483647), (2147483648, 2147483711), (2147483712, 4294967295)])] 0 1 (fun _ h => absurd h List.not_mem_nil) (by decide +kernel)
def ct_X6_put_6_0 : zCt := (106, [.inr (.inr (6, 0)), .inl (0, 4294967295), .inl (0, 4294967295)], [], [(6, 0, 63)], [.inl (none, [])], 1)
theorem hct_X6_put_6_0 : z_ctH zTb ct_X6_put_6_0 := z_ct_ok [] z_hds_ok [] [(true, 1, [(0, 2147483647), (2147483648, 2147483711), (2147483712, 4294967295)])] 0 1 (fun _ h => absurd h List.not_mem_nil) (by decide +kernel)
def ct_X6_add_6_0 : zCt := (107, [.inr (.inr (6, 0)), .inl (0, 4294967295), .inl (0, 4294967295)], [], [(6, 0, 63)], [.inl (none, [])], 1)
theorem hct_X6_add_6_0 : z_ctH zTb ct_X6_add_6_0 := z_ct_ok [] z_hds_ok [] [(true, 1, [(0, 2147483647), (2147483648, 2147483711), (2147483712, 4294967295)])] 0 1 (fun _ h => absurd h List.not_mem_nil) (by decide +kernel)
def ct_X6_fill_6_0 : zCt := (110, [.inr (.inr (6, 0)), .inl (0, 4294967295)], [], [(6, 0, 63)], [.inl (none, [])], 1)
theorem hct_X6_fill_6_0 : z_ctH zTb ct_X6_fill_6_0 := z_ct_ok [] z_hds_ok [] [] 0 1 (fun _ h => absurd h List.not_mem_nil) (by decide +kernel)
def ct_X6_at_6_1 : zCt := (104, [.inr (.inr (6, 1)), .inl (0, 4294967295)], [], [], [.inl (some (.inl (0, 4294967295)), [])], 1)
theorem hct_X6_at_6_1 : z_ctH zTb ct_X6_at_6_1 := z_ct_ok [] z_hds_ok [] [(true, 1, [(0, 2147483647), (2147483648, 2147483711), (2147483712, 4294967295)])] 0 1 (fun _ h => absurd h List.not_mem_nil) (by decide +kernel)
def ct_X6_put_6_1 : zCt := (106, [.inr (.inr (6, 1)), .inl (0, 4294967295), .inl (0, 4294967295)], [], [(6, 0, 63)], [.inl (none, [])], 1)
theorem hct_X6_put_6_1 : z_ctH zTb ct_X6_put_6_1 := z_ct_ok [] z_hds_ok [] [(true, 1, [(0, 2147483647), (2147483648, 2147483711), (2147483712, 4294967295)])] 0 1 (fun _ h => absurd h List.not_mem_nil) (by decide +kernel)
def ct_X6_add_6_1 : zCt := (107, [.inr (.inr (6, 1)), .inl (0, 4294967295), .inl (0, 4294967295)], [], [(6, 0, 63)], [.inl (none, [])], 1)
theorem hct_X6_add_6_1 : z_ctH zTb ct_X6_add_6_1 := z_ct_ok [] z_hds_ok [] [(true, 1, [(0, 2147483647), (2147483648, 2147483711), (2147483712, 4294967295)])] 0 1 (fun _ h => absurd h List.not_mem_nil) (by decide +kernel)
def ct_X6_fill_6_1 : zCt := (110, [.inr (.inr (6, 1)), .inl (0, 4294967295)], [], [(6, 0, 63)], [.inl (none, [])], 1)
theorem hct_X6_fill_6_1 : z_ctH zTb ct_X6_fill_6_1 := z_ct_ok [] z_hds_ok [] [] 0 1 (fun _ h => absurd h List.not_mem_nil) (by decide +kernel)
def ct_X6_at_6_2 : zCt := (104, [.inr (.inr (6, 2)), .inl (0, 4294967295)], [], [], [.inl (some (.inl (0, 4294967295)), [])], 1)
theorem hct_X6_at_6_2 : z_ctH zTb ct_X6_at_6_2 := z_ct_ok [] z_hds_ok [] [(true, 1, [(0, 2147483647), (2147483648, 2147483711), (2147483712, 4294967295)])] 0 1 (fun _ h => absurd h List.not_mem_nil) (by decide +kernel)
def ct_X6_put_6_2 : zCt := (106, [.inr (.inr (6, 2)), .inl (0, 4294967295), .inl (0, 4294967295)], [], [(6, 0, 63)], [.inl (none, [])], 1)
theorem hct_X6_put_6_2 : z_ctH zTb ct_X6_put_6_2 := z_ct_ok [] z_hds_ok [] [(true, 1, [(0, 2147483647), (2147483648, 2147483711), (2147483712, 4294967295)])] 0 1 (fun _ h => absurd h List.not_mem_nil) (by decide +kernel)
def ct_X6_add_6_2 : zCt := (107, [.inr (.inr (6, 2)), .inl (0, 4294967295), .inl (0, 4294967295)], [], [(6, 0, 63)], [.inl (none, [])], 1)
theorem hct_X6_add_6_2 : z_ctH zTb ct_X6_add_6_2 := z_ct_ok [] z_hds_ok [] [(true, 1, [(0, 2147483647), (2147483648, 2147483711), (2147483712, 4294967295)])] 0 1 (fun _ h => absurd h List.not_mem_nil) (by decide +kernel)
def ct_X6_fill_6_2 : zCt := (110, [.inr (.inr (6, 2)), .inl (0, 4294967295)], [], [(6, 0, 63)], [.inl (none, [])], 1)
theorem hct_X6_fill_6_2 : z_ctH zTb ct_X6_fill_6_2 := z_ct_ok [] z_hds_ok [] [] 0 1 (fun _ h => absurd h List.not_mem_nil) (by decide +kernel)
def ct_X6_at_7_0 : zCt := (104, [.inr (.inr (7, 0)), .inl (0, 4294967295)], [], [], [.inl (some (.inl (0, 4294967295)), [])], 1)
theorem hct_X6_at_7_0 : z_ctH zTb ct_X6_at_7_0 := z_ct_ok [] z_hds_ok [] [(true, 1, [(0, 2147483647), (2147483648, 2147483655), (2147483656, 4294967295)])] 0 1 (fun _ h => absurd h List.not_mem_nil) (by decide +kernel)
def ct_X6_put_7_0 : zCt := (106, [.inr (.inr (7, 0)), .inl (0, 4294967295), .inl (0, 4294967295)], [], [(7, 0, 7)], [.inl (none, [])], 1)
theorem hct_X6_put_7_0 : z_ctH zTb ct_X6_put_7_0 := z_ct_ok [] z_hds_ok [] [(true, 1, [(0, 2147483647), (2147483648, 2147483655), (2147483656, 4294967295)])] 0 1 (fun _ h => absurd h List.not_mem_nil) (by decide +kernel)
def ct_X6_add_7_0 : zCt := (107, [.inr (.inr (7, 0)), .inl (0, 4294967295), .inl (0, 4294967295)], [], [(7, 0, 7)], [.inl (none, [])], 1)
theorem hct_X6_add_7_0 : z_ctH zTb ct_X6_add_7_0 := z_ct_ok [] z_hds_ok [] [(true, 1, [(0, 2147483647), (2147483648, 2147483655), (2147483656, 4294967295)])] 0 1 (fun _ h => absurd h List.not_mem_nil) (by decide +kernel)
def ct_X6_fill_7_0 : zCt := (110, [.inr (.inr (7, 0)), .inl (0, 4294967295)], [], [(7, 0, 7)], [.inl (none, [])], 1)
theorem hct_X6_fill_7_0 : z_ctH zTb ct_X6_fill_7_0 := z_ct_ok [] z_hds_ok [] [] 0 1 (fun _ h => absurd h List.not_mem_nil) (by decide +kernel)
def ct_X6_at_7_1 : zCt := (104, [.inr (.inr (7, 1)), .inl (0, 4294967295)], [], [], [.inl (some (.inl (0, 4294967295)), [])], 1)
theorem hct_X6_at_7_1 : z_ctH zTb ct_X6_at_7_1 := z_ct_ok [] z_hds_ok [] [(true, 1, [(0, 2147483647), (2147483648, 2147483655), (2147483656, 4294967295)])] 0 1 (fun _ h => absurd h List.not_mem_nil) (by decide +kernel)
def ct_X6_put_7_1 : zCt := (106, [.inr (.inr (7, 1)), .inl (0, 4294967295), .inl (0, 4294967295)], [], [(7, 0, 7)], [.inl (none, [])], 1)
theorem hct_X6_put_7_1 : z_ctH zTb ct_X6_put_7_1 := z_ct_ok [] z_hds_ok [] [(true, 1, [(0, 2147483647), (2147483648, 2147483655), (2147483656, 4294967295)])] 0 1 (fun _ h => absurd h List.not_mem_nil) (by decide +kernel)
def ct_X6_add_7_1 : zCt := (107, [.inr (.inr (7, 1)), .inl (0, 4294967295), .inl (0, 4294967295)], [], [(7, 0, 7)], [.inl (none, [])], 1)
theorem hct_X6_add_7_1 : z_ctH zTb ct_X6_add_7_1 := z_ct_ok [] z_hds_ok [] [(true, 1, [(0, 2147483647), (2147483648, 2147483655), (2147483656, 4294967295)])] 0 1 (fun _ h => absurd h List.not_mem_nil) (by decide +kernel)
def ct_X6_fill_7_1 : zCt := (110, [.inr (.inr (7, 1)), .inl (0, 4294967295)], [], [(7, 0, 7)], [.inl (none, [])], 1)
theorem hct_X6_fill_7_1 : z_ctH zTb ct_X6_fill_7_1 := z_ct_ok [] z_hds_ok [] [] 0 1 (fun _ h => absurd h List.not_mem_nil) (by decide +kernel)
def ct_X6_at_7_2 : zCt := (104, [.inr (.inr (7, 2)), .inl (0, 4294967295)], [], [], [.inl (some (.inl (0, 4294967295)), [])], 1)
theorem hct_X6_at_7_2 : z_ctH zTb ct_X6_at_7_2 := z_ct_ok [] z_hds_ok [] [(true, 1, [(0, 2147483647), (2147483648, 2147483655), (2147483656, 4294967295)])] 0 1 (fun _ h => absurd h List.not_mem_nil) (by decide +kernel)
def ct_X6_put_7_2 : zCt := (106, [.inr (.inr (7, 2)), .inl (0, 4294967295), .inl (0, 4294967295)], [], [(7, 0, 7)], [.inl (none, [])], 1)
theorem hct_X6_put_7_2 : z_ctH zTb ct_X6_put_7_2 := z_ct_ok [] z_hds_ok [] [(true, 1, [(0, 2147483647), (2147483648, 2147483655), (2147483656, 4294967295)])] 0 1 (fun _ h => absurd h List.not_mem_nil) (by decide +kernel)
def ct_X6_add_7_2 : zCt := (107, [.inr (.inr (7, 2)), .inl (0, 4294967295), .inl (0, 4294967295)], [], [(7, 0, 7)], [.inl (none, [])], 1)
theorem hct_X6_add_7_2 : z_ctH zTb ct_X6_add_7_2 := z_ct_ok [] z_hds_ok [] [(true, 1, [(0, 2147483647), (2147483648, 2147483655), (2147483656, 4294967295)])] 0 1 (fun _ h => absurd h List.not_mem_nil) (by decide +kernel)
def ct_X6_fill_7_2 : zCt := (110, [.inr (.inr (7, 2)), .inl (0, 4294967295)], [], [(7, 0, 7)], [.inl (none, [])], 1)
theorem hct_X6_fill_7_2 : z_ctH zTb ct_X6_fill_7_2 := z_ct_ok [] z_hds_ok [] [] 0 1 (fun _ h => absurd h List.not_mem_nil) (by decide +kernel)
def ct_X6_at_8_0 : zCt := (104, [.inr (.inr (8, 0)), .inl (0, 4294967295)], [], [], [.inl (some (.inl (0, 4294967295)), [])], 1)
theorem hct_X6_at_8_0 : z_ctH zTb ct_X6_at_8_0 := z_ct_ok [] z_hds_ok [] [(true, 1, [(0, 2147483647), (2147483648, 2147483655), (2147483656, 4294967295)])] 0 1 (fun _ h => absurd h List.not_mem_nil) (by decide +kernel)
def ct_X6_put_8_0 : zCt := (106, [.inr (.inr (8, 0)), .inl (0, 4294967295), .inl (0, 4294967295)], [], [(8, 0, 7)], [.inl (none, [])], 1)
theorem hct_X6_put_8_0 : z_ctH zTb ct_X6_put_8_0 := z_ct_ok [] z_hds_ok [] [(true, 1, [(0, 2147483647), (2147483648, 2147483655), (2147483656, 4294967295)])] 0 1 (fun _ h => absurd h List.not_mem_nil) (by decide +kernel)
def ct_X6_add_8_0 : zCt := (107, [.inr (.inr (8, 0)), .inl (0, 4294967295), .inl (0, 4294967295)], [], [(8, 0, 7)], [.inl (none, [])], 1)
theorem hct_X6_add_8_0 : z_ctH zTb ct_X6_add_8_0 := z_ct_ok [] z_hds_ok [] [(true, 1, [(0, 2147483647), (2147483648, 2147483655), (2147483656, 4294967295)])] 0 1 (fun _ h => absurd h List.not_mem_nil) (by decide +kernel)
def ct_X6_fill_8_0 : zCt := (110, [.inr (.inr (8, 0)), .inl (0, 4294967295)], [], [(8, 0, 7)], [.inl (none, [])], 1)
theorem hct_X6_fill_8_0 : z_ctH zTb ct_X6_fill_8_0 := z_ct_ok [] z_hds_ok [] [] 0 1 (fun _ h => absurd h List.not_mem_nil) (by decide +kernel)
def ct_X6_at_8_1 : zCt := (104, [.inr (.inr (8, 1)), .inl (0, 4294967295)], [], [], [.inl (some (.inl (0, 4294967295)), [])], 1)
theorem hct_X6_at_8_1 : z_ctH zTb ct_X6_at_8_1 := z_ct_ok [] z_hds_ok [] [(true, 1, [(0, 2147483647), (2147483648, 2147483655), (2147483656, 4294967295)])] 0 1 (fun _ h => absurd h List.not_mem_nil) (by decide +kernel)
def ct_X6_put_8_1 : zCt := (106, [.inr (.inr (8, 1)), .inl (0, 4294967295), .inl (0, 4294967295)], [], [(8, 0, 7)], [.inl (none, [])], 1)
theorem hct_X6_put_8_1 : z_ctH zTb ct_X6_put_8_1 := z_ct_ok [] z_hds_ok [] [(true, 1, [(0, 2147483647), (2147483648, 2147483655), (2147483656, 4294967295)])] 0 1 (fun _ h => absurd h List.not_mem_nil) (by decide +kernel)
def ct_X6_add_8_1 : zCt := (107, [.inr (.inr (8, 1)), .inl (0, 4294967295), .inl (0, 4294967295)], [], [(8, 0, 7)], [.inl (none, [])], 1)
theorem hct_X6_add_8_1 : z_ctH zTb ct_X6_add_8_1 := z_ct_ok [] z_hds_ok [] [(true, 1, [(0, 2147483647), (2147483648, 2147483655), (2147483656, 4294967295)])] 0 1 (fun _ h => absurd h List.not_mem_nil) (by decide +kernel)
def ct_X6_fill_8_1 : zCt := (110, [.inr (.inr (8, 1)), .inl (0, 4294967295)], [], [(8, 0, 7)], [.inl (none, [])], 1)
theorem hct_X6_fill_8_1 : z_ctH zTb ct_X6_fill_8_1 := z_ct_ok [] z_hds_ok [] [] 0 1 (fun _ h => absurd h List.not_mem_nil) (by decide +kernel)
def ct_X6_at_8_2 : zCt := (104, [.inr (.inr (8, 2)), .inl (0, 4294967295)], [], [], [.inl (some (.inl (0, 4294967295)), [])], 1)
theorem hct_X6_at_8_2 : z_ctH zTb ct_X6_at_8_2 := z_ct_ok [] z_hds_ok [] [(true, 1, [(0, 2147483647), (2147483648, 2147483655), (2147483656, 4294967295)])] 0 1 (fun _ h => absurd h List.not_mem_nil) (by decide +kernel)
def ct_X6_put_8_2 : zCt := (106, [.inr (.inr (8, 2)), .inl (0, 4294967295), .inl (0, 4294967295)], [], [(8, 0, 7)], [.inl (none, [])], 1)
theorem hct_X6_put_8_2 : z_ctH zTb ct_X6_put_8_2 := z_ct_ok [] z_hds_ok [] [(true, 1, [(0, 2147483647), (2147483648, 2147483655), (2147483656, 4294967295)])] 0 1 (fun _ h => absurd h List.not_mem_nil) (by decide +kernel)
def ct_X6_add_8_2 : zCt := (107, [.inr (.inr (8, 2)), .inl (0, 4294967295), .inl (0, 4294967295)], [], [(8, 0, 7)], [.inl (none, [])], 1)
theorem hct_X6_add_8_2 : z_ctH zTb ct_X6_add_8_2 := z_ct_ok [] z_hds_ok [] [(true, 1, [(0, 2147483647), (2147483648, 2147483655), (2147483656, 4294967295)])] 0 1 (fun _ h => absurd h List.not_mem_nil) (by decide +kernel)
def ct_X6_fill_8_2 : zCt := (110, [.inr (.inr (8, 2)), .inl (0, 4294967295)], [], [(8, 0, 7)], [.inl (none, [])], 1)
theorem hct_X6_fill_8_2 : z_ctH zTb ct_X6_fill_8_2 := z_ct_ok [] z_hds_ok [] [] 0 1 (fun _ h => absurd h List.not_mem_nil) (by decide +kernel)
def ct_X6_at_9_0 : zCt := (104, [.inr (.inr (9, 0)), .inl (0, 4294967295)], [], [], [.inl (some (.inl (0, 4294967295)), [])], 1)
theorem hct_X6_at_9_0 : z_ctH zTb ct_X6_at_9_0 := z_ct_ok [] z_hds_ok [] [(true, 1, [(0, 2147483647), (2147483648, 2147483655), (2147483656, 4294967295)])] 0 1 (fun _ h => absurd h List.not_mem_nil) (by decide +kernel)
def ct_X6_put_9_0 : zCt := (106, [.inr (.inr (9, 0)), .inl (0, 4294967295), .inl (0, 4294967295)], [], [(9, 0, 7)], [.inl (none, [])], 1)
theorem hct_X6_put_9_0 : z_ctH zTb ct_X6_put_9_0 := z_ct_ok [] z_hds_ok [] [(true, 1, [(0, 2147483647), (2147483648, 2147483655), (2147483656, 4294967295)])] 0 1 (fun _ h => absurd h List.not_mem_nil) (by decide +kernel)
def ct_X6_add_9_0 : zCt := (107, [.inr (.inr (9, 0)), .inl (0, 4294967295), .inl (0, 4294967295)], [], [(9, 0, 7)], [.inl (none, [])], 1)
theorem hct_X6_add_9_0 : z_ctH zTb ct_X6_add_9_0 := z_ct_ok [] z_hds_ok [] [(true, 1, [(0, 2147483647), (2147483648, 2147483655), (2147483656, 4294967295)])] 0 1 (fun _ h => absurd h List.not_mem_nil) (by decide +kernel)
def ct_X6_fill_9_0 : zCt := (110, [.inr (.inr (9, 0)), .inl (0, 4294967295)], [], [(9, 0, 7)], [.inl (none, [])], 1)
theorem hct_X6_fill_9_0 : z_ctH zTb ct_X6_fill_9_0 := z_ct_ok [] z_hds_ok [] [] 0 1 (fun _ h => absurd h List.not_mem_nil) (by decide +kernel)
def ct_X6_at_9_1 : zCt := (104, [.inr (.inr (9, 1)), .inl (0, 4294967295)], [], [], [.inl (some (.inl (0, 4294967295)), [])], 1)
theorem hct_X6_at_9_1 : z_ctH zTb ct_X6_at_9_1 := z_ct_ok [] z_hds_ok [] [(true, 1, [(0, 2147483647), (2147483648, 2147483655), (2147483656, 4294967295)])] 0 1 (fun _ h => absurd h List.not_mem_nil) (by decide +kernel)
def ct_X6_put_9_1 : zCt := (106, [.inr (.inr (9, 1)), .inl (0, 4294967295), .inl (0, 4294967295)], [], [(9, 0, 7)], [.inl (none, [])], 1)
theorem hct_X6_put_9_1 : z_ctH zTb ct_X6_put_9_1 := z_ct_ok [] z_hds_ok [] [(true, 1, [(0, 2147483647), (2147483648, 2147483655), (2147483656, 4294967295)])] 0 1 (fun _ h => absurd h List.not_mem_nil) (by decide +kernel)
def ct_X6_add_9_1 : zCt := (107, [.inr (.inr (9, 1)), .inl (0, 4294967295), .inl (0, 4294967295)], [], [(9, 0, 7)], [.inl (none, [])], 1)
theorem hct_X6_add_9_1 : z_ctH zTb ct_X6_add_9_1 := z_ct_ok [] z_hds_ok [] [(true, 1, [(0, 2147483647), (2147483648, 2147483655), (2147483656, 4294967295)])] 0 1 (fun _ h => absurd h List.not_mem_nil) (by decide +kernel)
def ct_X6_fill_9_1 : zCt := (110, [.inr (.inr (9, 1)), .inl (0, 4294967295)], [], [(9, 0, 7)], [.inl (none, [])], 1)
theorem hct_X6_fill_9_1 : z_ctH zTb ct_X6_fill_9_1 := z_ct_ok [] z_hds_ok [] [] 0 1 (fun _ h => absurd h List.not_mem_nil) (by decide +kernel)
def ct_X6_at_9_2 : zCt := (104, [.inr (.inr (9, 2)), .inl (0, 4294967295)], [], [], [.inl (some (.inl (0, 4294967295)), [])], 1)
theorem hct_X6_at_9_2 : z_ctH zTb ct_X6_at_9_2 := z_ct_ok [] z_hds_ok [] [(true, 1, [(0, 2147483647), (2147483648, 2147483655), (2147483656, 4294967295)])] 0 1 (fun _ h => absurd h List.not_mem_nil) (by decide +kernel)
def ct_X6_put_9_2 : zCt := (106, [.inr (.inr (9, 2)), .inl (0, 4294967295), .inl (0, 4294967295)], [], [(9, 0, 7)], [.inl (none, [])], 1)
theorem hct_X6_put_9_2 : z_ctH zTb ct_X6_put_9_2 := z_ct_ok [] z_hds_ok [] [(true, 1, [(0, 2147483647), (2147483648, 2147483655), (2147483656, 4294967295)])] 0 1 (fun _ h => absurd h List.not_mem_nil) (by decide +kernel)
def ct_X6_add_9_2 : zCt := (107, [.inr (.inr (9, 2)), .inl (0, 4294967295), .inl (0, 4294967295)], [], [(9, 0, 7)], [.inl (none, [])], 1)
theorem hct_X6_add_9_2 : z_ctH zTb ct_X6_add_9_2 := z_ct_ok [] z_hds_ok [] [(true, 1, [(0, 2147483647), (2147483648, 2147483655), (2147483656, 4294967295)])] 0 1 (fun _ h => absurd h List.not_mem_nil) (by decide +kernel)
def ct_X6_fill_9_2 : zCt := (110, [.inr (.inr (9, 2)), .inl (0, 4294967295)], [], [(9, 0, 7)], [.inl (none, [])], 1)
theorem hct_X6_fill_9_2 : z_ctH zTb ct_X6_fill_9_2 := z_ct_ok [] z_hds_ok [] [] 0 1 (fun _ h => absurd h List.not_mem_nil) (by decide +kernel)
def ct_X6_at_10_0 : zCt := (104, [.inr (.inr (10, 0)), .inl (0, 4294967295)], [], [], [.inl (some (.inl (0, 4294967295)), [])], 1)
theorem hct_X6_at_10_0 : z_ctH zTb ct_X6_at_10_0 := z_ct_ok [] z_hds_ok [] [(true, 1, [(0, 2147483647), (2147483648, 2147483655), (2147483656, 4294967295)])] 0 1 (fun _ h => absurd h List.not_mem_nil) (by decide +kernel)
def ct_X6_put_10_0 : zCt := (106, [.inr (.inr (10, 0)), .inl (0, 4294967295), .inl (0, 4294967295)], [], [(10, 0, 7)], [.inl (none, [])], 1)
theorem hct_X6_put_10_0 : z_ctH zTb ct_X6_put_10_0 := z_ct_ok [] z_hds_ok [] [(true, 1, [(0, 2147483647), (2147483648, 2147483655), (2147483656, 4294967295)])] 0 1 (fun _ h => absurd h List.not_mem_nil) (by decide +kernel)
def ct_X6_add_10_0 : zCt := (107, [.inr (.inr (10, 0)), .inl (0, 4294967295), .inl (0, 4294967295)], [], [(10, 0, 7)], [.inl (none, [])], 1)
theorem hct_X6_add_10_0 : z_ctH zTb ct_X6_add_10_0 := z_ct_ok [] z_hds_ok [] [(true, 1, [(0, 2147483647), (2147483648, 2147483655), (2147483656, 4294967295)])] 0 1 (fun _ h => absurd h List.not_mem_nil) (by decide +kernel)
def ct_X6_fill_10_0 : zCt := (110, [.inr (.inr (10, 0)), .inl (0, 4294967295)], [], [(10, 0, 7)], [.inl (none, [])], 1)
theorem hct_X6_fill_10_0 : z_ctH zTb ct_X6_fill_10_0 := z_ct_ok [] z_hds_ok [] [] 0 1 (fun _ h => absurd h List.not_mem_nil) (by decide +kernel)
def ct_X6_at_10_1 : zCt := (104, [.inr (.inr (10, 1)), .inl (0, 4294967295)], [], [], [.inl (some (.inl (0, 4294967295)), [])], 1)
theorem hct_X6_at_10_1 : z_ctH zTb ct_X6_at_10_1 := z_ct_ok [] z_hds_ok [] [(true, 1, [(0, 2147483647), (2147483648, 2147483655), (2147483656, 4294967295)])] 0 1 (fun _ h => absurd h List.not_mem_nil) (by decide +kernel)
def ct_X6_put_10_1 : zCt := (106, [.inr (.inr (10, 1)), .inl (0, 4294967295), .inl (0, 4294967295)], [], [(10, 0, 7)], [.inl (none, [])], 1)
theorem hct_X6_put_10_1 : z_ctH zTb ct_X6_put_10_1 := z_ct_ok [] z_hds_ok [] [(true, 1, [(0, 2147483647), (2147483648, 2147483655), (2147483656, 4294967295)])] 0 1 (fun _ h => absurd h List.not_mem_nil) (by decide +kernel)
def ct_X6_add_10_1 : zCt := (107, [.inr (.inr (10, 1)), .inl (0, 4294967295), .inl (0, 4294967295)], [], [(10, 0, 7)], [.inl (none, [])], 1)
theorem hct_X6_add_10_1 : z_ctH zTb ct_X6_add_10_1 := z_ct_ok [] z_hds_ok [] [(true, 1, [(0, 2147483647), (2147483648, 2147483655), (2147483656, 4294967295)])] 0 1 (fun _ h => absurd h List.not_mem_nil) (by decide +kernel)
def ct_X6_fill_10_1 : zCt := (110, [.inr (.inr (10, 1)), .inl (0, 4294967295)], [], [(10, 0, 7)], [.inl (none, [])], 1)
theorem hct_X6_fill_10_1 : z_ctH zTb ct_X6_fill_10_1 := z_ct_ok [] z_hds_ok [] [] 0 1 (fun _ h => absurd h List.not_mem_nil) (by decide +kernel)
def ct_X6_at_10_2 : zCt := (104, [.inr (.inr (10, 2)), .inl (0, 4294967295)], [], [], [.inl (some (.inl (0, 4294967295)), [])], 1)
theorem hct_X6_at_10_2 : z_ctH zTb ct_X6_at_10_2 := z_ct_ok [] z_hds_ok [] [(true, 1, [(0, 2147483647), (2147483648, 2147483655), (2147483656, 4294967295)])] 0 1 (fun _ h => absurd h List.not_mem_nil) (by decide +kernel)
def ct_X6_put_10_2 : zCt := (106, [.inr (.inr (10, 2)), .inl (0, 4294967295), .inl (0, 4294967295)], [], [(10, 0, 7)], [.inl (none, [])], 1)
theorem hct_X6_put_10_2 : z_ctH zTb ct_X6_put_10_2 := z_ct_ok [] z_hds_ok [] [(true, 1, [(0, 2147483647), (2147483648, 2147483655), (2147483656, 4294967295)])] 0 1 (fun _ h => absurd h List.not_mem_nil) (by decide +kernel)
def ct_X6_add_10_2 : zCt := (107, [.inr (.inr (10, 2)), .inl (0, 4294967295), .inl (0, 4294967295)], [], [(10, 0, 7)], [.inl (none, [])], 1)
theorem hct_X6_add_10_2 : z_ctH zTb ct_X6_add_10_2 := z_ct_ok [] z_hds_ok [] [(true, 1, [(0, 2147483647), (2147483648, 2147483655), (2147483656, 4294967295)])] 0 1 (fun _ h => absurd h List.not_mem_nil) (by decide +kernel)
def ct_X6_fill_10_2 : zCt := (110, [.inr (.inr (10, 2)), .inl (0, 4294967295)], [], [(10, 0, 7)], [.inl (none, [])], 1)
theorem hct_X6_fill_10_2 : z_ctH zTb ct_X6_fill_10_2 := z_ct_ok [] z_hds_ok [] [] 0 1 (fun _ h => absurd h List.not_mem_nil) (by decide +kernel)
def ct_X6_at_11_0 : zCt := (104, [.inr (.inr (11, 0)), .inl (0, 4294967295)], [], [], [.inl (some (.inl (0, 4294967295)), [])], 1)
theorem hct_X6_at_11_0 : z_ctH zTb ct_X6_at_11_0 := z_ct_ok [] z_hds_ok [] [(true, 1, [(0, 2147483647), (2147483648, 2147483655), (2147483656, 4294967295)])] 0 1 (fun _ h => absurd h List.not_mem_nil) (by decide +kernel)
def ct_X6_put_11_0 : zCt := (106, [.inr (.inr (11, 0)), .inl (0, 4294967295), .inl (0, 4294967295)], [], [(11, 0, 7)], [.inl (none, [])], 1)
theorem hct_X6_put_11_0 : z_ctH zTb ct_X6_put_11_0 := z_ct_ok [] z_hds_ok [] [(true, 1, [(0, 2147483647), (2147483648, 2147483655), (2147483656, 4294967295)])] 0 1 (fun _ h => absurd h List.not_mem_nil) (by decide +kernel)
def ct_X6_add_11_0 : zCt := (107, [.inr (.inr (11, 0)), .inl (0, 4294967295), .inl (0, 4294967295)], [], [(11, 0, 7)], [.inl (none, [])], 1)
theorem hct_X6_add_11_0 : z_ctH zTb ct_X6_add_11_0 := z_ct_ok [] z_hds_ok [] [(true, 1, [(0, 2147483647), (2147483648, 2147483655), (2147483656, 4294967295)])] 0 1 (fun _ h => absurd h List.not_mem_nil) (by decide +kernel)
def ct_X6_fill_11_0 : zCt := (110, [.inr (.inr (11, 0)), .inl (0, 4294967295)], [], [(11, 0, 7)], [.inl (none, [])], 1)
theorem hct_X6_fill_11_0 : z_ctH zTb ct_X6_fill_11_0 := z_ct_ok [] z_hds_ok [] [] 0 1 (fun _ h => absurd h List.not_mem_nil) (by decide +kernel)
def ct_X6_at_11_1 : zCt := (104, [.inr (.inr (11, 1)), .inl (0, 4294967295)], [], [], [.inl (some (.inl (0, 4294967295)), [])], 1)
theorem hct_X6_at_11_1 : z_ctH zTb ct_X6_at_11_1 := z_ct_ok [] z_hds_ok [] [(true, 1, [(0, 2147483647), (2147483648, 2147483655), (2147483656, 4294967295)])] 0 1 (fun _ h => absurd h List.not_mem_nil) (by decide +kernel)
def ct_X6_put_11_1 : zCt := (106, [.inr (.inr (11, 1)), .inl (0, 4294967295), .inl (0, 4294967295)], [], [(11, 0, 7)], [.inl (none, [])], 1)
theorem hct_X6_put_11_1 : z_ctH zTb ct_X6_put_11_1 := z_ct_ok [] z_hds_ok [] [(true, 1, [(0, 2147483647), (2147483648, 2147483655), (2147483656, 4294967295)])] 0 1 (fun _ h => absurd h List.not_mem_nil) (by decide +kernel)
def ct_X6_add_11_1 : zCt := (107, [.inr (.inr (11, 1)), .inl (0, 4294967295), .inl (0, 4294967295)], [], [(11, 0, 7)], [.inl (none, [])], 1)
theorem hct_X6_add_11_1 : z_ctH zTb ct_X6_add_11_1 := z_ct_ok [] z_hds_ok [] [(true, 1, [(0, 2147483647), (2147483648, 2147483655), (2147483656, 4294967295)])] 0 1 (fun _ h => absurd h List.not_mem_nil) (by decide +kernel)
def ct_X6_fill_11_1 : zCt := (110, [.inr (.inr (11, 1)), .inl (0, 4294967295)], [], [(11, 0, 7)], [.inl (none, [])], 1)
theorem hct_X6_fill_11_1 : z_ctH zTb ct_X6_fill_11_1 := z_ct_ok [] z_hds_ok [] [] 0 1 (fun _ h => absurd h List.not_mem_nil) (by decide +kernel)
def ct_X6_at_11_2 : zCt := (104, [.inr (.inr (11, 2)), .inl (0, 4294967295)], [], [], [.inl (some (.inl (0, 4294967295)), [])], 1)
theorem hct_X6_at_11_2 : z_ctH zTb ct_X6_at_11_2 := z_ct_ok [] z_hds_ok [] [(true, 1, [(0, 2147483647), (2147483648, 2147483655), (2147483656, 4294967295)])] 0 1 (fun _ h => absurd h List.not_mem_nil) (by decide +kernel)
def ct_X6_put_11_2 : zCt := (106, [.inr (.inr (11, 2)), .inl (0, 4294967295), .inl (0, 4294967295)], [], [(11, 0, 7)], [.inl (none, [])], 1)
theorem hct_X6_put_11_2 : z_ctH zTb ct_X6_put_11_2 := z_ct_ok [] z_hds_ok [] [(true, 1, [(0, 2147483647), (2147483648, 2147483655), (2147483656, 4294967295)])] 0 1 (fun _ h => absurd h List.not_mem_nil) (by decide +kernel)
def ct_X6_add_11_2 : zCt := (107, [.inr (.inr (11, 2)), .inl (0, 4294967295), .inl (0, 4294967295)], [], [(11, 0, 7)], [.inl (none, [])], 1)
theorem hct_X6_add_11_2 : z_ctH zTb ct_X6_add_11_2 := z_ct_ok [] z_hds_ok [] [(true, 1, [(0, 2147483647), (2147483648, 2147483655), (2147483656, 4294967295)])] 0 1 (fun _ h => absurd h List.not_mem_nil) (by decide +kernel)
def ct_X6_fill_11_2 : zCt := (110, [.inr (.inr (11, 2)), .inl (0, 4294967295)], [], [(11, 0, 7)], [.inl (none, [])], 1)
theorem hct_X6_fill_11_2 : z_ctH zTb ct_X6_fill_11_2 := z_ct_ok [] z_hds_ok [] [] 0 1 (fun _ h => absurd h List.not_mem_nil) (by decide +kernel)
def ct_X6_at_12_0 : zCt := (104, [.inr (.inr (12, 0)), .inl (0, 4294967295)], [], [], [.inl (some (.inl (0, 4294967295)), [])], 1)
theorem hct_X6_at_12_0 : z_ctH zTb ct_X6_at_12_0 := z_ct_ok [] z_hds_ok [] [(true, 1, [(0, 2147483647), (2147483648, 2147483679), (2147483680, 4294967295)])] 0 1 (fun _ h => absurd h List.not_mem_nil) (by decide +kernel)
def ct_X6_put_12_0 : zCt := (106, [.inr (.inr (12, 0)), .inl (0, 4294967295), .inl (0, 4294967295)], [], [(12, 0, 31)], [.inl (none, [])], 1)
theorem hct_X6_put_12_0 : z_ctH zTb ct_X6_put_12_0 := z_ct_ok [] z_hds_ok [] [(true, 1, [(0, 2147483647), (2147483648, 2147483679), (2147483680, 4294967295)])] 0 1 (fun _ h => absurd h List.not_mem_nil) (by decide +kernel)
def ct_X6_add_12_0 : zCt := (107, [.inr (.inr (12, 0)), .inl (0, 4294967295), .inl (0, 4294967295)], [], [(12, 0, 31)], [.inl (none, [])], 1)
theorem hct_X6_add_12_0 : z_ctH zTb ct_X6_add_12_0 := z_ct_ok [] z_hds_ok [] [(true, 1, [(0, 2147483647), (2147483648, 2147483679), (2147483680, 4294967295)])] 0 1 (fun _ h => absurd h List.not_mem_nil) (by decide +kernel)
def ct_X6_fill_12_0 : zCt := (110, [.inr (.inr (12, 0)), .inl (0, 4294967295)], [], [(12, 0, 31)], [.inl (none, [])], 1)
theorem hct_X6_fill_12_0 : z_ctH zTb ct_X6_fill_12_0 := z_ct_ok [] z_hds_ok [] [] 0 1 (fun _ h => absurd h List.not_mem_nil) (by decide +kernel)
def ct_X6_at_12_1 : zCt := (104, [.inr (.inr (12, 1)), .inl (0, 4294967295)], [], [], [.inl (some (.inl (0, 4294967295)), [])], 1)
theorem hct_X6_at_12_1 : z_ctH zTb ct_X6_at_12_1 := z_ct_ok [] z_hds_ok [] [(true, 1, [(0, 2147483647), (2147483648, 2147483679), (2147483680, 4294967295)])] 0 1 (fun _ h => absurd h List.not_mem_nil) (by decide +kernel)
def ct_X6_put_12_1 : zCt := (106, [.inr (.inr (12, 1)), .inl (0, 4294967295), .inl (0, 4294967295)], [], [(12, 0, 31)], [.inl (none, [])], 1)
theorem hct_X6_put_12_1 : z_ctH zTb ct_X6_put_12_1 := z_ct_ok [] z_hds_ok [] [(true, 1, [(0, 2147483647), (2147483648, 2147483679), (2147483680, 4294967295)])] 0 1 (fun _ h => absurd h List.not_mem_nil) (by decide +kernel)
def ct_X6_add_12_1 : zCt := (107, [.inr (.inr (12, 1)), .inl (0, 4294967295), .inl (0, 4294967295)], [], [(12, 0, 31)], [.inl (none, [])], 1)
theorem hct_X6_add_12_1 : z_ctH zTb ct_X6_add_12_1 := z_ct_ok [] z_hds_ok [] [(true, 1, [(0, 2147483647), (2147483648, 2147483679), (2147483680, 4294967295)])] 0 1 (fun _ h => absurd h List.not_mem_nil) (by decide +kernel)
def ct_X6_fill_12_1 : zCt := (110, [.inr (.inr (12, 1)), .inl (0, 4294967295)], [], [(12, 0, 31)], [.inl (none, [])], 1)
theorem hct_X6_fill_12_1 : z_ctH zTb ct_X6_fill_12_1 := z_ct_ok [] z_hds_ok [] [] 0 1 (fun _ h => absurd h List.not_mem_nil) (by decide +kernel)
def ct_X6_at_12_2 : zCt := (104, [.inr (.inr (12, 2)), .inl (0, 4294967295)], [], [], [.inl (some (.inl (0, 4294967295)), [])], 1)
theorem hct_X6_at_12_2 : z_ctH zTb ct_X6_at_12_2 := z_ct_ok [] z_hds_ok [] [(true, 1, [(0, 2147483647), (2147483648, 2147483679), (2147483680, 4294967295)])] 0 1 (fun _ h => absurd h List.not_mem_nil) (by decide +kernel)
def ct_X6_put_12_2 : zCt := (106, [.inr (.inr (12, 2)), .inl (0, 4294967295), .inl (0, 4294967295)], [], [(12, 0, 31)], [.inl (none, [])], 1)
theorem hct_X6_put_12_2 : z_ctH zTb ct_X6_put_12_2 := z_ct_ok [] z_hds_ok [] [(true, 1, [(0, 2147483647), (2147483648, 2147483679), (2147483680, 4294967295)])] 0 1 (fun _ h => absurd h List.not_mem_nil) (by decide +kernel)
def ct_X6_add_12_2 : zCt := (107, [.inr (.inr (12, 2)), .inl (0, 4294967295), .inl (0, 4294967295)], [], [(12, 0, 31)], [.inl (none, [])], 1)
theorem hct_X6_add_12_2 : z_ctH zTb ct_X6_add_12_2 := z_ct_ok [] z_hds_ok [] [(true, 1, [(0, 2147483647), (2147483648, 2147483679), (2147483680, 4294967295)])] 0 1 (fun _ h => absurd h List.not_mem_nil) (by decide +kernel)
def ct_X6_fill_12_2 : zCt := (110, [.inr (.inr (12, 2)), .inl (0, 4294967295)], [], [(12, 0, 31)], [.inl (none, [])], 1)
theorem hct_X6_fill_12_2 : z_ctH zTb ct_X6_fill_12_2 := z_ct_ok [] z_hds_ok [] [] 0 1 (fun _ h => absurd h List.not_mem_nil) (by decide +kernel)
def ct_X6_at_13_0 : zCt := (104, [.inr (.inr (13, 0)), .inl (0, 4294967295)], [], [], [.inl (some (.inl (0, 4294967295)), [])], 1)
theorem hct_X6_at_13_0 : z_ctH zTb ct_X6_at_13_0 := z_ct_ok [] z_hds_ok [] [(true, 1, [(0, 2147483647), (2147483648, 2147483655), (2147483656, 4294967295)])] 0 1 (fun _ h => absurd h List.not_mem_nil) (by decide +kernel)
def ct_X6_put_13_0 : zCt := (106, [.inr (.inr (13, 0)), .inl (0, 4294967295), .inl (0, 4294967295)], [], [(13, 0, 7)], [.inl (none, [])], 1)
theorem hct_X6_put_13_0 : z_ctH zTb ct_X6_put_13_0 := z_ct_ok [] z_hds_ok [] [(true, 1, [(0, 2147483647), (2147483648, 2147483655), (2147483656, 4294967295)])] 0 1 (fun _ h => absurd h List.not_mem_nil) (by decide +kernel)
def ct_X6_add_13_0 : zCt := (107, [.inr (.inr (13, 0)), .inl (0, 4294967295), .inl (0, 4294967295)], [], [(13, 0, 7)], [.inl (none, [])], 1)
theorem hct_X6_add_13_0 : z_ctH zTb ct_X6_add_13_0 := z_ct_ok [] z_hds_ok [] [(true, 1, [(0, 2147483647), (2147483648, 2147483655), (2147483656, 4294967295)])] 0 1 (fun _ h => absurd h List.not_mem_nil) (by decide +kernel)
def ct_X6_fill_13_0 : zCt := (110, [.inr (.inr (13, 0)), .inl (0, 4294967295)], [], [(13, 0, 7)], [.inl (none, [])], 1)
theorem hct_X6_fill_13_0 : z_ctH zTb ct_X6_fill_13_0 := z_ct_ok [] z_hds_ok [] [] 0 1 (fun _ h => absurd h List.not_mem_nil) (by decide +kernel)
def ct_X6_at_13_1 : zCt := (104, [.inr (.inr (13, 1)), .inl (0, 4294967295)], [], [], [.inl (some (.inl (0, 4294967295)), [])], 1)
theorem hct_X6_at_13_1 : z_ctH zTb ct_X6_at_13_1 := z_ct_ok [] z_hds_ok [] [(true, 1, [(0, 2147483647), (2147483648, 2147483655), (2147483656, 4294967295)])] 0 1 (fun _ h => absurd h List.not_mem_nil) (by decide +kernel)
def ct_X6_put_13_1 : zCt := (106, [.inr (.inr (13, 1)), .inl (0, 4294967295), .inl (0, 4294967295)], [], [(13, 0, 7)], [.inl (none, [])], 1)
theorem hct_X6_put_13_1 : z_ctH zTb ct_X6_put_13_1 := z_ct_ok [] z_hds_ok [] [(true, 1, [(0, 2147483647), (2147483648, 2147483655), (2147483656, 4294967295)])] 0 1 (fun _ h => absurd h List.not_mem_nil) (by decide +kernel)
def ct_X6_add_13_1 : zCt := (107, [.inr (.inr (13, 1)), .inl (0, 4294967295), .inl (0, 4294967295)], [], [(13, 0, 7)], [.inl (none, [])], 1)
theorem hct_X6_add_13_1 : z_ctH zTb ct_X6_add_13_1 := z_ct_ok [] z_hds_ok [] [(true, 1, [(0, 2147483647), (2147483648, 2147483655), (2147483656, 4294967295)])] 0 1 (fun _ h => absurd h List.not_mem_nil) (by decide +kernel)
def ct_X6_fill_13_1 : zCt := (110, [.inr (.inr (13, 1)), .inl (0, 4294967295)], [], [(13, 0, 7)], [.inl (none, [])], 1)
theorem hct_X6_fill_13_1 : z_ctH zTb ct_X6_fill_13_1 := z_ct_ok [] z_hds_ok [] [] 0 1 (fun _ h => absurd h List.not_mem_nil) (by decide +kernel)
def ct_X6_at_13_2 : zCt := (104, [.inr (.inr (13, 2)), .inl (0, 4294967295)], [], [], [.inl (some (.inl (0, 4294967295)), [])], 1)
theorem hct_X6_at_13_2 : z_ctH zTb ct_X6_at_13_2 := z_ct_ok [] z_hds_ok [] [(true, 1, [(0, 2147483647), (2147483648, 2147483655), (2147483656, 4294967295)])] 0 1 (fun _ h => absurd h List.not_mem_nil) (by decide +kernel)
def ct_X6_put_13_2 : zCt := (106, [.inr (.inr (13, 2)), .inl (0, 4294967295), .inl (0, 4294967295)], [], [(13, 0, 7)], [.inl (none, [])], 1)
theorem hct_X6_put_13_2 : z_ctH zTb ct_X6_put_13_2 := z_ct_ok [] z_hds_ok [] [(true, 1, [(0, 2147483647), (2147483648, 2147483655), (2147483656, 4294967295)])] 0 1 (fun _ h => absurd h List.not_mem_nil) (by decide +kernel)
def ct_X6_add_13_2 : zCt := (107, [.inr (.inr (13, 2)), .inl (0, 4294967295), .inl (0, 4294967295)], [], [(13, 0, 7)], [.inl (none, [])], 1)
theorem hct_X6_add_13_2 : z_ctH zTb ct_X6_add_13_2 := z_ct_ok [] z_hds_ok [] [(true, 1, [(0, 2147483647), (2147483648, 2147483655), (2147483656, 4294967295)])] 0 1 (fun _ h => absurd h List.not_mem_nil) (by decide +kernel)
def ct_X6_fill_13_2 : zCt := (110, [.inr (.inr (13, 2)), .inl (0, 4294967295)], [], [(13, 0, 7)], [.inl (none, [])], 1)
theorem hct_X6_fill_13_2 : z_ctH zTb ct_X6_fill_13_2 := z_ct_ok [] z_hds_ok [] [] 0 1 (fun _ h => absurd h List.not_mem_nil) (by decide +kernel)
def ct_X6_at_14_0 : zCt := (104, [.inr (.inr (14, 0)), .inl (0, 4294967295)], [], [], [.inl (some (.inl (2147483648, 2147483649)), [])], 1)
theorem hct_X6_at_14_0 : z_ctH zTb ct_X6_at_14_0 := z_ct_ok [] z_hds_ok [] [(true, 1, [(0, 2147483647), (2147483648, 2147483663), (2147483664, 4294967295)])] 0 1 (fun _ h => absurd h List.not_mem_nil) (by decide +kernel)
def ct_X6_put_14_0 : zCt := (106, [.inr (.inr (14, 0)), .inl (0, 4294967295), .inl (2147483648, 2147483649)], [], [(14, 0, 15)], [.inl (none, [])], 1)
theorem hct_X6_put_14_0 : z_ctH zTb ct_X6_put_14_0 := z_ct_ok [] z_hds_ok [] [(true, 1, [(0, 2147483647), (2147483648, 2147483663), (2147483664, 4294967295)])] 0 1 (fun _ h => absurd h List.not_mem_nil) (by decide +kernel)
def ct_X6_fill_14_0 : zCt := (110, [.inr (.inr (14, 0)), .inl (2147483648, 2147483649)], [], [(14, 0, 15)], [.inl (none, [])], 1)
theorem hct_X6_fill_14_0 : z_ctH zTb ct_X6_fill_14_0 := z_ct_ok [] z_hds_ok [] [] 0 1 (fun _ h => absurd h List.not_mem_nil) (by decide +kernel)
def ct_X6_at_14_1 : zCt := (104, [.inr (.inr (14, 1)), .inl (0, 4294967295)], [], [], [.inl (some (.inl (2147483648, 2147483649)), [])], 1)
theorem hct_X6_at_14_1 : z_ctH zTb ct_X6_at_14_1 := z_ct_ok [] z_hds_ok [] [(true, 1, [(0, 2147483647), (2147483648, 2147483663), (2147483664, 4294967295)])] 0 1 (fun _ h => absurd h List.not_mem_nil) (by decide +kernel)
def ct_X6_put_14_1 : zCt := (106, [.inr (.inr (14, 1)), .inl (0, 4294967295), .inl (2147483648, 2147483649)], [], [(14, 0, 15)], [.inl (none, [])], 1)
theorem hct_X6_put_14_1 : z_ctH zTb ct_X6_put_14_1 := z_ct_ok [] z_hds_ok [] [(true, 1, [(0, 2147483647), (2147483648, 2147483663), (2147483664, 4294967295)])] 0 1 (fun _ h => absurd h List.not_mem_nil) (by decide +kernel)
def ct_X6_fill_14_1 : zCt := (110, [.inr (.inr (14, 1)), .inl (2147483648, 2147483649)], [], [(14, 0, 15)], [.inl (none, [])], 1)
theorem hct_X6_fill_14_1 : z_ctH zTb ct_X6_fill_14_1 := z_ct_ok [] z_hds_ok [] [] 0 1 (fun _ h => absurd h List.not_mem_nil) (by decide +kernel)
def ct_X6_at_14_2 : zCt := (104, [.inr (.inr (14, 2)), .inl (0, 4294967295)], [], [], [.inl (some (.inl (2147483648, 2147483649)), [])], 1)
theorem hct_X6_at_14_2 : z_ctH zTb ct_X6_at_14_2 := z_ct_ok [] z_hds_ok [] [(true, 1, [(0, 2147483647), (2147483648, 2147483663), (2147483664, 4294967295)])] 0 1 (fun _ h => absurd h List.not_mem_nil) (by decide +kernel)
def ct_X6_put_14_2 : zCt := (106, [.inr (.inr (14, 2)), .inl (0, 4294967295), .inl (2147483648, 2147483649)], [], [(14, 0, 15)], [.inl (none, [])], 1)
theorem hct_X6_put_14_2 : z_ctH zTb ct_X6_put_14_2 := z_ct_ok [] z_hds_ok [] [(true, 1, [(0, 2147483647), (2147483648, 2147483663), (2147483664, 4294967295)])] 0 1 (fun _ h => absurd h List.not_mem_nil) (by decide +kernel)
def ct_X6_fill_14_2 : zCt := (110, [.inr (.inr (14, 2)), .inl (2147483648, 2147483649)], [], [(14, 0, 15)], [.inl (none, [])], 1)
theorem hct_X6_fill_14_2 : z_ctH zTb ct_X6_fill_14_2 := z_ct_ok [] z_hds_ok [] [] 0 1 (fun _ h => absurd h List.not_mem_nil) (by decide +kernel)
def ct_X6_at_15_0 : zCt := (104, [.inr (.inr (15, 0)), .inl (0, 4294967295)], [], [], [.inl (some (.inl (0, 4294967295)), [])], 1)
theorem hct_X6_at_15_0 : z_ctH zTb ct_X6_at_15_0 := z_ct_ok [] z_hds_ok [] [(true, 1, [(0, 2147483647), (2147483648, 2147483663), (2147483664, 4294967295)])] 0 1 (fun _ h => absurd h List.not_mem_nil) (by decide +kernel)
def ct_X6_put_15_0 : zCt := (106, [.inr (.inr (15, 0)), .inl (0, 4294967295), .inl (0, 4294967295)], [], [(15, 0, 15)], [.inl (none, [])], 1)
theorem hct_X6_put_15_0 : z_ctH zTb ct_X6_put_15_0 := z_ct_ok [] z_hds_ok [] [(true, 1, [(0, 2147483647), (2147483648, 2147483663), (2147483664, 4294967295)])] 0 1 (fun _ h => absurd h List.not_mem_nil) (by decide +kernel)
def ct_X6_add_15_0 : zCt := (107, [.inr (.inr (15, 0)), .inl (0, 4294967295), .inl (0, 4294967295)], [], [(15, 0, 15)], [.inl (none, [])], 1)
theorem hct_X6_add_15_0 : z_ctH zTb ct_X6_add_15_0 := z_ct_ok [] z_hds_ok [] [(true, 1, [(0, 2147483647), (2147483648, 2147483663), (2147483664, 4294967295)])] 0 1 (fun _ h => absurd h List.not_mem_nil) (by decide +kernel)
def ct_X6_fill_15_0 : zCt := (110, [.inr (.inr (15, 0)), .inl (0, 4294967295)], [], [(15, 0, 15)], [.inl (none, [])], 1)
theorem hct_X6_fill_15_0 : z_ctH zTb ct_X6_fill_15_0 := z_ct_ok [] z_hds_ok [] [] 0 1 (fun _ h => absurd h List.not_mem_nil) (by decide +kernel)
def ct_X6_at_15_1 : zCt := (104, [.inr (.inr (15, 1)), .inl (0, 4294967295)], [], [], [.inl (some (.inl (0, 4294967295)), [])], 1)
theorem hct_X6_at_15_1 : z_ctH zTb ct_X6_at_15_1 := z_ct_ok [] z_hds_ok [] [(true, 1, [(0, 2147483647), (2147483648, 2147483663), (2147483664, 4294967295)])] 0 1 (fun _ h => absurd h List.not_mem_nil) (by decide +kernel)
def ct_X6_put_15_1 : zCt := (106, [.inr (.inr (15, 1)), .inl (0, 4294967295), .inl (0, 4294967295)], [], [(15, 0, 15)], [.inl (none, [])], 1)
theorem hct_X6_put_15_1 : z_ctH zTb ct_X6_put_15_1 := z_ct_ok [] z_hds_ok [] [(true, 1, [(0, 2147483647), (2147483648, 2147483663), (2147483664, 4294967295)])] 0 1 (fun _ h => absurd h List.not_mem_nil) (by decide +kernel)
def ct_X6_add_15_1 : zCt := (107, [.inr (.inr (15, 1)), .inl (0, 4294967295), .inl (0, 4294967295)], [], [(15, 0, 15)], [.inl (none, [])], 1)
theorem hct_X6_add_15_1 : z_ctH zTb ct_X6_add_15_1 := z_ct_ok [] z_hds_ok [] [(true, 1, [(0, 2147483647), (2147483648, 2147483663), (2147483664, 4294967295)])] 0 1 (fun _ h => absurd h List.not_mem_nil) (by decide +kernel)
def ct_X6_fill_15_1 : zCt := (110, [.inr (.inr (15, 1)), .inl (0, 4294967295)], [], [(15, 0, 15)], [.inl (none, [])], 1)
theorem hct_X6_fill_15_1 : z_ctH zTb ct_X6_fill_15_1 := z_ct_ok [] z_hds_ok [] [] 0 1 (fun _ h => absurd h List.not_mem_nil) (by decide +kernel)
def ct_X6_at_15_2 : zCt := (104, [.inr (.inr (15, 2)), .inl (0, 4294967295)], [], [], [.inl (some (.inl (0, 4294967295)), [])], 1)
theorem hct_X6_at_15_2 : z_ctH zTb ct_X6_at_15_2 := z_ct_ok [] z_hds_ok [] [(true, 1, [(0, 2147483647), (2147483648, 2147483663), (2147483664, 4294967295)])] 0 1 (fun _ h => absurd h List.not_mem_nil) (by decide +kernel)
def ct_X6_put_15_2 : zCt := (106, [.inr (.inr (15, 2)), .inl (0, 4294967295), .inl (0, 4294967295)], [], [(15, 0, 15)], [.inl (none, [])], 1)
theorem hct_X6_put_15_2 : z_ctH zTb ct_X6_put_15_2 := z_ct_ok [] z_hds_ok [] [(true, 1, [(0, 2147483647), (2147483648, 2147483663), (2147483664, 4294967295)])] 0 1 (fun _ h => absurd h List.not_mem_nil) (by decide +kernel)
def ct_X6_add_15_2 : zCt := (107, [.inr (.inr (15, 2)), .inl (0, 4294967295), .inl (0, 4294967295)], [], [(15, 0, 15)], [.inl (none, [])], 1)
theorem hct_X6_add_15_2 : z_ctH zTb ct_X6_add_15_2 := z_ct_ok [] z_hds_ok [] [(true, 1, [(0, 2147483647), (2147483648, 2147483663), (2147483664, 4294967295)])] 0 1 (fun _ h => absurd h List.not_mem_nil) (by decide +kernel)
def ct_X6_fill_15_2 : zCt := (110, [.inr (.inr (15, 2)), .inl (0, 4294967295)], [], [(15, 0, 15)], [.inl (none, [])], 1)
theorem hct_X6_fill_15_2 : z_ctH zTb ct_X6_fill_15_2 := z_ct_ok [] z_hds_ok [] [] 0 1 (fun _ h => absurd h List.not_mem_nil) (by decide +kernel)
def ct_X6_at_18_0 : zCt := (104, [.inr (.inr (18, 0)), .inl (0, 4294967295)], [], [], [.inl (some (.inl (0, 4294967295)), [])], 1)
theorem hct_X6_at_18_0 : z_ctH zTb ct_X6_at_18_0 := z_ct_ok [] z_hds_ok [] [(true, 1, [(0, 2147483647), (2147483648, 2147483663), (2147483664, 4294967295)])] 0 1 (fun _ h => absurd h List.not_mem_nil) (by decide +kernel)
def ct_X6_put_18_0 : zCt := (106, [.inr (.inr (18, 0)), .inl (0, 4294967295), .inl (0, 4294967295)], [], [(18, 0, 15)], [.inl (none, [])], 1)
theorem hct_X6_put_18_0 : z_ctH zTb ct_X6_put_18_0 := z_ct_ok [] z_hds_ok [] [(true, 1, [(0, 2147483647), (2147483648, 2147483663), (2147483664, 4294967295)])] 0 1 (fun _ h => absurd h List.not_mem_nil) (by decide +kernel)
def ct_X6_add_18_0 : zCt := (107, [.inr (.inr (18, 0)), .inl (0, 4294967295), .inl (0, 4294967295)], [], [(18, 0, 15)], [.inl (none, [])], 1)
theorem hct_X6_add_18_0 : z_ctH zTb ct_X6_add_18_0 := z_ct_ok [] z_hds_ok [] [(true, 1, [(0, 2147483647), (2147483648, 2147483663), (2147483664, 4294967295)])] 0 1 (fun _ h => absurd h List.not_mem_nil) (by decide +kernel)
def ct_X6_fill_18_0 : zCt := (110, [.inr (.inr (18, 0)), .inl (0, 4294967295)], [], [(18, 0, 15)], [.inl (none, [])], 1)
theorem hct_X6_fill_18_0 : z_ctH zTb ct_X6_fill_18_0 := z_ct_ok [] z_hds_ok [] [] 0 1 (fun _ h => absurd h List.not_mem_nil) (by decide +kernel)
def ct_X6_at_19_0 : zCt := (104, [.inr (.inr (19, 0)), .inl (0, 4294967295)], [], [], [.inl (some (.inl (0, 4294967295)), [])], 1)
theorem hct_X6_at_19_0 : z_ctH zTb ct_X6_at_19_0 := z_ct_ok [] z_hds_ok [] [(true, 1, [(0, 2147483647), (2147483648, 2147483663), (2147483664, 4294967295)])] 0 1 (fun _ h => absurd h List.not_mem_nil) (by decide +kernel)
def ct_X6_put_19_0 : zCt := (106, [.inr (.inr (19, 0)), .inl (0, 4294967295), .inl (0, 4294967295)], [], [(19, 0, 15)], [.inl (none, [])], 1)
theorem hct_X6_put_19_0 : z_ctH zTb ct_X6_put_19_0 := z_ct_ok [] z_hds_ok [] [(true, 1, [(0, 2147483647), (2147483648, 2147483663), (2147483664, 4294967295)])] 0 1 (fun _ h => absurd h List.not_mem_nil) (by decide +kernel)
def ct_X6_add_19_0 : zCt := (107, [.inr (.inr (19, 0)), .inl (0, 4294967295), .inl (0, 4294967295)], [], [(19, 0, 15)], [.inl (none, [])], 1)
theorem hct_X6_add_19_0 : z_ctH zTb ct_X6_add_19_0 := z_ct_ok [] z_hds_ok [] [(true, 1, [(0, 2147483647), (2147483648, 2147483663), (2147483664, 4294967295)])] 0 1 (fun _ h => absurd h List.not_mem_nil) (by decide +kernel)
def ct_X6_fill_19_0 : zCt := (110, [.inr (.inr (19, 0)), .inl (0, 4294967295)], [], [(19, 0, 15)], [.inl (none, [])], 1)
theorem hct_X6_fill_19_0 : z_ctH zTb ct_X6_fill_19_0 := z_ct_ok [] z_hds_ok [] [] 0 1 (fun _ h => absurd h List.not_mem_nil) (by decide +kernel)
def ct_X6_at_21_0 : zCt := (104, [.inr (.inr (21, 0)), .inl (0, 4294967295)], [], [], [.inl (some (.inl (0, 4294967295)), [])], 1)
theorem hct_X6_at_21_0 : z_ctH zTb ct_X6_at_21_0 := z_ct_ok [] z_hds_ok [] [(true, 1, [(0, 2147483647), (2147483648, 2147483667), (2147483668, 4294967295)])] 0 1 (fun _ h => absurd h List.not_mem_nil) (by decide +kernel)
def ct_X6_put_21_0 : zCt := (106, [.inr (.inr (21, 0)), .inl (0, 4294967295), .inl (0, 4294967295)], [], [(21, 0, 19)], [.inl (none, [])], 1)
theorem hct_X6_put_21_0 : z_ctH zTb ct_X6_put_21_0 := z_ct_ok [] z_hds_ok [] [(true, 1, [(0, 2147483647), (2147483648, 2147483667), (2147483668, 4294967295)])] 0 1 (fun _ h => absurd h List.not_mem_nil) (by decide +kernel)
def ct_X6_add_21_0 : zCt := (107, [.inr (.inr (21, 0)), .inl (0, 4294967295), .inl (0, 4294967295)], [], [(21, 0, 19)], [.inl (none, [])], 1)
theorem hct_X6_add_21_0 : z_ctH zTb ct_X6_add_21_0 := z_ct_ok [] z_hds_ok [] [(true, 1, [(0, 2147483647), (2147483648, 2147483667), (2147483668, 4294967295)])] 0 1 (fun _ h => absurd h List.not_mem_nil) (by decide +kernel)
def ct_X6_fill_21_0 : zCt := (110, [.inr (.inr (21, 0)), .inl (0, 4294967295)], [], [(21, 0, 19)], [.inl (none, [])], 1)
theorem hct_X6_fill_21_0 : z_ctH zTb ct_X6_fill_21_0 := z_ct_ok [] z_hds_ok [] [] 0 1 (fun _ h => absurd h List.not_mem_nil) (by decide +kernel)
def ct_X6_at_22_0 : zCt := (104, [.inr (.inr (22, 0)), .inl (0, 4294967295)], [], [], [.inl (some (.inl (0, 4294967295)), [])], 1)
theorem hct_X6_at_22_0 : z_ctH zTb ct_X6_at_22_0 := z_ct_ok [] z_hds_ok [] [(true, 1, [(0, 2147483647), (2147483648, 2147483667), (2147483668, 4294967295)])] 0 1 (fun _ h => absurd h List.not_mem_nil) (by decide +kernel)
def ct_X6_put_22_0 : zCt := (106, [.inr (.inr (22, 0)), .inl (0, 4294967295), .inl (0, 4294967295)], [], [(22, 0, 19)], [.inl (none, [])], 1)
theorem hct_X6_put_22_0 : z_ctH zTb ct_X6_put_22_0 := z_ct_ok [] z_hds_ok [] [(true, 1, [(0, 2147483647), (2147483648, 2147483667), (2147483668, 4294967295)])] 0 1 (fun _ h => absurd h List.not_mem_nil) (by decide +kernel)
def ct_X6_add_22_0 : zCt := (107, [.inr (.inr (22, 0)), .inl (0, 4294967295), .inl (0, 4294967295)], [], [(22, 0, 19)], [.inl (none, [])], 1)
theorem hct_X6_add_22_0 : z_ctH zTb ct_X6_add_22_0 := z_ct_ok [] z_hds_ok [] [(true, 1, [(0, 2147483647), (2147483648, 2147483667), (2147483668, 4294967295)])] 0 1 (fun _ h => absurd h List.not_mem_nil) (by decide +kernel)
def ct_X6_fill_22_0 : zCt := (110, [.inr (.inr (22, 0)), .inl (0, 4294967295)], [], [(22, 0, 19)], [.inl (none, [])], 1)
theorem hct_X6_fill_22_0 : z_ctH zTb ct_X6_fill_22_0 := z_ct_ok [] z_hds_ok [] [] 0 1 (fun _ h => absurd h List.not_mem_nil) (by decide +kernel)
def ct_X6_at_23_0 : zCt := (104, [.inr (.inr (23, 0)), .inl (0, 4294967295)], [], [], [.inl (some (.inl (0, 4294967295)), [])], 1)
theorem hct_X6_at_23_0 : z_ctH zTb ct_X6_at_23_0 := z_ct_ok [] z_hds_ok [] [(true, 1, [(0, 2147483647), (2147483648, 2147483667), (2147483668, 4294967295)])] 0 1 (fun _ h => absurd h List.not_mem_nil) (by decide +kernel)
def ct_X6_put_23_0 : zCt := (106, [.inr (.inr (23, 0)), .inl (0, 4294967295), .inl (0, 4294967295)], [], [(23, 0, 19)], [.inl (none, [])], 1)
theorem hct_X6_put_23_0 : z_ctH zTb ct_X6_put_23_0 := z_ct_ok [] z_hds_ok [] [(true, 1, [(0, 2147483647), (2147483648, 2147483667), (2147483668, 4294967295)])] 0 1 (fun _ h => absurd h List.not_mem_nil) (by decide +kernel)
def ct_X6_add_23_0 : zCt := (107, [.inr (.inr (23, 0)), .inl (0, 4294967295), .inl (0, 4294967295)], [], [(23, 0, 19)], [.inl (none, [])], 1)
theorem hct_X6_add_23_0 : z_ctH zTb ct_X6_add_23_0 := z_ct_ok [] z_hds_ok [] [(true, 1, [(0, 2147483647), (2147483648, 2147483667), (2147483668, 4294967295)])] 0 1 (fun _ h => absurd h List.not_mem_nil) (by decide +kernel)
def ct_X6_fill_23_0 : zCt := (110, [.inr (.inr (23, 0)), .inl (0, 4294967295)], [], [(23, 0, 19)], [.inl (none, [])], 1)
theorem hct_X6_fill_23_0 : z_ctH zTb ct_X6_fill_23_0 := z_ct_ok [] z_hds_ok [] [] 0 1 (fun _ h => absurd h List.not_mem_nil) (by decide +kernel)
def ct_X6_at_29_0 : zCt := (104, [.inr (.inr (29, 0)), .inl (0, 4294967295)], [], [], [.inl (some (.inl (0, 4294967295)), [])], 1)
theorem hct_X6_at_29_0 : z_ctH zTb ct_X6_at_29_0 := z_ct_ok [] z_hds_ok [] [(true, 1, [(0, 2147483647), (2147483648, 2147483679), (2147483680, 4294967295)])] 0 1 (fun _ h => absurd h List.not_mem_nil) (by decide +kernel)
def ct_X6_put_29_0 : zCt := (106, [.inr (.inr (29, 0)), .inl (0, 4294967295), .inl (0, 4294967295)], [], [(29, 0, 31)], [.inl (none, [])], 1)
theorem hct_X6_put_29_0 : z_ctH zTb ct_X6_put_29_0 := z_ct_ok [] z_hds_ok [] [(true, 1, [(0, 2147483647), (2147483648, 2147483679), (2147483680, 4294967295)])] 0 1 (fun _ h => absurd h List.not_mem_nil) (by decide +kernel)
def ct_X6_add_29_0 : zCt := (107, [.inr (.inr (29, 0)), .inl (0, 4294967295), .inl (0, 4294967295)], [], [(29, 0, 31)], [.inl (none, [])], 1)
theorem hct_X6_add_29_0 : z_ctH zTb ct_X6_add_29_0 := z_ct_ok [] z_hds_ok [] [(true, 1, [(0, 2147483647), (2147483648, 2147483679), (2147483680, 4294967295)])] 0 1 (fun _ h => absurd h List.not_mem_nil) (by decide +kernel)
def ct_X6_fill_29_0 : zCt := (110, [.inr (.inr (29, 0)), .inl (0, 4294967295)], [], [(29, 0, 31)], [.inl (none, [])], 1)
theorem hct_X6_fill_29_0 : z_ctH zTb ct_X6_fill_29_0 := z_ct_ok [] z_hds_ok [] [] 0 1 (fun _ h => absurd h List.not_mem_nil) (by decide +kernel)
def ct_X6_at_30_0 : zCt := (104, [.inr (.inr (30, 0)), .inl (0, 4294967295)], [], [], [.inl (some (.inl (0, 4294967295)), [])], 1)
theorem hct_X6_at_30_0 : z_ctH zTb ct_X6_at_30_0 := z_ct_ok [] z_hds_ok [] [(true, 1, [(0, 2147483647), (2147483648, 2147483679), (2147483680, 4294967295)])] 0 1 (fun _ h => absurd h List.not_mem_nil) (by decide +kernel)
def ct_X6_put_30_0 : zCt := (106, [.inr (.inr (30, 0)), .inl (0, 4294967295), .inl (0, 4294967295)], [], [(30, 0, 31)], [.inl (none, [])], 1)
theorem hct_X6_put_30_0 : z_ctH zTb ct_X6_put_30_0 := z_ct_ok [] z_hds_ok [] [(true, 1, [(0, 2147483647), (2147483648, 2147483679), (2147483680, 4294967295)])] 0 1 (fun _ h => absurd h List.not_mem_nil) (by decide +kernel)
def ct_X6_add_30_0 : zCt := (107, [.inr (.inr (30, 0)), .inl (0, 4294967295), .inl (0, 4294967295)], [], [(30, 0, 31)], [.inl (none, [])], 1)
theorem hct_X6_add_30_0 : z_ctH zTb ct_X6_add_30_0 := z_ct_ok [] z_hds_ok [] [(true, 1, [(0, 2147483647), (2147483648, 2147483679), (2147483680, 4294967295)])] 0 1 (fun _ h => absurd h List.not_mem_nil) (by decide +kernel)
def ct_X6_fill_30_0 : zCt := (110, [.inr (.inr (30, 0)), .inl (0, 4294967295)], [], [(30, 0, 31)], [.inl (none, [])], 1)
theorem hct_X6_fill_30_0 : z_ctH zTb ct_X6_fill_30_0 := z_ct_ok [] z_hds_ok [] [] 0 1 (fun _ h => absurd h List.not_mem_nil) (by decide +kernel)
def ct_X6_at_31_0 : zCt := (104, [.inr (.inr (31, 0)), .inl (0, 4294967295)], [], [], [.inl (some (.inl (0, 4294967295)), [])], 1)
theorem hct_X6_at_31_0 : z_ctH zTb ct_X6_at_31_0 := z_ct_ok [] z_hds_ok [] [(true, 1, [(0, 2147483647), (2147483648, 2147483679), (2147483680, 4294967295)])] 0 1 (fun _ h => absurd h List.not_mem_nil) (by decide +kernel)
def ct_X6_put_31_0 : zCt := (106, [.inr (.inr (31, 0)), .inl (0, 4294967295), .inl (0, 4294967295)], [], [(31, 0, 31)], [.inl (none, [])], 1)
theorem hct_X6_put_31_0 : z_ctH zTb ct_X6_put_31_0 := z_ct_ok [] z_hds_ok [] [(true, 1, [(0, 2147483647), (2147483648, 2147483679), (2147483680, 4294967295)])] 0 1 (fun _ h => absurd h List.not_mem_nil) (by decide +kernel)
def ct_X6_add_31_0 : zCt := (107, [.inr (.inr (31, 0)), .inl (0, 4294967295), .inl (0, 4294967295)], [], [(31, 0, 31)], [.inl (none, [])], 1)
theorem hct_X6_add_31_0 : z_ctH zTb ct_X6_add_31_0 := z_ct_ok [] z_hds_ok [] [(true, 1, [(0, 2147483647), (2147483648, 2147483679), (2147483680, 4294967295)])] 0 1 (fun _ h => absurd h List.not_mem_nil) (by decide +kernel)
def ct_X6_fill_31_0 : zCt := (110, [.inr (.inr (31, 0)), .inl (0, 4294967295)], [], [(31, 0, 31)], [.inl (none, [])], 1)
theorem hct_X6_fill_31_0 : z_ctH zTb ct_X6_fill_31_0 := z_ct_ok [] z_hds_ok [] [] 0 1 (fun _ h => absurd h List.not_mem_nil) (by decide +kernel)
def ct_X6_at_32_0 : zCt := (104, [.inr (.inr (32, 0)), .inl (0, 4294967295)], [], [], [.inl (some (.inl (0, 4294967295)), [])], 1)
theorem hct_X6_at_32_0 : z_ctH zTb ct_X6_at_32_0 := z_ct_ok [] z_hds_ok [] [(true, 1, [(0, 2147483647), (2147483648, 2147483663), (2147483664, 4294967295)])] 0 1 (fun _ h => absurd h List.not_mem_nil) (by decide +kernel)
def ct_X6_put_32_0 : zCt := (106, [.inr (.inr (32, 0)), .inl (0, 4294967295), .inl (0, 4294967295)], [], [(32, 0, 15)], [.inl (none, [])], 1)
theorem hct_X6_put_32_0 : z_ctH zTb ct_X6_put_32_0 := z_ct_ok [] z_hds_ok [] [(true, 1, [(0, 2147483647), (2147483648, 2147483663), (2147483664, 4294967295)])] 0 1 (fun _ h => absurd h List.not_mem_nil) (by decide +kernel)
def ct_X6_add_32_0 : zCt := (107, [.inr (.inr (32, 0)), .inl (0, 4294967295), .inl (0, 4294967295)], [], [(32, 0, 15)], [.inl (none, [])], 1)
theorem hct_X6_add_32_0 : z_ctH zTb ct_X6_add_32_0 := z_ct_ok [] z_hds_ok [] [(true, 1, [(0, 2147483647), (2147483648, 2147483663), (2147483664, 4294967295)])] 0 1 (fun _ h => absurd h List.not_mem_nil) (by decide +kernel)
def ct_X6_fill_32_0 : zCt := (110, [.inr (.inr (32, 0)), .inl (0, 4294967295)], [], [(32, 0, 15)], [.inl (none, [])], 1)
theorem hct_X6_fill_32_0 : z_ctH zTb ct_X6_fill_32_0 := z_ct_ok [] z_hds_ok [] [] 0 1 (fun _ h => absurd h List.not_mem_nil) (by decide +kernel)
def ct_X6_at_33_0 : zCt := (104, [.inr (.inr (33, 0)), .inl (0, 4294967295)], [], [], [.inl (some (.inl (0, 4294967295)), [])], 1)
theorem hct_X6_at_33_0 : z_ctH zTb ct_X6_at_33_0 := z_ct_ok [] z_hds_ok [] [(true, 1, [(0, 2147483647), (2147483648, 2147483651), (2147483652, 4294967295)])] 0 1 (fun _ h => absurd h List.not_mem_nil) (by decide +kernel)
def ct_X6_put_33_0 : zCt := (106, [.inr (.inr (33, 0)), .inl (0, 4294967295), .inl (0, 4294967295)], [], [(33, 0, 3)], [.inl (none, [])], 1)
theorem hct_X6_put_33_0 : z_ctH zTb ct_X6_put_33_0 := z_ct_ok [] z_hds_ok [] [(true, 1, [(0, 2147483647), (2147483648, 2147483651), (2147483652, 4294967295)])] 0 1 (fun _ h => absurd h List.not_mem_nil) (by decide +kernel)
def ct_X6_add_33_0 : zCt := (107, [.inr (.inr (33, 0)), .inl (0, 4294967295), .inl (0, 4294967295)], [], [(33, 0, 3)], [.inl (none, [])], 1)
theorem hct_X6_add_33_0 : z_ctH zTb ct_X6_add_33_0 := z_ct_ok [] z_hds_ok [] [(true, 1, [(0, 2147483647), (2147483648, 2147483651), (2147483652, 4294967295)])] 0 1 (fun _ h => absurd h List.not_mem_nil) (by decide +kernel)
def ct_X6_fill_33_0 : zCt := (110, [.inr (.inr (33, 0)), .inl (0, 4294967295)], [], [(33, 0, 3)], [.inl (none, [])], 1)
theorem hct_X6_fill_33_0 : z_ctH zTb ct_X6_fill_33_0 := z_ct_ok [] z_hds_ok [] [] 0 1 (fun _ h => absurd h List.not_mem_nil) (by decide +kernel)
def ct_X6_at_34_0 : zCt := (104, [.inr (.inr (34, 0)), .inl (0, 4294967295)], [], [], [.inl (some (.inl (0, 4294967295)), [])], 1)
theorem hct_X6_at_34_0 : z_ctH zTb ct_X6_at_34_0 := z_ct_ok [] z_hds_ok [] [(true, 1, [(0, 2147483647), (2147483648, 2147483679), (2147483680, 4294967295)])] 0 1 (fun _ h => absurd h List.not_mem_nil) (by decide +kernel)
def ct_X6_put_34_0 : zCt := (106, [.inr (.inr (34, 0)), .inl (0, 4294967295), .inl (0, 4294967295)], [], [(34, 0, 31)], [.inl (none, [])], 1)
theorem hct_X6_put_34_0 : z_ctH zTb ct_X6_put_34_0 := z_ct_ok [] z_hds_ok [] [(true, 1, [(0, 2147483647), (2147483648, 2147483679), (2147483680, 4294967295)])] 0 1 (fun _ h => absurd h List.not_mem_nil) (by decide +kernel)
def ct_X6_add_34_0 : zCt := (107, [.inr (.inr (34, 0)), .inl (0, 4294967295), .inl (0, 4294967295)], [], [(34, 0, 31)], [.inl (none, [])], 1)
theorem hct_X6_add_34_0 : z_ctH zTb ct_X6_add_34_0 := z_ct_ok [] z_hds_ok [] [(true, 1, [(0, 2147483647), (2147483648, 2147483679), (2147483680, 4294967295)])] 0 1 (fun _ h => absurd h List.not_mem_nil) (by decide +kernel)
def ct_X6_fill_34_0 : zCt := (110, [.inr (.inr (34, 0)), .inl (0, 4294967295)], [], [(34, 0, 31)], [.inl (none, [])], 1)
theorem hct_X6_fill_34_0 : z_ctH zTb ct_X6_fill_34_0 := z_ct_ok [] z_hds_ok [] [] 0 1 (fun _ h => absurd h List.not_mem_nil) (by decide +kernel)
def ct_X6_at__25_0 : zCt := (105, [.inr (.inr (25, 0)), .inl (0, 4294967295)], [], [], [.inl (some (.inr (.inl none)), [])], 1)
theorem hct_X6_at__25_0 : z_ctH zTb ct_X6_at__25_0 := z_ct_ok [] z_hds_ok [] [(true, 1, [(0, 2147483647), (2147483648, 2147483655), (2147483656, 4294967295)])] 0 1 (fun _ h => absurd h List.not_mem_nil) (by decide +kernel)
def ct_X6_put__25_0 : zCt := (108, [.inr (.inr (25, 0)), .inl (0, 4294967295), .inr (.inl none)], [], [(25, 0, 7)], [.inl (none, [])], 1)
theorem hct_X6_put__25_0 : z_ctH zTb ct_X6_put__25_0 := z_ct_ok [] z_hds_ok [] [(true, 1, [(0, 2147483647), (2147483648, 2147483655), (2147483656, 4294967295)])] 0 1 (fun _ h => absurd h List.not_mem_nil) (by decide +kernel)
def ct_X6_add__25_0 : zCt := (109, [.inr (.inr (25, 0)), .inl (0, 4294967295), .inr (.inl none)], [], [(25, 0, 7)], [.inl (none, [])], 1)
theorem hct_X6_add__25_0 : z_ctH zTb ct_X6_add__25_0 := z_ct_ok [] z_hds_ok [] [(true, 1, [(0, 2147483647), (2147483648, 2147483655), (2147483656, 4294967295)])] 0 1 (fun _ h => absurd h List.not_mem_nil) (by decide +kernel)
def ct_X6_fill__25_0 : zCt := (111, [.inr (.inr (25, 0)), .inr (.inl none)], [], [(25, 0, 7)], [.inl (none, [])], 1)
theorem hct_X6_fill__25_0 : z_ctH zTb ct_X6_fill__25_0 := z_ct_ok [] z_hds_ok [] [] 0 1 (fun _ h => absurd h List.not_mem_nil) (by decide +kernel)
def ct_X6_at__26_0 : zCt := (105, [.inr (.inr (26, 0)), .inl (0, 4294967295)], [], [], [.inl (some (.inr (.inl none)), [])], 1)
theorem hct_X6_at__26_0 : z_ctH zTb ct_X6_at__26_0 := z_ct_ok [] z_hds_ok [] [(true, 1, [(0, 2147483647), (2147483648, 2147483655), (2147483656, 4294967295)])] 0 1 (fun _ h => absurd h List.not_mem_nil) (by decide +kernel)
def ct_X6_put__26_0 : zCt := (108, [.inr (.inr (26, 0)), .inl (0, 4294967295), .inr (.inl none)], [], [(26, 0, 7)], [.inl (none, [])], 1)
theorem hct_X6_put__26_0 : z_ctH zTb ct_X6_put__26_0 := z_ct_ok [] z_hds_ok [] [(true, 1, [(0, 2147483647), (2147483648, 2147483655), (2147483656, 4294967295)])] 0 1 (fun _ h => absurd h List.not_mem_nil) (by decide +kernel)
def ct_X6_add__26_0 : zCt := (109, [.inr (.inr (26, 0)), .inl (0, 4294967295), .inr (.inl none)], [], [(26, 0, 7)], [.inl (none, [])], 1)
theorem hct_X6_add__26_0 : z_ctH zTb ct_X6_add__26_0 := z_ct_ok [] z_hds_ok [] [(true, 1, [(0, 2147483647), (2147483648, 2147483655), (2147483656, 4294967295)])] 0 1 (fun _ h => absurd h List.not_mem_nil) (by decide +kernel)
def ct_X6_fill__26_0 : zCt := (111, [.inr (.inr (26, 0)), .inr (.inl none)], [], [(26, 0, 7)], [.inl (none, [])], 1)
theorem hct_X6_fill__26_0 : z_ctH zTb ct_X6_fill__26_0 := z_ct_ok [] z_hds_ok [] [] 0 1 (fun _ h => absurd h List.not_mem_nil) (by decide +kernel)
def ct_X6_at__27_0 : zCt := (105, [.inr (.inr (27, 0)), .inl (0, 4294967295)], [], [], [.inl (some (.inr (.inl none)), [])], 1)
theorem hct_X6_at__27_0 : z_ctH zTb ct_X6_at__27_0 := z_ct_ok [] z_hds_ok [] [(true, 1, [(0, 2147483647), (2147483648, 2147483655), (2147483656, 4294967295)])] 0 1 (fun _ h => absurd h List.not_mem_nil) (by decide +kernel)
def ct_X6_put__27_0 : zCt := (108, [.inr (.inr (27, 0)), .inl (0, 4294967295), .inr (.inl none)], [], [(27, 0, 7)], [.inl (none, [])], 1)
theorem hct_X6_put__27_0 : z_ctH zTb ct_X6_put__27_0 := z_ct_ok [] z_hds_ok [] [(true, 1, [(0, 2147483647), (2147483648, 2147483655), (2147483656, 4294967295)])] 0 1 (fun _ h => absurd h List.not_mem_nil) (by decide +kernel)
def ct_X6_add__27_0 : zCt := (109, [.inr (.inr (27, 0)), .inl (0, 4294967295), .inr (.inl none)], [], [(27, 0, 7)], [.inl (none, [])], 1)
theorem hct_X6_add__27_0 : z_ctH zTb ct_X6_add__27_0 := z_ct_ok [] z_hds_ok [] [(true, 1, [(0, 2147483647), (2147483648, 2147483655), (2147483656, 4294967295)])] 0 1 (fun _ h => absurd h List.not_mem_nil) (by decide +kernel)
def ct_X6_fill__27_0 : zCt := (111, [.inr (.inr (27, 0)), .inr (.inl none)], [], [(27, 0, 7)], [.inl (none, [])], 1)
theorem hct_X6_fill__27_0 : z_ctH zTb ct_X6_fill__27_0 := z_ct_ok [] z_hds_ok [] [] 0 1 (fun _ h => absurd h List.not_mem_nil) (by decide +kernel)
def ct_X6_at__35_0 : zCt := (105, [.inr (.inr (35, 0)), .inl (0, 4294967295)], [], [], [.inl (some (.inr (.inl none)), [])], 1)
theorem hct_X6_at__35_0 : z_ctH zTb ct_X6_at__35_0 := z_ct_ok [] z_hds_ok [] [(true, 1, [(0, 2147483647), (2147483648, 2147483680), (2147483681, 4294967295)])] 0 1 (fun _ h => absurd h List.not_mem_nil) (by decide +kernel)
def ct_X6_put__35_0 : zCt := (108, [.inr (.inr (35, 0)), .inl (0, 4294967295), .inr (.inl none)], [], [(35, 0, 32)], [.inl (none, [])], 1)
theorem hct_X6_put__35_0 : z_ctH zTb ct_X6_put__35_0 := z_ct_ok [] z_hds_ok [] [(true, 1, [(0, 2147483647), (2147483648, 2147483680), (2147483681, 4294967295)])] 0 1 (fun _ h => absurd h List.not_mem_nil) (by decide +kernel)
def ct_X6_add__35_0 : zCt := (109, [.inr (.inr (35, 0)), .inl (0, 4294967295), .inr (.inl none)], [], [(35, 0, 32)], [.inl (none, [])], 1)
theorem hct_X6_add__35_0 : z_ctH zTb ct_X6_add__35_0 := z_ct_ok [] z_hds_ok [] [(true, 1, [(0, 2147483647), (2147483648, 2147483680), (2147483681, 4294967295)])] 0 1 (fun _ h => absurd h List.not_mem_nil) (by decide +kernel)
def ct_X6_fill__35_0 : zCt := (111, [.inr (.inr (35, 0)), .inr (.inl none)], [], [(35, 0, 32)], [.inl (none, [])], 1)
theorem hct_X6_fill__35_0 : z_ctH zTb ct_X6_fill__35_0 := z_ct_ok [] z_hds_ok [] [] 0 1 (fun _ h => absurd h List.not_mem_nil) (by decide +kernel)
def ct_X6_copy_12_0_1 : zCt := (112, [.inr (.inr (12, 0)), .inr (.inr (12, 1))], [], [(12, 0, 31)], [.inl (none, [])], 1)
theorem hct_X6_copy_12_0_1 : z_ctH zTb ct_X6_copy_12_0_1 := z_ct_ok [] z_hds_ok [] [] 0 1 (fun _ h => absurd h List.not_mem_nil) (by decide +kernel)
def ct_X6_copy_12_0_2 : zCt := (112, [.inr (.inr (12, 0)), .inr (.inr (12, 2))], [], [(12, 0, 31)], [.inl (none, [])], 1)
theorem hct_X6_copy_12_0_2 : z_ctH zTb ct_X6_copy_12_0_2 := z_ct_ok [] z_hds_ok [] [] 0 1 (fun _ h => absurd h List.not_mem_nil) (by decide +kernel)
def ct_X6_copy_12_1_0 : zCt := (112, [.inr (.inr (12, 1)), .inr (.inr (12, 0))], [], [(12, 0, 31)], [.inl (none, [])], 1)
theorem hct_X6_copy_12_1_0 : z_ctH zTb ct_X6_copy_12_1_0 := z_ct_ok [] z_hds_ok [] [] 0 1 (fun _ h => absurd h List.not_mem_nil) (by decide +kernel)
def ct_X6_copy_12_1_2 : zCt := (112, [.inr (.inr (12, 1)), .inr (.inr (12, 2))], [], [(12, 0, 31)], [.inl (none, [])], 1)
theorem hct_X6_copy_12_1_2 : z_ctH zTb ct_X6_copy_12_1_2 := z_ct_ok [] z_hds_ok [] [] 0 1 (fun _ h => absurd h List.not_mem_nil) (by decide +kernel)
def ct_X6_copy_12_2_0 : zCt := (112, [.inr (.inr (12, 2)), .inr (.inr (12, 0))], [], [(12, 0, 31)], [.inl (none, [])], 1)
theorem hct_X6_copy_12_2_0 : z_ctH zTb ct_X6_copy_12_2_0 := z_ct_ok [] z_hds_ok [] [] 0 1 (fun _ h => absurd h List.not_mem_nil) (by decide +kernel)
def ct_X6_copy_12_2_1 : zCt := (112, [.inr (.inr (12, 2)), .inr (.inr (12, 1))], [], [(12, 0, 31)], [.inl (none, [])], 1)
theorem hct_X6_copy_12_2_1 : z_ctH zTb ct_X6_copy_12_2_1 := z_ct_ok [] z_hds_ok [] [] 0 1 (fun _ h => absurd h List.not_mem_nil) (by decide +kernel)
def ct_X6_copy_13_0_1 : zCt := (112, [.inr (.inr (13, 0)), .inr (.inr (13, 1))], [], [(13, 0, 7)], [.inl (none, [])], 1)
theorem hct_X6_copy_13_0_1 : z_ctH zTb ct_X6_copy_13_0_1 := z_ct_ok [] z_hds_ok [] [] 0 1 (fun _ h => absurd h List.not_mem_nil) (by decide +kernel)
def ct_X6_copy_13_0_2 : zCt := (112, [.inr (.inr (13, 0)), .inr (.inr (13, 2))], [], [(13, 0, 7)], [.inl (none, [])], 1)
theorem hct_X6_copy_13_0_2 : z_ctH zTb ct_X6_copy_13_0_2 := z_ct_ok [] z_hds_ok [] [] 0 1 (fun _ h => absurd h List.not_mem_nil) (by decide +kernel)
def ct_X6_copy_13_1_0 : zCt := (112, [.inr (.inr (13, 1)), .inr (.inr (13, 0))], [], [(13, 0, 7)], [.inl (none, [])], 1)
theorem hct_X6_copy_13_1_0 : z_ctH zTb ct_X6_copy_13_1_0 := z_ct_ok [] z_hds_ok [] [] 0 1 (fun _ h => absurd h List.not_mem_nil) (by decide +kernel)
def ct_X6_copy_13_1_2 : zCt := (112, [.inr (.inr (13, 1)), .inr (.inr (13, 2))], [], [(13, 0, 7)], [.inl (none, [])], 1)
theorem hct_X6_copy_13_1_2 : z_ctH zTb ct_X6_copy_13_1_2 := z_ct_ok [] z_hds_ok [] [] 0 1 (fun _ h => absurd h List.not_mem_nil) (by decide +kernel)
def ct_X6_copy_13_2_0 : zCt := (112, [.inr (.inr (13, 2)), .inr (.inr (13, 0))], [], [(13, 0, 7)], [.inl (none, [])], 1)
theorem hct_X6_copy_13_2_0 : z_ctH zTb ct_X6_copy_13_2_0 := z_ct_ok [] z_hds_ok [] [] 0 1 (fun _ h => absurd h List.not_mem_nil) (by decide +kernel)
def ct_X6_copy_13_2_1 : zCt := (112, [.inr (.inr (13, 2)), .inr (.inr (13, 1))], [], [(13, 0, 7)], [.inl (none, [])], 1)
theorem hct_X6_copy_13_2_1 : z_ctH zTb ct_X6_copy_13_2_1 := z_ct_ok [] z_hds_ok [] [] 0 1 (fun _ h => absurd h List.not_mem_nil) (by decide +kernel)
def ct_X6_copy_14_0_1 : zCt := (112, [.inr (.inr (14, 0)), .inr (.inr (14, 1))], [], [(14, 0, 15)], [.inl (none, [])], 1)
theorem hct_X6_copy_14_0_1 : z_ctH zTb ct_X6_copy_14_0_1 := z_ct_ok [] z_hds_ok [] [] 0 1 (fun _ h => absurd h List.not_mem_nil) (by decide +kernel)
def ct_X6_copy_14_0_2 : zCt := (112, [.inr (.inr (14, 0)), .inr (.inr (14, 2))], [], [(14, 0, 15)], [.inl (none, [])], 1)
theorem hct_X6_copy_14_0_2 : z_ctH zTb ct_X6_copy_14_0_2 := z_ct_ok [] z_hds_ok [] [] 0 1 (fun _ h => absurd h List.not_mem_nil) (by decide +kernel)
def ct_X6_copy_14_1_0 : zCt := (112, [.inr (.inr (14, 1)), .inr (.inr (14, 0))], [], [(14, 0, 15)], [.inl (none, [])], 1)
theorem hct_X6_copy_14_1_0 : z_ctH zTb ct_X6_copy_14_1_0 := z_ct_ok [] z_hds_ok [] [] 0 1 (fun _ h => absurd h List.not_mem_nil) (by decide +kernel)
def ct_X6_copy_14_1_2 : zCt := (112, [.inr (.inr (14, 1)), .inr (.inr (14, 2))], [], [(14, 0, 15)], [.inl (none, [])], 1)
theorem hct_X6_copy_14_1_2 : z_ctH zTb ct_X6_copy_14_1_2 := z_ct_ok [] z_hds_ok [] [] 0 1 (fun _ h => absurd h List.not_mem_nil) (by decide +kernel)
def ct_X6_copy_14_2_0 : zCt := (112, [.inr (.inr (14, 2)), .inr (.inr (14, 0))], [], [(14, 0, 15)], [.inl (none, [])], 1)
theorem hct_X6_copy_14_2_0 : z_ctH zTb ct_X6_copy_14_2_0 := z_ct_ok [] z_hds_ok [] [] 0 1 (fun _ h => absurd h List.not_mem_nil) (by decide +kernel)
def ct_X6_copy_14_2_1 : zCt := (112, [.inr (.inr (14, 2)), .inr (.inr (14, 1))], [], [(14, 0, 15)], [.inl (none, [])], 1)
theorem hct_X6_copy_14_2_1 : z_ctH zTb ct_X6_copy_14_2_1 := z_ct_ok [] z_hds_ok [] [] 0 1 (fun _ h => absurd h List.not_mem_nil) (by decide +kernel)
def ct_X2_times_0 : zCt := (59, [.inr (.inr (5, 0)), .inl (0, 4294967295), .inl (0, 4294967295)], [], [], [.inl (some (.inl (0, 4294967295)), [])], 3)
theorem hct_X2_times_0 : z_ctH zTb ct_X2_times_0 := z_ct_ok [] z_hds_ok [] [] 0 3 (fun _ h => absurd h List.not_mem_nil) (by decide +kernel)
def ct_X2_against_0 : zCt := (60, [.inr (.inr (5, 0)), .inl (0, 4294967295)], [], [], [.inl (some (.inl (0, 4294967295)), [])], 3)
theorem hct_X2_against_0 : z_ctH zTb ct_X2_against_0 := z_ct_ok [] z_hds_ok [] [(true, 1, [(0, 2147483647), (2147483648, 2147483655), (2147483656, 4294967295)])] 0 3 (fun _ h => absurd h List.not_mem_nil) (by decide +kernel)
def ct_X2_commute_0 : zCt := (61, [.inr (.inr (5, 0)), .inl (0, 4294967295), .inl (0, 4294967295)], [], [], [.inl (some (.inl (2147483648, 2147483649)), [])], 6)
theorem hct_X2_commute_0 : z_ctH zTb ct_X2_commute_0 := z_ct_ok [] z_hds_ok [ct_X2_times_0] [] 3 3 (List.forall_mem_cons.mpr ⟨hct_X2_times_0, fun _ h => absurd h List.not_mem_nil⟩) (by decide +kernel)
def ct_X2_timesToRest_0 : zCt := (62, [.inr (.inr (5, 0)), .inl (0, 4294967295)], [], [], [.inl (some (.inl (2147483649, 2147483656)), [])], 6)
theorem hct_X2_timesToRest_0 : z_ctH zTb ct_X2_timesToRest_0 := z_ct_ok [] z_hds_ok [ct_X2_times_0] [] 3 3 (List.forall_mem_cons.mpr ⟨hct_X2_times_0, fun _ h => absurd h List.not_mem_nil⟩) (by decide +kernel)
def ct_X2_kinOf_0 : zCt := (67, [.inr (.inr (5, 0)), .inl (0, 4294967295)], [], [], [.inl (some (.inl (0, 4294967295)), [])], 4)
theorem hct_X2_kinOf_0 : z_ctH zTb ct_X2_kinOf_0 := z_ct_ok [] z_hds_ok [ct_X6_at_8_0] [] 1 3 (List.forall_mem_cons.mpr ⟨hct_X6_at_8_0, fun _ h => absurd h List.not_mem_nil⟩) (by decide +kernel)
def ct_X2_kinSize_0 : zCt := (68, [.inr (.inr (5, 0)), .inl (0, 4294967295)], [], [], [.inl (some (.inl (0, 4294967295)), [])], 7)
theorem hct_X2_kinSize_0 : z_ctH zTb ct_X2_kinSize_0 := z_ct_ok [] z_hds_ok [ct_X6_at_9_0, ct_X2_kinOf_0] [] 4 3 (List.forall_mem_cons.mpr ⟨hct_X6_at_9_0, List.forall_mem_cons.mpr ⟨hct_X2_kinOf_0, fun _ h => absurd h List.not_mem_nil⟩⟩) (by decide +kernel)
def ct_X2_commutators_0 : zCt := (69, [.inr (.inr (5, 0)), .inl (0, 4294967295)], [], [], [.inl (some (.inl (0, 4294967295)), [])], 4)
theorem hct_X2_commutators_0 : z_ctH zTb ct_X2_commutators_0 := z_ct_ok [] z_hds_ok [ct_X6_at_10_0] [] 1 3 (List.forall_mem_cons.mpr ⟨hct_X6_at_10_0, fun _ h => absurd h List.not_mem_nil⟩) (by decide +kernel)
def ct_X2_roots_0 : zCt := (70, [.inr (.inr (5, 0)), .inl (0, 4294967295)], [], [], [.inl (some (.inl (0, 4294967295)), [])], 4)
theorem hct_X2_roots_0 : z_ctH zTb ct_X2_roots_0 := z_ct_ok [] z_hds_ok [ct_X6_at_11_0] [] 1 3 (List.forall_mem_cons.mpr ⟨hct_X6_at_11_0, fun _ h => absurd h List.not_mem_nil⟩) (by decide +kernel)
def ct_X2_product_0 : zCt := (54, [.inr (.inr (5, 0)), .inl (0, 4294967295), .inl (0, 4294967295)], [], [], [.inl (some (.inl (0, 4294967295)), [])], 3)
theorem hct_X2_product_0 : z_ctH zTb ct_X2_product_0 := z_ct_ok [] z_hds_ok [] [] 0 3 (fun _ h => absurd h List.not_mem_nil) (by decide +kernel)
def ct_X2_times_1 : zCt := (59, [.inr (.inr (5, 1)), .inl (0, 4294967295), .inl (0, 4294967295)], [], [], [.inl (some (.inl (0, 4294967295)), [])], 3)
theorem hct_X2_times_1 : z_ctH zTb ct_X2_times_1 := z_ct_ok [] z_hds_ok [] [] 0 3 (fun _ h => absurd h List.not_mem_nil) (by decide +kernel)
def ct_X2_against_1 : zCt := (60, [.inr (.inr (5, 1)), .inl (0, 4294967295)], [], [], [.inl (some (.inl (0, 4294967295)), [])], 3)
theorem hct_X2_against_1 : z_ctH zTb ct_X2_against_1 := z_ct_ok [] z_hds_ok [] [(true, 1, [(0, 2147483647), (2147483648, 2147483655), (2147483656, 4294967295)])] 0 3 (fun _ h => absurd h List.not_mem_nil) (by decide +kernel)
def ct_X2_commute_1 : zCt := (61, [.inr (.inr (5, 1)), .inl (0, 4294967295), .inl (0, 4294967295)], [], [], [.inl (some (.inl (2147483648, 2147483649)), [])], 6)
theorem hct_X2_commute_1 : z_ctH zTb ct_X2_commute_1 := z_ct_ok [] z_hds_ok [ct_X2_times_1] [] 3 3 (List.forall_mem_cons.mpr ⟨hct_X2_times_1, fun _ h => absurd h List.not_mem_nil⟩) (by decide +kernel)
def ct_X2_timesToRest_1 : zCt := (62, [.inr (.inr (5, 1)), .inl (0, 4294967295)], [], [], [.inl (some (.inl (2147483649, 2147483656)), [])], 6)
theorem hct_X2_timesToRest_1 : z_ctH zTb ct_X2_timesToRest_1 := z_ct_ok [] z_hds_ok [ct_X2_times_1] [] 3 3 (List.forall_mem_cons.mpr ⟨hct_X2_times_1, fun _ h => absurd h List.not_mem_nil⟩) (by decide +kernel)
def ct_X2_kinOf_1 : zCt := (67, [.inr (.inr (5, 1)), .inl (0, 4294967295)], [], [], [.inl (some (.inl (0, 4294967295)), [])], 4)
theorem hct_X2_kinOf_1 : z_ctH zTb ct_X2_kinOf_1 := z_ct_ok [] z_hds_ok [ct_X6_at_8_1] [] 1 3 (List.forall_mem_cons.mpr ⟨hct_X6_at_8_1, fun _ h => absurd h List.not_mem_nil⟩) (by decide +kernel)
def ct_X2_kinSize_1 : zCt := (68, [.inr (.inr (5, 1)), .inl (0, 4294967295)], [], [], [.inl (some (.inl (0, 4294967295)), [])], 7)
theorem hct_X2_kinSize_1 : z_ctH zTb ct_X2_kinSize_1 := z_ct_ok [] z_hds_ok [ct_X6_at_9_1, ct_X2_kinOf_1] [] 4 3 (List.forall_mem_cons.mpr ⟨hct_X6_at_9_1, List.forall_mem_cons.mpr ⟨hct_X2_kinOf_1, fun _ h => absurd h List.not_mem_nil⟩⟩) (by decide +kernel)
def ct_X2_commutators_1 : zCt := (69, [.inr (.inr (5, 1)), .inl (0, 4294967295)], [], [], [.inl (some (.inl (0, 4294967295)), [])], 4)
theorem hct_X2_commutators_1 : z_ctH zTb ct_X2_commutators_1 := z_ct_ok [] z_hds_ok [ct_X6_at_10_1] [] 1 3 (List.forall_mem_cons.mpr ⟨hct_X6_at_10_1, fun _ h => absurd h List.not_mem_nil⟩) (by decide +kernel)
def ct_X2_roots_1 : zCt := (70, [.inr (.inr (5, 1)), .inl (0, 4294967295)], [], [], [.inl (some (.inl (0, 4294967295)), [])], 4)
theorem hct_X2_roots_1 : z_ctH zTb ct_X2_roots_1 := z_ct_ok [] z_hds_ok [ct_X6_at_11_1] [] 1 3 (List.forall_mem_cons.mpr ⟨hct_X6_at_11_1, fun _ h => absurd h List.not_mem_nil⟩) (by decide +kernel)
def ct_X2_product_1 : zCt := (54, [.inr (.inr (5, 1)), .inl (0, 4294967295), .inl (0, 4294967295)], [], [], [.inl (some (.inl (0, 4294967295)), [])], 3)
theorem hct_X2_product_1 : z_ctH zTb ct_X2_product_1 := z_ct_ok [] z_hds_ok [] [] 0 3 (fun _ h => absurd h List.not_mem_nil) (by decide +kernel)
def ct_X2_times_2 : zCt := (59, [.inr (.inr (5, 2)), .inl (0, 4294967295), .inl (0, 4294967295)], [], [], [.inl (some (.inl (0, 4294967295)), [])], 3)
theorem hct_X2_times_2 : z_ctH zTb ct_X2_times_2 := z_ct_ok [] z_hds_ok [] [] 0 3 (fun _ h => absurd h List.not_mem_nil) (by decide +kernel)
def ct_X2_against_2 : zCt := (60, [.inr (.inr (5, 2)), .inl (0, 4294967295)], [], [], [.inl (some (.inl (0, 4294967295)), [])], 3)
theorem hct_X2_against_2 : z_ctH zTb ct_X2_against_2 := z_ct_ok [] z_hds_ok [] [(true, 1, [(0, 2147483647), (2147483648, 2147483655), (2147483656, 4294967295)])] 0 3 (fun _ h => absurd h List.not_mem_nil) (by decide +kernel)
def ct_X2_commute_2 : zCt := (61, [.inr (.inr (5, 2)), .inl (0, 4294967295), .inl (0, 4294967295)], [], [], [.inl (some (.inl (2147483648, 2147483649)), [])], 6)
theorem hct_X2_commute_2 : z_ctH zTb ct_X2_commute_2 := z_ct_ok [] z_hds_ok [ct_X2_times_2] [] 3 3 (List.forall_mem_cons.mpr ⟨hct_X2_times_2, fun _ h => absurd h List.not_mem_nil⟩) (by decide +kernel)
def ct_X2_timesToRest_2 : zCt := (62, [.inr (.inr (5, 2)), .inl (0, 4294967295)], [], [], [.inl (some (.inl (2147483649, 2147483656)), [])], 6)
theorem hct_X2_timesToRest_2 : z_ctH zTb ct_X2_timesToRest_2 := z_ct_ok [] z_hds_ok [ct_X2_times_2] [] 3 3 (List.forall_mem_cons.mpr ⟨hct_X2_times_2, fun _ h => absurd h List.not_mem_nil⟩) (by decide +kernel)
def ct_X2_kinOf_2 : zCt := (67, [.inr (.inr (5, 2)), .inl (0, 4294967295)], [], [], [.inl (some (.inl (0, 4294967295)), [])], 4)
theorem hct_X2_kinOf_2 : z_ctH zTb ct_X2_kinOf_2 := z_ct_ok [] z_hds_ok [ct_X6_at_8_2] [] 1 3 (List.forall_mem_cons.mpr ⟨hct_X6_at_8_2, fun _ h => absurd h List.not_mem_nil⟩) (by decide +kernel)
def ct_X2_kinSize_2 : zCt := (68, [.inr (.inr (5, 2)), .inl (0, 4294967295)], [], [], [.inl (some (.inl (0, 4294967295)), [])], 7)
theorem hct_X2_kinSize_2 : z_ctH zTb ct_X2_kinSize_2 := z_ct_ok [] z_hds_ok [ct_X6_at_9_2, ct_X2_kinOf_2] [] 4 3 (List.forall_mem_cons.mpr ⟨hct_X6_at_9_2, List.forall_mem_cons.mpr ⟨hct_X2_kinOf_2, fun _ h => absurd h List.not_mem_nil⟩⟩) (by decide +kernel)
def ct_X2_commutators_2 : zCt := (69, [.inr (.inr (5, 2)), .inl (0, 4294967295)], [], [], [.inl (some (.inl (0, 4294967295)), [])], 4)
theorem hct_X2_commutators_2 : z_ctH zTb ct_X2_commutators_2 := z_ct_ok [] z_hds_ok [ct_X6_at_10_2] [] 1 3 (List.forall_mem_cons.mpr ⟨hct_X6_at_10_2, fun _ h => absurd h List.not_mem_nil⟩) (by decide +kernel)
def ct_X2_roots_2 : zCt := (70, [.inr (.inr (5, 2)), .inl (0, 4294967295)], [], [], [.inl (some (.inl (0, 4294967295)), [])], 4)
theorem hct_X2_roots_2 : z_ctH zTb ct_X2_roots_2 := z_ct_ok [] z_hds_ok [ct_X6_at_11_2] [] 1 3 (List.forall_mem_cons.mpr ⟨hct_X6_at_11_2, fun _ h => absurd h List.not_mem_nil⟩) (by decide +kernel)
def ct_X2_product_2 : zCt := (54, [.inr (.inr (5, 2)), .inl (0, 4294967295), .inl (0, 4294967295)], [], [], [.inl (some (.inl (0, 4294967295)), [])], 3)
theorem hct_X2_product_2 : z_ctH zTb ct_X2_product_2 := z_ct_ok [] z_hds_ok [] [] 0 3 (fun _ h => absurd h List.not_mem_nil) (by decide +kernel)
def ct_X2_fillProducts_0 : zCt := (53, [.inr (.inr (5, 0))], [], [(6, 0, 63), (7, 0, 7)], [.inl (none, [])], 5)
theorem hct_X2_fillProducts_0 : z_ctH zTb ct_X2_fillProducts_0 := z_ct_ok [] z_hds_ok [ct_X6_put_6_0, ct_X6_put_7_0, ct_X2_product_0] [] 3 2 (List.forall_mem_cons.mpr ⟨hct_X6_put_6_0, List.forall_mem_cons.mpr ⟨hct_X6_put_7_0, List.forall_mem_cons.mpr ⟨hct_X2_product_0, fun _ h => absurd h List.not_mem_nil⟩⟩⟩) (by decide +kernel)
def ct_X2_fillProducts_1 : zCt := (53, [.inr (.inr (5, 1))], [], [(6, 0, 63), (7, 0, 7)], [.inl (none, [])], 5)
theorem hct_X2_fillProducts_1 : z_ctH zTb ct_X2_fillProducts_1 := z_ct_ok [] z_hds_ok [ct_X6_put_6_1, ct_X6_put_7_1, ct_X2_product_1] [] 3 2 (List.forall_mem_cons.mpr ⟨hct_X6_put_6_1, List.forall_mem_cons.mpr ⟨hct_X6_put_7_1, List.forall_mem_cons.mpr ⟨hct_X2_product_1, fun _ h => absurd h List.not_mem_nil⟩⟩⟩) (by decide +kernel)
def ct_X2_fillProducts_2 : zCt := (53, [.inr (.inr (5, 2))], [], [(6, 0, 63), (7, 0, 7)], [.inl (none, [])], 5)
theorem hct_X2_fillProducts_2 : z_ctH zTb ct_X2_fillProducts_2 := z_ct_ok [] z_hds_ok [ct_X6_put_6_2, ct_X6_put_7_2, ct_X2_product_2] [] 3 2 (List.forall_mem_cons.mpr ⟨hct_X6_put_6_2, List.forall_mem_cons.mpr ⟨hct_X6_put_7_2, List.forall_mem_cons.mpr ⟨hct_X2_product_2, fun _ h => absurd h List.not_mem_nil⟩⟩⟩) (by decide +kernel)
def ct_X2_fillKins_0 : zCt := (55, [.inr (.inr (5, 0))], [], [(5, 2, 2), (8, 0, 7), (9, 0, 7)], [.inl (none, [])], 5)
theorem hct_X2_fillKins_0 : z_ctH zTb ct_X2_fillKins_0 := z_ct_ok [] z_hds_ok [ct_X6_at_8_0, ct_X6_put_8_0, ct_X6_fill_8_0, ct_X6_add_9_0, ct_X6_fill_9_0, ct_X2_times_0, ct_X2_against_0] [] 3 2 (List.forall_mem_cons.mpr ⟨hct_X6_at_8_0, List.forall_mem_cons.mpr ⟨hct_X6_put_8_0, List.forall_mem_cons.mpr ⟨hct_X6_fill_8_0, List.forall_mem_cons.mpr ⟨hct_X6_add_9_0, List.forall_mem_cons.mpr ⟨hct_X6_fill_9_0, List.forall_mem_cons.mpr ⟨hct_X2_times_0, List.forall_mem_cons.mpr ⟨hct_X2_against_0, fun _ h => absurd h List.not_mem_nil⟩⟩⟩⟩⟩⟩⟩) (by decide +kernel)
def ct_X2_fillKins_1 : zCt := (55, [.inr (.inr (5, 1))], [], [(5, 2, 2), (8, 0, 7), (9, 0, 7)], [.inl (none, [])], 5)
theorem hct_X2_fillKins_1 : z_ctH zTb ct_X2_fillKins_1 := z_ct_ok [] z_hds_ok [ct_X6_at_8_1, ct_X6_put_8_1, ct_X6_fill_8_1, ct_X6_add_9_1, ct_X6_fill_9_1, ct_X2_times_1, ct_X2_against_1] [] 3 2 (List.forall_mem_cons.mpr ⟨hct_X6_at_8_1, List.forall_mem_cons.mpr ⟨hct_X6_put_8_1, List.forall_mem_cons.mpr ⟨hct_X6_fill_8_1, List.forall_mem_cons.mpr ⟨hct_X6_add_9_1, List.forall_mem_cons.mpr ⟨hct_X6_fill_9_1, List.forall_mem_cons.mpr ⟨hct_X2_times_1, List.forall_mem_cons.mpr ⟨hct_X2_against_1, fun _ h => absurd h List.not_mem_nil⟩⟩⟩⟩⟩⟩⟩) (by decide +kernel)
def ct_X2_fillKins_2 : zCt := (55, [.inr (.inr (5, 2))], [], [(5, 2, 2), (8, 0, 7), (9, 0, 7)], [.inl (none, [])], 5)
theorem hct_X2_fillKins_2 : z_ctH zTb ct_X2_fillKins_2 := z_ct_ok [] z_hds_ok [ct_X6_at_8_2, ct_X6_put_8_2, ct_X6_fill_8_2, ct_X6_add_9_2, ct_X6_fill_9_2, ct_X2_times_2, ct_X2_against_2] [] 3 2 (List.forall_mem_cons.mpr ⟨hct_X6_at_8_2, List.forall_mem_cons.mpr ⟨hct_X6_put_8_2, List.forall_mem_cons.mpr ⟨hct_X6_fill_8_2, List.forall_mem_cons.mpr ⟨hct_X6_add_9_2, List.forall_mem_cons.mpr ⟨hct_X6_fill_9_2, List.forall_mem_cons.mpr ⟨hct_X2_times_2, List.forall_mem_cons.mpr ⟨hct_X2_against_2, fun _ h => absurd h List.not_mem_nil⟩⟩⟩⟩⟩⟩⟩) (by decide +kernel)
def ct_X2_fillCounts_0 : zCt := (56, [.inr (.inr (5, 0))], [], [(10, 0, 7), (11, 0, 7)], [.inl (none, [])], 5)
theorem hct_X2_fillCounts_0 : z_ctH zTb ct_X2_fillCounts_0 := z_ct_ok [] z_hds_ok [ct_X6_add_10_0, ct_X6_fill_10_0, ct_X6_add_11_0, ct_X6_fill_11_0, ct_X2_times_0, ct_X2_against_0] [] 3 2 (List.forall_mem_cons.mpr ⟨hct_X6_add_10_0, List.forall_mem_cons.mpr ⟨hct_X6_fill_10_0, List.forall_mem_cons.mpr ⟨hct_X6_add_11_0, List.forall_mem_cons.mpr ⟨hct_X6_fill_11_0, List.forall_mem_cons.mpr ⟨hct_X2_times_0, List.forall_mem_cons.mpr ⟨hct_X2_against_0, fun _ h => absurd h List.not_mem_nil⟩⟩⟩⟩⟩⟩) (by decide +kernel)
def ct_X2_fillCounts_1 : zCt := (56, [.inr (.inr (5, 1))], [], [(10, 0, 7), (11, 0, 7)], [.inl (none, [])], 5)
theorem hct_X2_fillCounts_1 : z_ctH zTb ct_X2_fillCounts_1 := z_ct_ok [] z_hds_ok [ct_X6_add_10_1, ct_X6_fill_10_1, ct_X6_add_11_1, ct_X6_fill_11_1, ct_X2_times_1, ct_X2_against_1] [] 3 2 (List.forall_mem_cons.mpr ⟨hct_X6_add_10_1, List.forall_mem_cons.mpr ⟨hct_X6_fill_10_1, List.forall_mem_cons.mpr ⟨hct_X6_add_11_1, List.forall_mem_cons.mpr ⟨hct_X6_fill_11_1, List.forall_mem_cons.mpr ⟨hct_X2_times_1, List.forall_mem_cons.mpr ⟨hct_X2_against_1, fun _ h => absurd h List.not_mem_nil⟩⟩⟩⟩⟩⟩) (by decide +kernel)
def ct_X2_fillCounts_2 : zCt := (56, [.inr (.inr (5, 2))], [], [(10, 0, 7), (11, 0, 7)], [.inl (none, [])], 5)
theorem hct_X2_fillCounts_2 : z_ctH zTb ct_X2_fillCounts_2 := z_ct_ok [] z_hds_ok [ct_X6_add_10_2, ct_X6_fill_10_2, ct_X6_add_11_2, ct_X6_fill_11_2, ct_X2_times_2, ct_X2_against_2] [] 3 2 (List.forall_mem_cons.mpr ⟨hct_X6_add_10_2, List.forall_mem_cons.mpr ⟨hct_X6_fill_10_2, List.forall_mem_cons.mpr ⟨hct_X6_add_11_2, List.forall_mem_cons.mpr ⟨hct_X6_fill_11_2, List.forall_mem_cons.mpr ⟨hct_X2_times_2, List.forall_mem_cons.mpr ⟨hct_X2_against_2, fun _ h => absurd h List.not_mem_nil⟩⟩⟩⟩⟩⟩) (by decide +kernel)
def ct_X2_become_0 : zCt := (52, [.inr (.inr (5, 0)), .inl (2147483648, 2147483651), .inl (2147483650, 2147483656)], [], [(5, 0, 2), (6, 0, 63), (7, 0, 7), (8, 0, 7), (9, 0, 7), (10, 0, 7), (11, 0, 7)], [.inl (none, [])], 7)
theorem hct_X2_become_0 : z_ctH zTb ct_X2_become_0 := z_ct_ok [] z_hds_ok [ct_X2_fillProducts_0, ct_X2_fillKins_0, ct_X2_fillCounts_0] [] 5 2 (List.forall_mem_cons.mpr ⟨hct_X2_fillProducts_0, List.forall_mem_cons.mpr ⟨hct_X2_fillKins_0, List.forall_mem_cons.mpr ⟨hct_X2_fillCounts_0, fun _ h => absurd h List.not_mem_nil⟩⟩⟩) (by decide +kernel)
def ct_X2_become_1 : zCt := (52, [.inr (.inr (5, 1)), .inl (2147483648, 2147483651), .inl (2147483650, 2147483656)], [], [(5, 0, 2), (6, 0, 63), (7, 0, 7), (8, 0, 7), (9, 0, 7), (10, 0, 7), (11, 0, 7)], [.inl (none, [])], 7)
theorem hct_X2_become_1 : z_ctH zTb ct_X2_become_1 := z_ct_ok [] z_hds_ok [ct_X2_fillProducts_1, ct_X2_fillKins_1, ct_X2_fillCounts_1] [] 5 2 (List.forall_mem_cons.mpr ⟨hct_X2_fillProducts_1, List.forall_mem_cons.mpr ⟨hct_X2_fillKins_1, List.forall_mem_cons.mpr ⟨hct_X2_fillCounts_1, fun _ h => absurd h List.not_mem_nil⟩⟩⟩) (by decide +kernel)
def ct_X2_become_2 : zCt := (52, [.inr (.inr (5, 2)), .inl (2147483648, 2147483651), .inl (2147483650, 2147483656)], [], [(5, 0, 2), (6, 0, 63), (7, 0, 7), (8, 0, 7), (9, 0, 7), (10, 0, 7), (11, 0, 7)], [.inl (none, [])], 7)
theorem hct_X2_become_2 : z_ctH zTb ct_X2_become_2 := z_ct_ok [] z_hds_ok [ct_X2_fillProducts_2, ct_X2_fillKins_2, ct_X2_fillCounts_2] [] 5 2 (List.forall_mem_cons.mpr ⟨hct_X2_fillProducts_2, List.forall_mem_cons.mpr ⟨hct_X2_fillKins_2, List.forall_mem_cons.mpr ⟨hct_X2_fillCounts_2, fun _ h => absurd h List.not_mem_nil⟩⟩⟩) (by decide +kernel)
def ct_X2_exists_0 : zCt := (51, [.inl (0, 4294967295), .inl (0, 4294967295)], [], [], [.inl (some (.inl (2147483648, 2147483649)), [])], 1)
theorem hct_X2_exists_0 : z_ctH zTb ct_X2_exists_0 := z_ct_ok [] z_hds_ok [] [] 0 1 (fun _ h => absurd h List.not_mem_nil) (by decide +kernel)
def ct_X2_has_0 : zCt := (57, [.inr (.inr (5, 0)), .inl (0, 4294967295)], [], [], [.inl (some (.inl (2147483648, 2147483649)), [])], 2)
theorem hct_X2_has_0 : z_ctH zTb ct_X2_has_0 := z_ct_ok [] z_hds_ok [] [] 0 2 (fun _ h => absurd h List.not_mem_nil) (by decide +kernel)
def ct_X2_has_1 : zCt := (57, [.inr (.inr (5, 1)), .inl (0, 4294967295)], [], [], [.inl (some (.inl (2147483648, 2147483649)), [])], 2)
theorem hct_X2_has_1 : z_ctH zTb ct_X2_has_1 := z_ct_ok [] z_hds_ok [] [] 0 2 (fun _ h => absurd h List.not_mem_nil) (by decide +kernel)
def ct_X2_has_2 : zCt := (57, [.inr (.inr (5, 2)), .inl (0, 4294967295)], [], [], [.inl (some (.inl (2147483648, 2147483649)), [])], 2)
theorem hct_X2_has_2 : z_ctH zTb ct_X2_has_2 := z_ct_ok [] z_hds_ok [] [] 0 2 (fun _ h => absurd h List.not_mem_nil) (by decide +kernel)
def ct_X2_hasKin_0 : zCt := (58, [.inr (.inr (5, 0)), .inl (0, 4294967295)], [], [], [.inl (some (.inl (2147483648, 2147483649)), [])], 2)
theorem hct_X2_hasKin_0 : z_ctH zTb ct_X2_hasKin_0 := z_ct_ok [] z_hds_ok [] [] 0 2 (fun _ h => absurd h List.not_mem_nil) (by decide +kernel)
def ct_X2_hasKin_1 : zCt := (58, [.inr (.inr (5, 1)), .inl (0, 4294967295)], [], [], [.inl (some (.inl (2147483648, 2147483649)), [])], 2)
theorem hct_X2_hasKin_1 : z_ctH zTb ct_X2_hasKin_1 := z_ct_ok [] z_hds_ok [] [] 0 2 (fun _ h => absurd h List.not_mem_nil) (by decide +kernel)
def ct_X2_hasKin_2 : zCt := (58, [.inr (.inr (5, 2)), .inl (0, 4294967295)], [], [], [.inl (some (.inl (2147483648, 2147483649)), [])], 2)
theorem hct_X2_hasKin_2 : z_ctH zTb ct_X2_hasKin_2 := z_ct_ok [] z_hds_ok [] [] 0 2 (fun _ h => absurd h List.not_mem_nil) (by decide +kernel)
def ct_X2_kind_0 : zCt := (63, [.inr (.inr (5, 0))], [], [], [.inl (some (.inl (2147483648, 2147483651)), [])], 2)
theorem hct_X2_kind_0 : z_ctH zTb ct_X2_kind_0 := z_ct_ok [] z_hds_ok [] [] 0 2 (fun _ h => absurd h List.not_mem_nil) (by decide +kernel)
def ct_X2_kind_1 : zCt := (63, [.inr (.inr (5, 1))], [], [], [.inl (some (.inl (2147483648, 2147483651)), [])], 2)
theorem hct_X2_kind_1 : z_ctH zTb ct_X2_kind_1 := z_ct_ok [] z_hds_ok [] [] 0 2 (fun _ h => absurd h List.not_mem_nil) (by decide +kernel)
def ct_X2_kind_2 : zCt := (63, [.inr (.inr (5, 2))], [], [], [.inl (some (.inl (2147483648, 2147483651)), [])], 2)
theorem hct_X2_kind_2 : z_ctH zTb ct_X2_kind_2 := z_ct_ok [] z_hds_ok [] [] 0 2 (fun _ h => absurd h List.not_mem_nil) (by decide +kernel)
def ct_X2_order_0 : zCt := (64, [.inr (.inr (5, 0))], [], [], [.inl (some (.inl (2147483650, 2147483656)), [])], 2)
theorem hct_X2_order_0 : z_ctH zTb ct_X2_order_0 := z_ct_ok [] z_hds_ok [] [] 0 2 (fun _ h => absurd h List.not_mem_nil) (by decide +kernel)
def ct_X2_order_1 : zCt := (64, [.inr (.inr (5, 1))], [], [], [.inl (some (.inl (2147483650, 2147483656)), [])], 2)
theorem hct_X2_order_1 : z_ctH zTb ct_X2_order_1 := z_ct_ok [] z_hds_ok [] [] 0 2 (fun _ h => absurd h List.not_mem_nil) (by decide +kernel)
def ct_X2_order_2 : zCt := (64, [.inr (.inr (5, 2))], [], [], [.inl (some (.inl (2147483650, 2147483656)), [])], 2)
theorem hct_X2_order_2 : z_ctH zTb ct_X2_order_2 := z_ct_ok [] z_hds_ok [] [] 0 2 (fun _ h => absurd h List.not_mem_nil) (by decide +kernel)
def ct_X2_kins_0 : zCt := (65, [.inr (.inr (5, 0))], [], [], [.inl (some (.inl (0, 4294967295)), [])], 2)
theorem hct_X2_kins_0 : z_ctH zTb ct_X2_kins_0 := z_ct_ok [] z_hds_ok [] [] 0 2 (fun _ h => absurd h List.not_mem_nil) (by decide +kernel)
def ct_X2_kins_1 : zCt := (65, [.inr (.inr (5, 1))], [], [], [.inl (some (.inl (0, 4294967295)), [])], 2)
theorem hct_X2_kins_1 : z_ctH zTb ct_X2_kins_1 := z_ct_ok [] z_hds_ok [] [] 0 2 (fun _ h => absurd h List.not_mem_nil) (by decide +kernel)
def ct_X2_kins_2 : zCt := (65, [.inr (.inr (5, 2))], [], [], [.inl (some (.inl (0, 4294967295)), [])], 2)
theorem hct_X2_kins_2 : z_ctH zTb ct_X2_kins_2 := z_ct_ok [] z_hds_ok [] [] 0 2 (fun _ h => absurd h List.not_mem_nil) (by decide +kernel)
def ct_X2_isOfHalves_0 : zCt := (66, [.inr (.inr (5, 0))], [], [], [.inl (some (.inl (2147483648, 2147483649)), [])], 2)
theorem hct_X2_isOfHalves_0 : z_ctH zTb ct_X2_isOfHalves_0 := z_ct_ok [] z_hds_ok [] [] 0 2 (fun _ h => absurd h List.not_mem_nil) (by decide +kernel)
def ct_X2_isOfHalves_1 : zCt := (66, [.inr (.inr (5, 1))], [], [], [.inl (some (.inl (2147483648, 2147483649)), [])], 2)
theorem hct_X2_isOfHalves_1 : z_ctH zTb ct_X2_isOfHalves_1 := z_ct_ok [] z_hds_ok [] [] 0 2 (fun _ h => absurd h List.not_mem_nil) (by decide +kernel)
def ct_X2_isOfHalves_2 : zCt := (66, [.inr (.inr (5, 2))], [], [], [.inl (some (.inl (2147483648, 2147483649)), [])], 2)
theorem hct_X2_isOfHalves_2 : z_ctH zTb ct_X2_isOfHalves_2 := z_ct_ok [] z_hds_ok [] [] 0 2 (fun _ h => absurd h List.not_mem_nil) (by decide +kernel)
def ct_X0_startGroup_0 : zCt := (1, [.inr (.inr (4, 0))], [], [(12, 0, 31), (13, 0, 7)], [.inl (none, [])], 3)
theorem hct_X0_startGroup_0 : z_ctH zTb ct_X0_startGroup_0 := z_ct_ok [] z_hds_ok [ct_X6_fill_12_0, ct_X6_fill_13_0] [] 1 2 (List.forall_mem_cons.mpr ⟨hct_X6_fill_12_0, List.forall_mem_cons.mpr ⟨hct_X6_fill_13_0, fun _ h => absurd h List.not_mem_nil⟩⟩) (by decide +kernel)
def ct_X0_startGroup_1 : zCt := (1, [.inr (.inr (4, 1))], [], [(12, 0, 31), (13, 0, 7)], [.inl (none, [])], 3)
theorem hct_X0_startGroup_1 : z_ctH zTb ct_X0_startGroup_1 := z_ct_ok [] z_hds_ok [ct_X6_fill_12_1, ct_X6_fill_13_1] [] 1 2 (List.forall_mem_cons.mpr ⟨hct_X6_fill_12_1, List.forall_mem_cons.mpr ⟨hct_X6_fill_13_1, fun _ h => absurd h List.not_mem_nil⟩⟩) (by decide +kernel)
def ct_X0_startGroup_2 : zCt := (1, [.inr (.inr (4, 2))], [], [(12, 0, 31), (13, 0, 7)], [.inl (none, [])], 3)
theorem hct_X0_startGroup_2 : z_ctH zTb ct_X0_startGroup_2 := z_ct_ok [] z_hds_ok [ct_X6_fill_12_2, ct_X6_fill_13_2] [] 1 2 (List.forall_mem_cons.mpr ⟨hct_X6_fill_12_2, List.forall_mem_cons.mpr ⟨hct_X6_fill_13_2, fun _ h => absurd h List.not_mem_nil⟩⟩) (by decide +kernel)
def ct_X0_makeHole_0 : zCt := (4, [.inr (.inr (4, 0)), .inl (0, 4294967295)], [], [(14, 0, 15)], [.inl (none, [])], 3)
theorem hct_X0_makeHole_0 : z_ctH zTb ct_X0_makeHole_0 := z_ct_ok [] z_hds_ok [ct_X6_put_14_0] [] 1 2 (List.forall_mem_cons.mpr ⟨hct_X6_put_14_0, fun _ h => absurd h List.not_mem_nil⟩) (by decide +kernel)
def ct_X0_makeHole_1 : zCt := (4, [.inr (.inr (4, 1)), .inl (0, 4294967295)], [], [(14, 0, 15)], [.inl (none, [])], 3)
theorem hct_X0_makeHole_1 : z_ctH zTb ct_X0_makeHole_1 := z_ct_ok [] z_hds_ok [ct_X6_put_14_1] [] 1 2 (List.forall_mem_cons.mpr ⟨hct_X6_put_14_1, fun _ h => absurd h List.not_mem_nil⟩) (by decide +kernel)
def ct_X0_makeHole_2 : zCt := (4, [.inr (.inr (4, 2)), .inl (0, 4294967295)], [], [(14, 0, 15)], [.inl (none, [])], 3)
theorem hct_X0_makeHole_2 : z_ctH zTb ct_X0_makeHole_2 := z_ct_ok [] z_hds_ok [ct_X6_put_14_2] [] 1 2 (List.forall_mem_cons.mpr ⟨hct_X6_put_14_2, fun _ h => absurd h List.not_mem_nil⟩) (by decide +kernel)
def ct_X0_countText_0 : zCt := (5, [.inr (.inr (4, 0))], [], [(4, 4, 4)], [.inl (none, [])], 2)
theorem hct_X0_countText_0 : z_ctH zTb ct_X0_countText_0 := z_ct_ok [] z_hds_ok [] [] 0 2 (fun _ h => absurd h List.not_mem_nil) (by decide +kernel)
def ct_X0_countText_1 : zCt := (5, [.inr (.inr (4, 1))], [], [(4, 4, 4)], [.inl (none, [])], 2)
theorem hct_X0_countText_1 : z_ctH zTb ct_X0_countText_1 := z_ct_ok [] z_hds_ok [] [] 0 2 (fun _ h => absurd h List.not_mem_nil) (by decide +kernel)
def ct_X0_countText_2 : zCt := (5, [.inr (.inr (4, 2))], [], [(4, 4, 4)], [.inl (none, [])], 2)
theorem hct_X0_countText_2 : z_ctH zTb ct_X0_countText_2 := z_ct_ok [] z_hds_ok [] [] 0 2 (fun _ h => absurd h List.not_mem_nil) (by decide +kernel)
def ct_X0_group_0 : zCt := (6, [.inr (.inr (4, 0))], [], [], [.inl (some (.inr (.inr (5, 0))), [])], 2)
theorem hct_X0_group_0 : z_ctH zTb ct_X0_group_0 := z_ct_ok [] z_hds_ok [] [] 0 2 (fun _ h => absurd h List.not_mem_nil) (by decide +kernel)
def ct_X0_group_1 : zCt := (6, [.inr (.inr (4, 1))], [], [], [.inl (some (.inr (.inr (5, 1))), [])], 2)
theorem hct_X0_group_1 : z_ctH zTb ct_X0_group_1 := z_ct_ok [] z_hds_ok [] [] 0 2 (fun _ h => absurd h List.not_mem_nil) (by decide +kernel)
def ct_X0_group_2 : zCt := (6, [.inr (.inr (4, 2))], [], [], [.inl (some (.inr (.inr (5, 2))), [])], 2)
theorem hct_X0_group_2 : z_ctH zTb ct_X0_group_2 := z_ct_ok [] z_hds_ok [] [] 0 2 (fun _ h => absurd h List.not_mem_nil) (by decide +kernel)
def ct_X0_wide_0 : zCt := (7, [.inr (.inr (4, 0))], [], [], [.inl (some (.inl (2147483649, 2147483651)), [])], 2)
theorem hct_X0_wide_0 : z_ctH zTb ct_X0_wide_0 := z_ct_ok [] z_hds_ok [] [] 0 2 (fun _ h => absurd h List.not_mem_nil) (by decide +kernel)
def ct_X0_wide_1 : zCt := (7, [.inr (.inr (4, 1))], [], [], [.inl (some (.inl (2147483649, 2147483651)), [])], 2)
theorem hct_X0_wide_1 : z_ctH zTb ct_X0_wide_1 := z_ct_ok [] z_hds_ok [] [] 0 2 (fun _ h => absurd h List.not_mem_nil) (by decide +kernel)
def ct_X0_wide_2 : zCt := (7, [.inr (.inr (4, 2))], [], [], [.inl (some (.inl (2147483649, 2147483651)), [])], 2)
theorem hct_X0_wide_2 : z_ctH zTb ct_X0_wide_2 := z_ct_ok [] z_hds_ok [] [] 0 2 (fun _ h => absurd h List.not_mem_nil) (by decide +kernel)
def ct_X0_high_0 : zCt := (8, [.inr (.inr (4, 0))], [], [], [.inl (some (.inl (2147483649, 2147483651)), [])], 2)
theorem hct_X0_high_0 : z_ctH zTb ct_X0_high_0 := z_ct_ok [] z_hds_ok [] [] 0 2 (fun _ h => absurd h List.not_mem_nil) (by decide +kernel)
def ct_X0_high_1 : zCt := (8, [.inr (.inr (4, 1))], [], [], [.inl (some (.inl (2147483649, 2147483651)), [])], 2)
theorem hct_X0_high_1 : z_ctH zTb ct_X0_high_1 := z_ct_ok [] z_hds_ok [] [] 0 2 (fun _ h => absurd h List.not_mem_nil) (by decide +kernel)
def ct_X0_high_2 : zCt := (8, [.inr (.inr (4, 2))], [], [], [.inl (some (.inl (2147483649, 2147483651)), [])], 2)
theorem hct_X0_high_2 : z_ctH zTb ct_X0_high_2 := z_ct_ok [] z_hds_ok [] [] 0 2 (fun _ h => absurd h List.not_mem_nil) (by decide +kernel)
def ct_X0_shape_0 : zCt := (9, [.inr (.inr (4, 0))], [], [], [.inl (some (.inl (2147483648, 2147483650)), [])], 2)
theorem hct_X0_shape_0 : z_ctH zTb ct_X0_shape_0 := z_ct_ok [] z_hds_ok [] [] 0 2 (fun _ h => absurd h List.not_mem_nil) (by decide +kernel)
def ct_X0_shape_1 : zCt := (9, [.inr (.inr (4, 1))], [], [], [.inl (some (.inl (2147483648, 2147483650)), [])], 2)
theorem hct_X0_shape_1 : z_ctH zTb ct_X0_shape_1 := z_ct_ok [] z_hds_ok [] [] 0 2 (fun _ h => absurd h List.not_mem_nil) (by decide +kernel)
def ct_X0_shape_2 : zCt := (9, [.inr (.inr (4, 2))], [], [], [.inl (some (.inl (2147483648, 2147483650)), [])], 2)
theorem hct_X0_shape_2 : z_ctH zTb ct_X0_shape_2 := z_ct_ok [] z_hds_ok [] [] 0 2 (fun _ h => absurd h List.not_mem_nil) (by decide +kernel)
def ct_X0_texts_0 : zCt := (10, [.inr (.inr (4, 0))], [], [], [.inl (some (.inl (0, 4294967295)), [])], 2)
theorem hct_X0_texts_0 : z_ctH zTb ct_X0_texts_0 := z_ct_ok [] z_hds_ok [] [] 0 2 (fun _ h => absurd h List.not_mem_nil) (by decide +kernel)
def ct_X0_texts_1 : zCt := (10, [.inr (.inr (4, 1))], [], [], [.inl (some (.inl (0, 4294967295)), [])], 2)
theorem hct_X0_texts_1 : z_ctH zTb ct_X0_texts_1 := z_ct_ok [] z_hds_ok [] [] 0 2 (fun _ h => absurd h List.not_mem_nil) (by decide +kernel)
def ct_X0_texts_2 : zCt := (10, [.inr (.inr (4, 2))], [], [], [.inl (some (.inl (0, 4294967295)), [])], 2)
theorem hct_X0_texts_2 : z_ctH zTb ct_X0_texts_2 := z_ct_ok [] z_hds_ok [] [] 0 2 (fun _ h => absurd h List.not_mem_nil) (by decide +kernel)
def ct_X0_squares_0 : zCt := (11, [.inr (.inr (4, 0))], [], [], [.inl (some (.inl (2147483649, 2147483657)), [])], 2)
theorem hct_X0_squares_0 : z_ctH zTb ct_X0_squares_0 := z_ct_ok [] z_hds_ok [] [] 0 2 (fun _ h => absurd h List.not_mem_nil) (by decide +kernel)
def ct_X0_squares_1 : zCt := (11, [.inr (.inr (4, 1))], [], [], [.inl (some (.inl (2147483649, 2147483657)), [])], 2)
theorem hct_X0_squares_1 : z_ctH zTb ct_X0_squares_1 := z_ct_ok [] z_hds_ok [] [] 0 2 (fun _ h => absurd h List.not_mem_nil) (by decide +kernel)
def ct_X0_squares_2 : zCt := (11, [.inr (.inr (4, 2))], [], [], [.inl (some (.inl (2147483649, 2147483657)), [])], 2)
theorem hct_X0_squares_2 : z_ctH zTb ct_X0_squares_2 := z_ct_ok [] z_hds_ok [] [] 0 2 (fun _ h => absurd h List.not_mem_nil) (by decide +kernel)
def ct_X0_isFlat_0 : zCt := (12, [.inr (.inr (4, 0))], [], [], [.inl (some (.inl (2147483648, 2147483649)), [])], 2)
theorem hct_X0_isFlat_0 : z_ctH zTb ct_X0_isFlat_0 := z_ct_ok [] z_hds_ok [] [] 0 2 (fun _ h => absurd h List.not_mem_nil) (by decide +kernel)
def ct_X0_isFlat_1 : zCt := (12, [.inr (.inr (4, 1))], [], [], [.inl (some (.inl (2147483648, 2147483649)), [])], 2)
theorem hct_X0_isFlat_1 : z_ctH zTb ct_X0_isFlat_1 := z_ct_ok [] z_hds_ok [] [] 0 2 (fun _ h => absurd h List.not_mem_nil) (by decide +kernel)
def ct_X0_isFlat_2 : zCt := (12, [.inr (.inr (4, 2))], [], [], [.inl (some (.inl (2147483648, 2147483649)), [])], 2)
theorem hct_X0_isFlat_2 : z_ctH zTb ct_X0_isFlat_2 := z_ct_ok [] z_hds_ok [] [] 0 2 (fun _ h => absurd h List.not_mem_nil) (by decide +kernel)
def ct_X0_isClosed_0 : zCt := (13, [.inr (.inr (4, 0))], [], [], [.inl (some (.inl (2147483648, 2147483649)), [])], 2)
theorem hct_X0_isClosed_0 : z_ctH zTb ct_X0_isClosed_0 := z_ct_ok [] z_hds_ok [] [] 0 2 (fun _ h => absurd h List.not_mem_nil) (by decide +kernel)
def ct_X0_isClosed_1 : zCt := (13, [.inr (.inr (4, 1))], [], [], [.inl (some (.inl (2147483648, 2147483649)), [])], 2)
theorem hct_X0_isClosed_1 : z_ctH zTb ct_X0_isClosed_1 := z_ct_ok [] z_hds_ok [] [] 0 2 (fun _ h => absurd h List.not_mem_nil) (by decide +kernel)
def ct_X0_isClosed_2 : zCt := (13, [.inr (.inr (4, 2))], [], [], [.inl (some (.inl (2147483648, 2147483649)), [])], 2)
theorem hct_X0_isClosed_2 : z_ctH zTb ct_X0_isClosed_2 := z_ct_ok [] z_hds_ok [] [] 0 2 (fun _ h => absurd h List.not_mem_nil) (by decide +kernel)
def ct_X0_corners_0 : zCt := (14, [.inr (.inr (4, 0))], [], [], [.inl (some (.inl (2147483649, 2147483664)), [])], 2)
theorem hct_X0_corners_0 : z_ctH zTb ct_X0_corners_0 := z_ct_ok [] z_hds_ok [] [] 0 2 (fun _ h => absurd h List.not_mem_nil) (by decide +kernel)
def ct_X0_corners_1 : zCt := (14, [.inr (.inr (4, 1))], [], [], [.inl (some (.inl (2147483649, 2147483664)), [])], 2)
theorem hct_X0_corners_1 : z_ctH zTb ct_X0_corners_1 := z_ct_ok [] z_hds_ok [] [] 0 2 (fun _ h => absurd h List.not_mem_nil) (by decide +kernel)
def ct_X0_corners_2 : zCt := (14, [.inr (.inr (4, 2))], [], [], [.inl (some (.inl (2147483649, 2147483664)), [])], 2)
theorem hct_X0_corners_2 : z_ctH zTb ct_X0_corners_2 := z_ct_ok [] z_hds_ok [] [] 0 2 (fun _ h => absurd h List.not_mem_nil) (by decide +kernel)
def ct_X0_lines_0 : zCt := (15, [.inr (.inr (4, 0))], [], [], [.inl (some (.inl (2147483650, 2147483672)), [])], 2)
theorem hct_X0_lines_0 : z_ctH zTb ct_X0_lines_0 := z_ct_ok [] z_hds_ok [] [] 0 2 (fun _ h => absurd h List.not_mem_nil) (by decide +kernel)
def ct_X0_lines_1 : zCt := (15, [.inr (.inr (4, 1))], [], [], [.inl (some (.inl (2147483650, 2147483672)), [])], 2)
theorem hct_X0_lines_1 : z_ctH zTb ct_X0_lines_1 := z_ct_ok [] z_hds_ok [] [] 0 2 (fun _ h => absurd h List.not_mem_nil) (by decide +kernel)
def ct_X0_lines_2 : zCt := (15, [.inr (.inr (4, 2))], [], [], [.inl (some (.inl (2147483650, 2147483672)), [])], 2)
theorem hct_X0_lines_2 : z_ctH zTb ct_X0_lines_2 := z_ct_ok [] z_hds_ok [] [] 0 2 (fun _ h => absurd h List.not_mem_nil) (by decide +kernel)
def ct_X0_holes_0 : zCt := (16, [.inr (.inr (4, 0))], [], [], [.inl (some (.inl (2147483648, 2147483664)), [])], 3)
theorem hct_X0_holes_0 : z_ctH zTb ct_X0_holes_0 := z_ct_ok [] z_hds_ok [ct_X6_at_14_0] [] 1 2 (List.forall_mem_cons.mpr ⟨hct_X6_at_14_0, fun _ h => absurd h List.not_mem_nil⟩) (by decide +kernel)
def ct_X0_holes_1 : zCt := (16, [.inr (.inr (4, 1))], [], [], [.inl (some (.inl (2147483648, 2147483664)), [])], 3)
theorem hct_X0_holes_1 : z_ctH zTb ct_X0_holes_1 := z_ct_ok [] z_hds_ok [ct_X6_at_14_1] [] 1 2 (List.forall_mem_cons.mpr ⟨hct_X6_at_14_1, fun _ h => absurd h List.not_mem_nil⟩) (by decide +kernel)
def ct_X0_holes_2 : zCt := (16, [.inr (.inr (4, 2))], [], [], [.inl (some (.inl (2147483648, 2147483664)), [])], 3)
theorem hct_X0_holes_2 : z_ctH zTb ct_X0_holes_2 := z_ct_ok [] z_hds_ok [ct_X6_at_14_2] [] 1 2 (List.forall_mem_cons.mpr ⟨hct_X6_at_14_2, fun _ h => absurd h List.not_mem_nil⟩) (by decide +kernel)
def ct_X0_cornerAt_0 : zCt := (17, [.inr (.inr (4, 0)), .inl (0, 4294967295), .inl (0, 4294967295)], [], [], [.inl (some (.inl (2147483647, 2147483663)), [])], 2)
theorem hct_X0_cornerAt_0 : z_ctH zTb ct_X0_cornerAt_0 := z_ct_ok [] z_hds_ok [] [] 0 2 (fun _ h => absurd h List.not_mem_nil) (by decide +kernel)
def ct_X0_cornerAt_1 : zCt := (17, [.inr (.inr (4, 1)), .inl (0, 4294967295), .inl (0, 4294967295)], [], [], [.inl (some (.inl (2147483647, 2147483663)), [])], 2)
theorem hct_X0_cornerAt_1 : z_ctH zTb ct_X0_cornerAt_1 := z_ct_ok [] z_hds_ok [] [] 0 2 (fun _ h => absurd h List.not_mem_nil) (by decide +kernel)
def ct_X0_cornerAt_2 : zCt := (17, [.inr (.inr (4, 2)), .inl (0, 4294967295), .inl (0, 4294967295)], [], [], [.inl (some (.inl (2147483647, 2147483663)), [])], 2)
theorem hct_X0_cornerAt_2 : z_ctH zTb ct_X0_cornerAt_2 := z_ct_ok [] z_hds_ok [] [] 0 2 (fun _ h => absurd h List.not_mem_nil) (by decide +kernel)
def ct_X0_columnOf_0 : zCt := (20, [.inl (0, 4294967295)], [], [], [.inl (some (.inl (0, 4294967295)), [])], 1)
theorem hct_X0_columnOf_0 : z_ctH zTb ct_X0_columnOf_0 := z_ct_ok [] z_hds_ok [] [] 0 1 (fun _ h => absurd h List.not_mem_nil) (by decide +kernel)
def ct_X0_rowOf_0 : zCt := (21, [.inl (0, 4294967295)], [], [], [.inl (some (.inl (0, 4294967295)), [])], 1)
theorem hct_X0_rowOf_0 : z_ctH zTb ct_X0_rowOf_0 := z_ct_ok [] z_hds_ok [] [] 0 1 (fun _ h => absurd h List.not_mem_nil) (by decide +kernel)
def ct_X0_isNorth_0 : zCt := (22, [.inl (0, 4294967295)], [], [], [.inl (some (.inl (2147483648, 2147483649)), [])], 1)
theorem hct_X0_isNorth_0 : z_ctH zTb ct_X0_isNorth_0 := z_ct_ok [] z_hds_ok [] [] 0 1 (fun _ h => absurd h List.not_mem_nil) (by decide +kernel)
def ct_X0_beginOf_0 : zCt := (23, [.inl (0, 4294967295)], [], [], [.inl (some (.inl (0, 4294967295)), [])], 1)
theorem hct_X0_beginOf_0 : z_ctH zTb ct_X0_beginOf_0 := z_ct_ok [] z_hds_ok [] [] 0 1 (fun _ h => absurd h List.not_mem_nil) (by decide +kernel)
def ct_X0_hasLine_0 : zCt := (25, [.inr (.inr (4, 0)), .inl (0, 4294967295)], [], [], [.inl (some (.inl (2147483648, 2147483649)), [])], 3)
theorem hct_X0_hasLine_0 : z_ctH zTb ct_X0_hasLine_0 := z_ct_ok [] z_hds_ok [ct_X0_columnOf_0, ct_X0_rowOf_0, ct_X0_isNorth_0, ct_X0_beginOf_0] [] 1 2 (List.forall_mem_cons.mpr ⟨hct_X0_columnOf_0, List.forall_mem_cons.mpr ⟨hct_X0_rowOf_0, List.forall_mem_cons.mpr ⟨hct_X0_isNorth_0, List.forall_mem_cons.mpr ⟨hct_X0_beginOf_0, fun _ h => absurd h List.not_mem_nil⟩⟩⟩⟩) (by decide +kernel)
def ct_X0_hasLine_1 : zCt := (25, [.inr (.inr (4, 1)), .inl (0, 4294967295)], [], [], [.inl (some (.inl (2147483648, 2147483649)), [])], 3)
theorem hct_X0_hasLine_1 : z_ctH zTb ct_X0_hasLine_1 := z_ct_ok [] z_hds_ok [ct_X0_columnOf_0, ct_X0_rowOf_0, ct_X0_isNorth_0, ct_X0_beginOf_0] [] 1 2 (List.forall_mem_cons.mpr ⟨hct_X0_columnOf_0, List.forall_mem_cons.mpr ⟨hct_X0_rowOf_0, List.forall_mem_cons.mpr ⟨hct_X0_isNorth_0, List.forall_mem_cons.mpr ⟨hct_X0_beginOf_0, fun _ h => absurd h List.not_mem_nil⟩⟩⟩⟩) (by decide +kernel)
def ct_X0_hasLine_2 : zCt := (25, [.inr (.inr (4, 2)), .inl (0, 4294967295)], [], [], [.inl (some (.inl (2147483648, 2147483649)), [])], 3)
theorem hct_X0_hasLine_2 : z_ctH zTb ct_X0_hasLine_2 := z_ct_ok [] z_hds_ok [ct_X0_columnOf_0, ct_X0_rowOf_0, ct_X0_isNorth_0, ct_X0_beginOf_0] [] 1 2 (List.forall_mem_cons.mpr ⟨hct_X0_columnOf_0, List.forall_mem_cons.mpr ⟨hct_X0_rowOf_0, List.forall_mem_cons.mpr ⟨hct_X0_isNorth_0, List.forall_mem_cons.mpr ⟨hct_X0_beginOf_0, fun _ h => absurd h List.not_mem_nil⟩⟩⟩⟩) (by decide +kernel)
def ct_X0_lineAt_0 : zCt := (18, [.inr (.inr (4, 0)), .inl (0, 4294967295), .inl (0, 4294967295), .inl (2147483648, 2147483649)], [], [], [.inl (some (.inl (2147483647, 2147483679)), [])], 5)
theorem hct_X0_lineAt_0 : z_ctH zTb ct_X0_lineAt_0 := z_ct_ok [] z_hds_ok [ct_X0_cornerAt_0, ct_X0_hasLine_0] [] 3 2 (List.forall_mem_cons.mpr ⟨hct_X0_cornerAt_0, List.forall_mem_cons.mpr ⟨hct_X0_hasLine_0, fun _ h => absurd h List.not_mem_nil⟩⟩) (by decide +kernel)
def ct_X0_lineAt_1 : zCt := (18, [.inr (.inr (4, 1)), .inl (0, 4294967295), .inl (0, 4294967295), .inl (2147483648, 2147483649)], [], [], [.inl (some (.inl (2147483647, 2147483679)), [])], 5)
theorem hct_X0_lineAt_1 : z_ctH zTb ct_X0_lineAt_1 := z_ct_ok [] z_hds_ok [ct_X0_cornerAt_1, ct_X0_hasLine_1] [] 3 2 (List.forall_mem_cons.mpr ⟨hct_X0_cornerAt_1, List.forall_mem_cons.mpr ⟨hct_X0_hasLine_1, fun _ h => absurd h List.not_mem_nil⟩⟩) (by decide +kernel)
def ct_X0_lineAt_2 : zCt := (18, [.inr (.inr (4, 2)), .inl (0, 4294967295), .inl (0, 4294967295), .inl (2147483648, 2147483649)], [], [], [.inl (some (.inl (2147483647, 2147483679)), [])], 5)
theorem hct_X0_lineAt_2 : z_ctH zTb ct_X0_lineAt_2 := z_ct_ok [] z_hds_ok [ct_X0_cornerAt_2, ct_X0_hasLine_2] [] 3 2 (List.forall_mem_cons.mpr ⟨hct_X0_cornerAt_2, List.forall_mem_cons.mpr ⟨hct_X0_hasLine_2, fun _ h => absurd h List.not_mem_nil⟩⟩) (by decide +kernel)
def ct_X0_squareAt_0 : zCt := (19, [.inr (.inr (4, 0)), .inl (0, 4294967295), .inl (0, 4294967295)], [], [], [.inl (some (.inl (2147483647, 2147483658)), [])], 2)
theorem hct_X0_squareAt_0 : z_ctH zTb ct_X0_squareAt_0 := z_ct_ok [] z_hds_ok [] [] 0 2 (fun _ h => absurd h List.not_mem_nil) (by decide +kernel)
def ct_X0_squareAt_1 : zCt := (19, [.inr (.inr (4, 1)), .inl (0, 4294967295), .inl (0, 4294967295)], [], [], [.inl (some (.inl (2147483647, 2147483658)), [])], 2)
theorem hct_X0_squareAt_1 : z_ctH zTb ct_X0_squareAt_1 := z_ct_ok [] z_hds_ok [] [] 0 2 (fun _ h => absurd h List.not_mem_nil) (by decide +kernel)
def ct_X0_squareAt_2 : zCt := (19, [.inr (.inr (4, 2)), .inl (0, 4294967295), .inl (0, 4294967295)], [], [], [.inl (some (.inl (2147483647, 2147483658)), [])], 2)
theorem hct_X0_squareAt_2 : z_ctH zTb ct_X0_squareAt_2 := z_ct_ok [] z_hds_ok [] [] 0 2 (fun _ h => absurd h List.not_mem_nil) (by decide +kernel)
def ct_X0_endOf_0 : zCt := (24, [.inr (.inr (4, 0)), .inl (0, 4294967295)], [], [], [.inl (some (.inl (2147483647, 2147483663)), [])], 4)
theorem hct_X0_endOf_0 : z_ctH zTb ct_X0_endOf_0 := z_ct_ok [] z_hds_ok [ct_X0_cornerAt_0, ct_X0_columnOf_0, ct_X0_rowOf_0, ct_X0_isNorth_0, ct_X0_beginOf_0] [] 2 2 (List.forall_mem_cons.mpr ⟨hct_X0_cornerAt_0, List.forall_mem_cons.mpr ⟨hct_X0_columnOf_0, List.forall_mem_cons.mpr ⟨hct_X0_rowOf_0, List.forall_mem_cons.mpr ⟨hct_X0_isNorth_0, List.forall_mem_cons.mpr ⟨hct_X0_beginOf_0, fun _ h => absurd h List.not_mem_nil⟩⟩⟩⟩⟩) (by decide +kernel)
def ct_X0_endOf_1 : zCt := (24, [.inr (.inr (4, 1)), .inl (0, 4294967295)], [], [], [.inl (some (.inl (2147483647, 2147483663)), [])], 4)
theorem hct_X0_endOf_1 : z_ctH zTb ct_X0_endOf_1 := z_ct_ok [] z_hds_ok [ct_X0_cornerAt_1, ct_X0_columnOf_0, ct_X0_rowOf_0, ct_X0_isNorth_0, ct_X0_beginOf_0] [] 2 2 (List.forall_mem_cons.mpr ⟨hct_X0_cornerAt_1, List.forall_mem_cons.mpr ⟨hct_X0_columnOf_0, List.forall_mem_cons.mpr ⟨hct_X0_rowOf_0, List.forall_mem_cons.mpr ⟨hct_X0_isNorth_0, List.forall_mem_cons.mpr ⟨hct_X0_beginOf_0, fun _ h => absurd h List.not_mem_nil⟩⟩⟩⟩⟩) (by decide +kernel)
def ct_X0_endOf_2 : zCt := (24, [.inr (.inr (4, 2)), .inl (0, 4294967295)], [], [], [.inl (some (.inl (2147483647, 2147483663)), [])], 4)
theorem hct_X0_endOf_2 : z_ctH zTb ct_X0_endOf_2 := z_ct_ok [] z_hds_ok [ct_X0_cornerAt_2, ct_X0_columnOf_0, ct_X0_rowOf_0, ct_X0_isNorth_0, ct_X0_beginOf_0] [] 2 2 (List.forall_mem_cons.mpr ⟨hct_X0_cornerAt_2, List.forall_mem_cons.mpr ⟨hct_X0_columnOf_0, List.forall_mem_cons.mpr ⟨hct_X0_rowOf_0, List.forall_mem_cons.mpr ⟨hct_X0_isNorth_0, List.forall_mem_cons.mpr ⟨hct_X0_beginOf_0, fun _ h => absurd h List.not_mem_nil⟩⟩⟩⟩⟩) (by decide +kernel)
def ct_X0_isOfTree_0 : zCt := (26, [.inr (.inr (4, 0)), .inl (0, 4294967295)], [], [], [.inl (some (.inl (2147483648, 2147483649)), [])], 3)
theorem hct_X0_isOfTree_0 : z_ctH zTb ct_X0_isOfTree_0 := z_ct_ok [] z_hds_ok [ct_X0_columnOf_0, ct_X0_rowOf_0, ct_X0_isNorth_0, ct_X0_beginOf_0] [] 1 2 (List.forall_mem_cons.mpr ⟨hct_X0_columnOf_0, List.forall_mem_cons.mpr ⟨hct_X0_rowOf_0, List.forall_mem_cons.mpr ⟨hct_X0_isNorth_0, List.forall_mem_cons.mpr ⟨hct_X0_beginOf_0, fun _ h => absurd h List.not_mem_nil⟩⟩⟩⟩) (by decide +kernel)
def ct_X0_isOfTree_1 : zCt := (26, [.inr (.inr (4, 1)), .inl (0, 4294967295)], [], [], [.inl (some (.inl (2147483648, 2147483649)), [])], 3)
theorem hct_X0_isOfTree_1 : z_ctH zTb ct_X0_isOfTree_1 := z_ct_ok [] z_hds_ok [ct_X0_columnOf_0, ct_X0_rowOf_0, ct_X0_isNorth_0, ct_X0_beginOf_0] [] 1 2 (List.forall_mem_cons.mpr ⟨hct_X0_columnOf_0, List.forall_mem_cons.mpr ⟨hct_X0_rowOf_0, List.forall_mem_cons.mpr ⟨hct_X0_isNorth_0, List.forall_mem_cons.mpr ⟨hct_X0_beginOf_0, fun _ h => absurd h List.not_mem_nil⟩⟩⟩⟩) (by decide +kernel)
def ct_X0_isOfTree_2 : zCt := (26, [.inr (.inr (4, 2)), .inl (0, 4294967295)], [], [], [.inl (some (.inl (2147483648, 2147483649)), [])], 3)
theorem hct_X0_isOfTree_2 : z_ctH zTb ct_X0_isOfTree_2 := z_ct_ok [] z_hds_ok [ct_X0_columnOf_0, ct_X0_rowOf_0, ct_X0_isNorth_0, ct_X0_beginOf_0] [] 1 2 (List.forall_mem_cons.mpr ⟨hct_X0_columnOf_0, List.forall_mem_cons.mpr ⟨hct_X0_rowOf_0, List.forall_mem_cons.mpr ⟨hct_X0_isNorth_0, List.forall_mem_cons.mpr ⟨hct_X0_beginOf_0, fun _ h => absurd h List.not_mem_nil⟩⟩⟩⟩) (by decide +kernel)
def ct_X0_sideOf_0 : zCt := (27, [.inr (.inr (4, 0)), .inl (0, 4294967295), .inl (0, 4294967295)], [], [], [.inl (some (.inl (2147483647, 2147483679)), [])], 7)
theorem hct_X0_sideOf_0 : z_ctH zTb ct_X0_sideOf_0 := z_ct_ok [] z_hds_ok [ct_X0_columnOf_0, ct_X0_rowOf_0, ct_X0_lineAt_0] [] 5 2 (List.forall_mem_cons.mpr ⟨hct_X0_columnOf_0, List.forall_mem_cons.mpr ⟨hct_X0_rowOf_0, List.forall_mem_cons.mpr ⟨hct_X0_lineAt_0, fun _ h => absurd h List.not_mem_nil⟩⟩⟩) (by decide +kernel)
def ct_X0_sideOf_1 : zCt := (27, [.inr (.inr (4, 1)), .inl (0, 4294967295), .inl (0, 4294967295)], [], [], [.inl (some (.inl (2147483647, 2147483679)), [])], 7)
theorem hct_X0_sideOf_1 : z_ctH zTb ct_X0_sideOf_1 := z_ct_ok [] z_hds_ok [ct_X0_columnOf_0, ct_X0_rowOf_0, ct_X0_lineAt_1] [] 5 2 (List.forall_mem_cons.mpr ⟨hct_X0_columnOf_0, List.forall_mem_cons.mpr ⟨hct_X0_rowOf_0, List.forall_mem_cons.mpr ⟨hct_X0_lineAt_1, fun _ h => absurd h List.not_mem_nil⟩⟩⟩) (by decide +kernel)
def ct_X0_sideOf_2 : zCt := (27, [.inr (.inr (4, 2)), .inl (0, 4294967295), .inl (0, 4294967295)], [], [], [.inl (some (.inl (2147483647, 2147483679)), [])], 7)
theorem hct_X0_sideOf_2 : z_ctH zTb ct_X0_sideOf_2 := z_ct_ok [] z_hds_ok [ct_X0_columnOf_0, ct_X0_rowOf_0, ct_X0_lineAt_2] [] 5 2 (List.forall_mem_cons.mpr ⟨hct_X0_columnOf_0, List.forall_mem_cons.mpr ⟨hct_X0_rowOf_0, List.forall_mem_cons.mpr ⟨hct_X0_lineAt_2, fun _ h => absurd h List.not_mem_nil⟩⟩⟩) (by decide +kernel)
def ct_X0_turnOn_0 : zCt := (28, [.inr (.inr (4, 0)), .inl (0, 4294967295)], [], [], [.inl (some (.inl (0, 4294967295)), [])], 3)
theorem hct_X0_turnOn_0 : z_ctH zTb ct_X0_turnOn_0 := z_ct_ok [] z_hds_ok [ct_X6_at_12_0] [] 1 2 (List.forall_mem_cons.mpr ⟨hct_X6_at_12_0, fun _ h => absurd h List.not_mem_nil⟩) (by decide +kernel)
def ct_X0_turnOn_1 : zCt := (28, [.inr (.inr (4, 1)), .inl (0, 4294967295)], [], [], [.inl (some (.inl (0, 4294967295)), [])], 3)
theorem hct_X0_turnOn_1 : z_ctH zTb ct_X0_turnOn_1 := z_ct_ok [] z_hds_ok [ct_X6_at_12_1] [] 1 2 (List.forall_mem_cons.mpr ⟨hct_X6_at_12_1, fun _ h => absurd h List.not_mem_nil⟩) (by decide +kernel)
def ct_X0_turnOn_2 : zCt := (28, [.inr (.inr (4, 2)), .inl (0, 4294967295)], [], [], [.inl (some (.inl (0, 4294967295)), [])], 3)
theorem hct_X0_turnOn_2 : z_ctH zTb ct_X0_turnOn_2 := z_ct_ok [] z_hds_ok [ct_X6_at_12_2] [] 1 2 (List.forall_mem_cons.mpr ⟨hct_X6_at_12_2, fun _ h => absurd h List.not_mem_nil⟩) (by decide +kernel)
def ct_X0_putTurn_0 : zCt := (29, [.inr (.inr (4, 0)), .inl (0, 4294967295), .inl (0, 4294967295)], [], [(12, 0, 31)], [.inl (none, [])], 3)
theorem hct_X0_putTurn_0 : z_ctH zTb ct_X0_putTurn_0 := z_ct_ok [] z_hds_ok [ct_X6_put_12_0] [] 1 2 (List.forall_mem_cons.mpr ⟨hct_X6_put_12_0, fun _ h => absurd h List.not_mem_nil⟩) (by decide +kernel)
def ct_X0_putTurn_1 : zCt := (29, [.inr (.inr (4, 1)), .inl (0, 4294967295), .inl (0, 4294967295)], [], [(12, 0, 31)], [.inl (none, [])], 3)
theorem hct_X0_putTurn_1 : z_ctH zTb ct_X0_putTurn_1 := z_ct_ok [] z_hds_ok [ct_X6_put_12_1] [] 1 2 (List.forall_mem_cons.mpr ⟨hct_X6_put_12_1, fun _ h => absurd h List.not_mem_nil⟩) (by decide +kernel)
def ct_X0_putTurn_2 : zCt := (29, [.inr (.inr (4, 2)), .inl (0, 4294967295), .inl (0, 4294967295)], [], [(12, 0, 31)], [.inl (none, [])], 3)
theorem hct_X0_putTurn_2 : z_ctH zTb ct_X0_putTurn_2 := z_ct_ok [] z_hds_ok [ct_X6_put_12_2] [] 1 2 (List.forall_mem_cons.mpr ⟨hct_X6_put_12_2, fun _ h => absurd h List.not_mem_nil⟩) (by decide +kernel)
def ct_X0_turnRound_0 : zCt := (30, [.inr (.inr (4, 0)), .inl (0, 4294967295)], [], [], [.inl (some (.inl (0, 4294967295)), [])], 9)
theorem hct_X0_turnRound_0 : z_ctH zTb ct_X0_turnRound_0 := z_ct_ok [] z_hds_ok [ct_X2_times_0, ct_X2_against_0, ct_X0_sideOf_0, ct_X0_turnOn_0] [] 7 2 (List.forall_mem_cons.mpr ⟨hct_X2_times_0, List.forall_mem_cons.mpr ⟨hct_X2_against_0, List.forall_mem_cons.mpr ⟨hct_X0_sideOf_0, List.forall_mem_cons.mpr ⟨hct_X0_turnOn_0, fun _ h => absurd h List.not_mem_nil⟩⟩⟩⟩) (by decide +kernel)
def ct_X0_turnRound_1 : zCt := (30, [.inr (.inr (4, 1)), .inl (0, 4294967295)], [], [], [.inl (some (.inl (0, 4294967295)), [])], 9)
theorem hct_X0_turnRound_1 : z_ctH zTb ct_X0_turnRound_1 := z_ct_ok [] z_hds_ok [ct_X2_times_1, ct_X2_against_1, ct_X0_sideOf_1, ct_X0_turnOn_1] [] 7 2 (List.forall_mem_cons.mpr ⟨hct_X2_times_1, List.forall_mem_cons.mpr ⟨hct_X2_against_1, List.forall_mem_cons.mpr ⟨hct_X0_sideOf_1, List.forall_mem_cons.mpr ⟨hct_X0_turnOn_1, fun _ h => absurd h List.not_mem_nil⟩⟩⟩⟩) (by decide +kernel)
def ct_X0_turnRound_2 : zCt := (30, [.inr (.inr (4, 2)), .inl (0, 4294967295)], [], [], [.inl (some (.inl (0, 4294967295)), [])], 9)
theorem hct_X0_turnRound_2 : z_ctH zTb ct_X0_turnRound_2 := z_ct_ok [] z_hds_ok [ct_X2_times_2, ct_X2_against_2, ct_X0_sideOf_2, ct_X0_turnOn_2] [] 7 2 (List.forall_mem_cons.mpr ⟨hct_X2_times_2, List.forall_mem_cons.mpr ⟨hct_X2_against_2, List.forall_mem_cons.mpr ⟨hct_X0_sideOf_2, List.forall_mem_cons.mpr ⟨hct_X0_turnOn_2, fun _ h => absurd h List.not_mem_nil⟩⟩⟩⟩) (by decide +kernel)
def ct_X0_isHole_0 : zCt := (31, [.inr (.inr (4, 0)), .inl (0, 4294967295)], [], [], [.inl (some (.inl (2147483648, 2147483649)), [])], 3)
theorem hct_X0_isHole_0 : z_ctH zTb ct_X0_isHole_0 := z_ct_ok [] z_hds_ok [ct_X6_at_14_0] [] 1 2 (List.forall_mem_cons.mpr ⟨hct_X6_at_14_0, fun _ h => absurd h List.not_mem_nil⟩) (by decide +kernel)
def ct_X0_isHole_1 : zCt := (31, [.inr (.inr (4, 1)), .inl (0, 4294967295)], [], [], [.inl (some (.inl (2147483648, 2147483649)), [])], 3)
theorem hct_X0_isHole_1 : z_ctH zTb ct_X0_isHole_1 := z_ct_ok [] z_hds_ok [ct_X6_at_14_1] [] 1 2 (List.forall_mem_cons.mpr ⟨hct_X6_at_14_1, fun _ h => absurd h List.not_mem_nil⟩) (by decide +kernel)
def ct_X0_isHole_2 : zCt := (31, [.inr (.inr (4, 2)), .inl (0, 4294967295)], [], [], [.inl (some (.inl (2147483648, 2147483649)), [])], 3)
theorem hct_X0_isHole_2 : z_ctH zTb ct_X0_isHole_2 := z_ct_ok [] z_hds_ok [ct_X6_at_14_2] [] 1 2 (List.forall_mem_cons.mpr ⟨hct_X6_at_14_2, fun _ h => absurd h List.not_mem_nil⟩) (by decide +kernel)
def ct_X0_weight_0 : zCt := (32, [.inr (.inr (4, 0)), .inl (0, 4294967295)], [], [], [.inl (some (.inl (0, 4294967295)), [])], 3)
theorem hct_X0_weight_0 : z_ctH zTb ct_X0_weight_0 := z_ct_ok [] z_hds_ok [ct_X6_at_13_0] [] 1 2 (List.forall_mem_cons.mpr ⟨hct_X6_at_13_0, fun _ h => absurd h List.not_mem_nil⟩) (by decide +kernel)
def ct_X0_weight_1 : zCt := (32, [.inr (.inr (4, 1)), .inl (0, 4294967295)], [], [], [.inl (some (.inl (0, 4294967295)), [])], 3)
theorem hct_X0_weight_1 : z_ctH zTb ct_X0_weight_1 := z_ct_ok [] z_hds_ok [ct_X6_at_13_1] [] 1 2 (List.forall_mem_cons.mpr ⟨hct_X6_at_13_1, fun _ h => absurd h List.not_mem_nil⟩) (by decide +kernel)
def ct_X0_weight_2 : zCt := (32, [.inr (.inr (4, 2)), .inl (0, 4294967295)], [], [], [.inl (some (.inl (0, 4294967295)), [])], 3)
theorem hct_X0_weight_2 : z_ctH zTb ct_X0_weight_2 := z_ct_ok [] z_hds_ok [ct_X6_at_13_2] [] 1 2 (List.forall_mem_cons.mpr ⟨hct_X6_at_13_2, fun _ h => absurd h List.not_mem_nil⟩) (by decide +kernel)
def ct_X0_weightIn_0 : zCt := (33, [.inr (.inr (4, 0)), .inl (0, 4294967295), .inl (0, 4294967295)], [], [], [.inl (some (.inl (0, 4294967295)), [])], 5)
theorem hct_X0_weightIn_0 : z_ctH zTb ct_X0_weightIn_0 := z_ct_ok [] z_hds_ok [ct_X0_isHole_0, ct_X0_weight_0] [] 3 2 (List.forall_mem_cons.mpr ⟨hct_X0_isHole_0, List.forall_mem_cons.mpr ⟨hct_X0_weight_0, fun _ h => absurd h List.not_mem_nil⟩⟩) (by decide +kernel)
def ct_X0_weightIn_1 : zCt := (33, [.inr (.inr (4, 1)), .inl (0, 4294967295), .inl (0, 4294967295)], [], [], [.inl (some (.inl (0, 4294967295)), [])], 5)
theorem hct_X0_weightIn_1 : z_ctH zTb ct_X0_weightIn_1 := z_ct_ok [] z_hds_ok [ct_X0_isHole_1, ct_X0_weight_1] [] 3 2 (List.forall_mem_cons.mpr ⟨hct_X0_isHole_1, List.forall_mem_cons.mpr ⟨hct_X0_weight_1, fun _ h => absurd h List.not_mem_nil⟩⟩) (by decide +kernel)
def ct_X0_weightIn_2 : zCt := (33, [.inr (.inr (4, 2)), .inl (0, 4294967295), .inl (0, 4294967295)], [], [], [.inl (some (.inl (0, 4294967295)), [])], 5)
theorem hct_X0_weightIn_2 : z_ctH zTb ct_X0_weightIn_2 := z_ct_ok [] z_hds_ok [ct_X0_isHole_2, ct_X0_weight_2] [] 3 2 (List.forall_mem_cons.mpr ⟨hct_X0_isHole_2, List.forall_mem_cons.mpr ⟨hct_X0_weight_2, fun _ h => absurd h List.not_mem_nil⟩⟩) (by decide +kernel)
def ct_X0_weightSum_0 : zCt := (34, [.inr (.inr (4, 0))], [], [], [.inl (some (.inl (0, 4294967295)), [])], 5)
theorem hct_X0_weightSum_0 : z_ctH zTb ct_X0_weightSum_0 := z_ct_ok [] z_hds_ok [ct_X2_order_0, ct_X0_weight_0] [] 3 2 (List.forall_mem_cons.mpr ⟨hct_X2_order_0, List.forall_mem_cons.mpr ⟨hct_X0_weight_0, fun _ h => absurd h List.not_mem_nil⟩⟩) (by decide +kernel)
def ct_X0_weightSum_1 : zCt := (34, [.inr (.inr (4, 1))], [], [], [.inl (some (.inl (0, 4294967295)), [])], 5)
theorem hct_X0_weightSum_1 : z_ctH zTb ct_X0_weightSum_1 := z_ct_ok [] z_hds_ok [ct_X2_order_1, ct_X0_weight_1] [] 3 2 (List.forall_mem_cons.mpr ⟨hct_X2_order_1, List.forall_mem_cons.mpr ⟨hct_X0_weight_1, fun _ h => absurd h List.not_mem_nil⟩⟩) (by decide +kernel)
def ct_X0_weightSum_2 : zCt := (34, [.inr (.inr (4, 2))], [], [], [.inl (some (.inl (0, 4294967295)), [])], 5)
theorem hct_X0_weightSum_2 : z_ctH zTb ct_X0_weightSum_2 := z_ct_ok [] z_hds_ok [ct_X2_order_2, ct_X0_weight_2] [] 3 2 (List.forall_mem_cons.mpr ⟨hct_X2_order_2, List.forall_mem_cons.mpr ⟨hct_X0_weight_2, fun _ h => absurd h List.not_mem_nil⟩⟩) (by decide +kernel)
def ct_X0_weighKin_0 : zCt := (3, [.inr (.inr (4, 0)), .inl (0, 4294967295), .inl (0, 4294967295)], [], [(13, 0, 7)], [.inl (none, [])], 6)
theorem hct_X0_weighKin_0 : z_ctH zTb ct_X0_weighKin_0 := z_ct_ok [] z_hds_ok [ct_X6_put_13_0, ct_X2_kinOf_0, ct_X2_order_0] [] 4 2 (List.forall_mem_cons.mpr ⟨hct_X6_put_13_0, List.forall_mem_cons.mpr ⟨hct_X2_kinOf_0, List.forall_mem_cons.mpr ⟨hct_X2_order_0, fun _ h => absurd h List.not_mem_nil⟩⟩⟩) (by decide +kernel)
def ct_X0_weighKin_1 : zCt := (3, [.inr (.inr (4, 1)), .inl (0, 4294967295), .inl (0, 4294967295)], [], [(13, 0, 7)], [.inl (none, [])], 6)
theorem hct_X0_weighKin_1 : z_ctH zTb ct_X0_weighKin_1 := z_ct_ok [] z_hds_ok [ct_X6_put_13_1, ct_X2_kinOf_1, ct_X2_order_1] [] 4 2 (List.forall_mem_cons.mpr ⟨hct_X6_put_13_1, List.forall_mem_cons.mpr ⟨hct_X2_kinOf_1, List.forall_mem_cons.mpr ⟨hct_X2_order_1, fun _ h => absurd h List.not_mem_nil⟩⟩⟩) (by decide +kernel)
def ct_X0_weighKin_2 : zCt := (3, [.inr (.inr (4, 2)), .inl (0, 4294967295), .inl (0, 4294967295)], [], [(13, 0, 7)], [.inl (none, [])], 6)
theorem hct_X0_weighKin_2 : z_ctH zTb ct_X0_weighKin_2 := z_ct_ok [] z_hds_ok [ct_X6_put_13_2, ct_X2_kinOf_2, ct_X2_order_2] [] 4 2 (List.forall_mem_cons.mpr ⟨hct_X6_put_13_2, List.forall_mem_cons.mpr ⟨hct_X2_kinOf_2, List.forall_mem_cons.mpr ⟨hct_X2_order_2, fun _ h => absurd h List.not_mem_nil⟩⟩⟩) (by decide +kernel)
def ct_X0_worthOfTurns_0 : zCt := (35, [.inr (.inr (4, 0))], [], [], [.inl (some (.inr (.inl none)), [])], 11)
theorem hct_X0_worthOfTurns_0 : z_ctH zTb ct_X0_worthOfTurns_0 := z_ct_ok [] z_hds_ok [ct_X0_squareAt_0, ct_X0_turnRound_0, ct_X0_weightIn_0] [] 9 2 (List.forall_mem_cons.mpr ⟨hct_X0_squareAt_0, List.forall_mem_cons.mpr ⟨hct_X0_turnRound_0, List.forall_mem_cons.mpr ⟨hct_X0_weightIn_0, fun _ h => absurd h List.not_mem_nil⟩⟩⟩) (by decide +kernel)
def ct_X0_worthOfTurns_1 : zCt := (35, [.inr (.inr (4, 1))], [], [], [.inl (some (.inr (.inl none)), [])], 11)
theorem hct_X0_worthOfTurns_1 : z_ctH zTb ct_X0_worthOfTurns_1 := z_ct_ok [] z_hds_ok [ct_X0_squareAt_1, ct_X0_turnRound_1, ct_X0_weightIn_1] [] 9 2 (List.forall_mem_cons.mpr ⟨hct_X0_squareAt_1, List.forall_mem_cons.mpr ⟨hct_X0_turnRound_1, List.forall_mem_cons.mpr ⟨hct_X0_weightIn_1, fun _ h => absurd h List.not_mem_nil⟩⟩⟩) (by decide +kernel)
def ct_X0_worthOfTurns_2 : zCt := (35, [.inr (.inr (4, 2))], [], [], [.inl (some (.inr (.inl none)), [])], 11)
theorem hct_X0_worthOfTurns_2 : z_ctH zTb ct_X0_worthOfTurns_2 := z_ct_ok [] z_hds_ok [ct_X0_squareAt_2, ct_X0_turnRound_2, ct_X0_weightIn_2] [] 9 2 (List.forall_mem_cons.mpr ⟨hct_X0_squareAt_2, List.forall_mem_cons.mpr ⟨hct_X0_turnRound_2, List.forall_mem_cons.mpr ⟨hct_X0_weightIn_2, fun _ h => absurd h List.not_mem_nil⟩⟩⟩) (by decide +kernel)
def ct_X0_turnedSquares_0 : zCt := (36, [.inr (.inr (4, 0))], [], [], [.inl (some (.inl (2147483648, 2147483657)), [])], 11)
theorem hct_X0_turnedSquares_0 : z_ctH zTb ct_X0_turnedSquares_0 := z_ct_ok [] z_hds_ok [ct_X0_squareAt_0, ct_X0_turnRound_0, ct_X0_isHole_0] [] 9 2 (List.forall_mem_cons.mpr ⟨hct_X0_squareAt_0, List.forall_mem_cons.mpr ⟨hct_X0_turnRound_0, List.forall_mem_cons.mpr ⟨hct_X0_isHole_0, fun _ h => absurd h List.not_mem_nil⟩⟩⟩) (by decide +kernel)
def ct_X0_turnedSquares_1 : zCt := (36, [.inr (.inr (4, 1))], [], [], [.inl (some (.inl (2147483648, 2147483657)), [])], 11)
theorem hct_X0_turnedSquares_1 : z_ctH zTb ct_X0_turnedSquares_1 := z_ct_ok [] z_hds_ok [ct_X0_squareAt_1, ct_X0_turnRound_1, ct_X0_isHole_1] [] 9 2 (List.forall_mem_cons.mpr ⟨hct_X0_squareAt_1, List.forall_mem_cons.mpr ⟨hct_X0_turnRound_1, List.forall_mem_cons.mpr ⟨hct_X0_isHole_1, fun _ h => absurd h List.not_mem_nil⟩⟩⟩) (by decide +kernel)
def ct_X0_turnedSquares_2 : zCt := (36, [.inr (.inr (4, 2))], [], [], [.inl (some (.inl (2147483648, 2147483657)), [])], 11)
theorem hct_X0_turnedSquares_2 : z_ctH zTb ct_X0_turnedSquares_2 := z_ct_ok [] z_hds_ok [ct_X0_squareAt_2, ct_X0_turnRound_2, ct_X0_isHole_2] [] 9 2 (List.forall_mem_cons.mpr ⟨hct_X0_squareAt_2, List.forall_mem_cons.mpr ⟨hct_X0_turnRound_2, List.forall_mem_cons.mpr ⟨hct_X0_isHole_2, fun _ h => absurd h List.not_mem_nil⟩⟩⟩) (by decide +kernel)
def ct_X0_reframe_0 : zCt := (37, [.inr (.inr (4, 0)), .inl (0, 4294967295), .inl (0, 4294967295)], [], [(12, 0, 31)], [.inl (some (.inl (2147483648, 2147483680)), [])], 6)
theorem hct_X0_reframe_0 : z_ctH zTb ct_X0_reframe_0 := z_ct_ok [] z_hds_ok [ct_X2_times_0, ct_X2_against_0, ct_X0_beginOf_0, ct_X0_hasLine_0, ct_X0_endOf_0, ct_X0_turnOn_0, ct_X0_putTurn_0] [] 4 2 (List.forall_mem_cons.mpr ⟨hct_X2_times_0, List.forall_mem_cons.mpr ⟨hct_X2_against_0, List.forall_mem_cons.mpr ⟨hct_X0_beginOf_0, List.forall_mem_cons.mpr ⟨hct_X0_hasLine_0, List.forall_mem_cons.mpr ⟨hct_X0_endOf_0, List.forall_mem_cons.mpr ⟨hct_X0_turnOn_0, List.forall_mem_cons.mpr ⟨hct_X0_putTurn_0, fun _ h => absurd h List.not_mem_nil⟩⟩⟩⟩⟩⟩⟩) (by decide +kernel)
def ct_X0_reframe_1 : zCt := (37, [.inr (.inr (4, 1)), .inl (0, 4294967295), .inl (0, 4294967295)], [], [(12, 0, 31)], [.inl (some (.inl (2147483648, 2147483680)), [])], 6)
theorem hct_X0_reframe_1 : z_ctH zTb ct_X0_reframe_1 := z_ct_ok [] z_hds_ok [ct_X2_times_1, ct_X2_against_1, ct_X0_beginOf_0, ct_X0_hasLine_1, ct_X0_endOf_1, ct_X0_turnOn_1, ct_X0_putTurn_1] [] 4 2 (List.forall_mem_cons.mpr ⟨hct_X2_times_1, List.forall_mem_cons.mpr ⟨hct_X2_against_1, List.forall_mem_cons.mpr ⟨hct_X0_beginOf_0, List.forall_mem_cons.mpr ⟨hct_X0_hasLine_1, List.forall_mem_cons.mpr ⟨hct_X0_endOf_1, List.forall_mem_cons.mpr ⟨hct_X0_turnOn_1, List.forall_mem_cons.mpr ⟨hct_X0_putTurn_1, fun _ h => absurd h List.not_mem_nil⟩⟩⟩⟩⟩⟩⟩) (by decide +kernel)
def ct_X0_reframe_2 : zCt := (37, [.inr (.inr (4, 2)), .inl (0, 4294967295), .inl (0, 4294967295)], [], [(12, 0, 31)], [.inl (some (.inl (2147483648, 2147483680)), [])], 6)
theorem hct_X0_reframe_2 : z_ctH zTb ct_X0_reframe_2 := z_ct_ok [] z_hds_ok [ct_X2_times_2, ct_X2_against_2, ct_X0_beginOf_0, ct_X0_hasLine_2, ct_X0_endOf_2, ct_X0_turnOn_2, ct_X0_putTurn_2] [] 4 2 (List.forall_mem_cons.mpr ⟨hct_X2_times_2, List.forall_mem_cons.mpr ⟨hct_X2_against_2, List.forall_mem_cons.mpr ⟨hct_X0_beginOf_0, List.forall_mem_cons.mpr ⟨hct_X0_hasLine_2, List.forall_mem_cons.mpr ⟨hct_X0_endOf_2, List.forall_mem_cons.mpr ⟨hct_X0_turnOn_2, List.forall_mem_cons.mpr ⟨hct_X0_putTurn_2, fun _ h => absurd h List.not_mem_nil⟩⟩⟩⟩⟩⟩⟩) (by decide +kernel)
def ct_X0_startPlaces_0 : zCt := (2, [.inr (.inr (4, 0)), .inl (2147483649, 2147483651), .inl (2147483649, 2147483651), .inl (2147483648, 2147483650)], [], [(4, 1, 3), (4, 5, 6), (12, 0, 31), (14, 0, 15)], [.inl (none, [(65539, (2147483648, 2147483650))])], 3)
theorem hct_X0_startPlaces_0 : z_ctH zTb ct_X0_startPlaces_0 := z_ct_ok [] z_hds_ok [ct_X6_fill_12_0, ct_X6_fill_14_0] [] 1 2 (List.forall_mem_cons.mpr ⟨hct_X6_fill_12_0, List.forall_mem_cons.mpr ⟨hct_X6_fill_14_0, fun _ h => absurd h List.not_mem_nil⟩⟩) (by decide +kernel)
def ct_X0_startPlaces_1 : zCt := (2, [.inr (.inr (4, 1)), .inl (2147483649, 2147483651), .inl (2147483649, 2147483651), .inl (2147483648, 2147483650)], [], [(4, 1, 3), (4, 5, 6), (12, 0, 31), (14, 0, 15)], [.inl (none, [(69635, (2147483648, 2147483650))])], 3)
theorem hct_X0_startPlaces_1 : z_ctH zTb ct_X0_startPlaces_1 := z_ct_ok [] z_hds_ok [ct_X6_fill_12_1, ct_X6_fill_14_1] [] 1 2 (List.forall_mem_cons.mpr ⟨hct_X6_fill_12_1, List.forall_mem_cons.mpr ⟨hct_X6_fill_14_1, fun _ h => absurd h List.not_mem_nil⟩⟩) (by decide +kernel)
def ct_X0_startPlaces_2 : zCt := (2, [.inr (.inr (4, 2)), .inl (2147483649, 2147483651), .inl (2147483649, 2147483651), .inl (2147483648, 2147483650)], [], [(4, 1, 3), (4, 5, 6), (12, 0, 31), (14, 0, 15)], [.inl (none, [(73731, (2147483648, 2147483650))])], 3)
theorem hct_X0_startPlaces_2 : z_ctH zTb ct_X0_startPlaces_2 := z_ct_ok [] z_hds_ok [ct_X6_fill_12_2, ct_X6_fill_14_2] [] 1 2 (List.forall_mem_cons.mpr ⟨hct_X6_fill_12_2, List.forall_mem_cons.mpr ⟨hct_X6_fill_14_2, fun _ h => absurd h List.not_mem_nil⟩⟩) (by decide +kernel)
def ct_X0_copyFrom_0_2 : zCt := (0, [.inr (.inr (4, 0)), .inr (.inr (4, 2))], [], [(4, 1, 6), (5, 0, 2), (6, 0, 63), (7, 0, 7), (8, 0, 7), (9, 0, 7), (10, 0, 7), (11, 0, 7), (12, 0, 31), (13, 0, 7), (14, 0, 15)], [.inl (none, [])], 9)
theorem hct_X0_copyFrom_0_2 : z_ctH zTb ct_X0_copyFrom_0_2 := z_ct_ok [] z_hds_ok [ct_X6_copy_12_2_0, ct_X6_copy_13_2_0, ct_X6_copy_14_2_0, ct_X2_become_0, ct_X2_kind_2, ct_X2_order_2] [] 7 2 (List.forall_mem_cons.mpr ⟨hct_X6_copy_12_2_0, List.forall_mem_cons.mpr ⟨hct_X6_copy_13_2_0, List.forall_mem_cons.mpr ⟨hct_X6_copy_14_2_0, List.forall_mem_cons.mpr ⟨hct_X2_become_0, List.forall_mem_cons.mpr ⟨hct_X2_kind_2, List.forall_mem_cons.mpr ⟨hct_X2_order_2, fun _ h => absurd h List.not_mem_nil⟩⟩⟩⟩⟩⟩) (by decide +kernel)
def ct_X0_copyFrom_1_0 : zCt := (0, [.inr (.inr (4, 1)), .inr (.inr (4, 0))], [], [(4, 1, 6), (5, 0, 2), (6, 0, 63), (7, 0, 7), (8, 0, 7), (9, 0, 7), (10, 0, 7), (11, 0, 7), (12, 0, 31), (13, 0, 7), (14, 0, 15)], [.inl (none, [])], 9)
theorem hct_X0_copyFrom_1_0 : z_ctH zTb ct_X0_copyFrom_1_0 := z_ct_ok [] z_hds_ok [ct_X6_copy_12_0_1, ct_X6_copy_13_0_1, ct_X6_copy_14_0_1, ct_X2_become_1, ct_X2_kind_0, ct_X2_order_0] [] 7 2 (List.forall_mem_cons.mpr ⟨hct_X6_copy_12_0_1, List.forall_mem_cons.mpr ⟨hct_X6_copy_13_0_1, List.forall_mem_cons.mpr ⟨hct_X6_copy_14_0_1, List.forall_mem_cons.mpr ⟨hct_X2_become_1, List.forall_mem_cons.mpr ⟨hct_X2_kind_0, List.forall_mem_cons.mpr ⟨hct_X2_order_0, fun _ h => absurd h List.not_mem_nil⟩⟩⟩⟩⟩⟩) (by decide +kernel)
def ct_X0_copyFrom_0_1 : zCt := (0, [.inr (.inr (4, 0)), .inr (.inr (4, 1))], [], [(4, 1, 6), (5, 0, 2), (6, 0, 63), (7, 0, 7), (8, 0, 7), (9, 0, 7), (10, 0, 7), (11, 0, 7), (12, 0, 31), (13, 0, 7), (14, 0, 15)], [.inl (none, [])], 9)
theorem hct_X0_copyFrom_0_1 : z_ctH zTb ct_X0_copyFrom_0_1 := z_ct_ok [] z_hds_ok [ct_X6_copy_12_1_0, ct_X6_copy_13_1_0, ct_X6_copy_14_1_0, ct_X2_become_0, ct_X2_kind_1, ct_X2_order_1] [] 7 2 (List.forall_mem_cons.mpr ⟨hct_X6_copy_12_1_0, List.forall_mem_cons.mpr ⟨hct_X6_copy_13_1_0, List.forall_mem_cons.mpr ⟨hct_X6_copy_14_1_0, List.forall_mem_cons.mpr ⟨hct_X2_become_0, List.forall_mem_cons.mpr ⟨hct_X2_kind_1, List.forall_mem_cons.mpr ⟨hct_X2_order_1, fun _ h => absurd h List.not_mem_nil⟩⟩⟩⟩⟩⟩) (by decide +kernel)
def ct_X0_copyFrom_2_0 : zCt := (0, [.inr (.inr (4, 2)), .inr (.inr (4, 0))], [], [(4, 1, 6), (5, 0, 2), (6, 0, 63), (7, 0, 7), (8, 0, 7), (9, 0, 7), (10, 0, 7), (11, 0, 7), (12, 0, 31), (13, 0, 7), (14, 0, 15)], [.inl (none, [])], 9)
theorem hct_X0_copyFrom_2_0 : z_ctH zTb ct_X0_copyFrom_2_0 := z_ct_ok [] z_hds_ok [ct_X6_copy_12_0_2, ct_X6_copy_13_0_2, ct_X6_copy_14_0_2, ct_X2_become_2, ct_X2_kind_0, ct_X2_order_0] [] 7 2 (List.forall_mem_cons.mpr ⟨hct_X6_copy_12_0_2, List.forall_mem_cons.mpr ⟨hct_X6_copy_13_0_2, List.forall_mem_cons.mpr ⟨hct_X6_copy_14_0_2, List.forall_mem_cons.mpr ⟨hct_X2_become_2, List.forall_mem_cons.mpr ⟨hct_X2_kind_0, List.forall_mem_cons.mpr ⟨hct_X2_order_0, fun _ h => absurd h List.not_mem_nil⟩⟩⟩⟩⟩⟩) (by decide +kernel)
def ct_X0_agrees : zCt := (40, [.inr (.inr (4, 0)), .inl (0, 4294967295), .inr (.inr (4, 2))], [], [], [.inl (some (.inl (2147483648, 2147483649)), [])], 6)
theorem hct_X0_agrees : z_ctH zTb ct_X0_agrees := z_ct_ok [] z_hds_ok [ct_X6_at_15_0, ct_X2_times_0, ct_X0_beginOf_0, ct_X0_endOf_0, ct_X0_turnOn_0, ct_X0_turnOn_2] [] 4 2 (List.forall_mem_cons.mpr ⟨hct_X6_at_15_0, List.forall_mem_cons.mpr ⟨hct_X2_times_0, List.forall_mem_cons.mpr ⟨hct_X0_beginOf_0, List.forall_mem_cons.mpr ⟨hct_X0_endOf_0, List.forall_mem_cons.mpr ⟨hct_X0_turnOn_0, List.forall_mem_cons.mpr ⟨hct_X0_turnOn_2, fun _ h => absurd h List.not_mem_nil⟩⟩⟩⟩⟩⟩) (by decide +kernel)
def ct_X0_isReframedFrom : zCt := (39, [.inr (.inr (4, 0)), .inl (0, 4294967295), .inr (.inr (4, 2))], [], [(15, 0, 15)], [.inl (some (.inl (2147483648, 2147483649)), [])], 8)
theorem hct_X0_isReframedFrom : z_ctH zTb ct_X0_isReframedFrom := z_ct_ok [] z_hds_ok [ct_X6_at_15_0, ct_X6_put_15_0, ct_X2_times_0, ct_X2_against_0, ct_X0_beginOf_0, ct_X0_hasLine_0, ct_X0_endOf_0, ct_X0_isOfTree_0, ct_X0_turnOn_0, ct_X0_turnOn_2, ct_X0_agrees] [] 6 2 (List.forall_mem_cons.mpr ⟨hct_X6_at_15_0, List.forall_mem_cons.mpr ⟨hct_X6_put_15_0, List.forall_mem_cons.mpr ⟨hct_X2_times_0, List.forall_mem_cons.mpr ⟨hct_X2_against_0, List.forall_mem_cons.mpr ⟨hct_X0_beginOf_0, List.forall_mem_cons.mpr ⟨hct_X0_hasLine_0, List.forall_mem_cons.mpr ⟨hct_X0_endOf_0, List.forall_mem_cons.mpr ⟨hct_X0_isOfTree_0, List.forall_mem_cons.mpr ⟨hct_X0_turnOn_0, List.forall_mem_cons.mpr ⟨hct_X0_turnOn_2, List.forall_mem_cons.mpr ⟨hct_X0_agrees, fun _ h => absurd h List.not_mem_nil⟩⟩⟩⟩⟩⟩⟩⟩⟩⟩⟩) (by decide +kernel)
def ct_X0_isReframed : zCt := (38, [.inr (.inr (4, 0)), .inr (.inr (4, 2))], [], [(15, 0, 15)], [.inl (some (.inl (2147483648, 2147483649)), [])], 10)
theorem hct_X0_isReframed : z_ctH zTb ct_X0_isReframed := z_ct_ok [] z_hds_ok [ct_X2_kind_0, ct_X2_kind_2, ct_X2_order_0, ct_X2_order_2, ct_X0_isReframedFrom] [] 8 2 (List.forall_mem_cons.mpr ⟨hct_X2_kind_0, List.forall_mem_cons.mpr ⟨hct_X2_kind_2, List.forall_mem_cons.mpr ⟨hct_X2_order_0, List.forall_mem_cons.mpr ⟨hct_X2_order_2, List.forall_mem_cons.mpr ⟨hct_X0_isReframedFrom, fun _ h => absurd h List.not_mem_nil⟩⟩⟩⟩⟩) (by decide +kernel)
def ct_X0_drawnTurn_0 : zCt := (42, [.inr (.inr (4, 0)), .inl (0, 4294967295), .inl (0, 4294967295)], [], [], [.inl (some (.inl (2147483648, 2147483656)), [])], 7)
theorem hct_X0_drawnTurn_0 : z_ctH zTb ct_X0_drawnTurn_0 := z_ct_ok [] z_hds_ok [ct_X2_order_0, ct_X0_isHole_0, ct_X0_weightIn_0, ct_X0_weightSum_0] [] 5 2 (List.forall_mem_cons.mpr ⟨hct_X2_order_0, List.forall_mem_cons.mpr ⟨hct_X0_isHole_0, List.forall_mem_cons.mpr ⟨hct_X0_weightIn_0, List.forall_mem_cons.mpr ⟨hct_X0_weightSum_0, fun _ h => absurd h List.not_mem_nil⟩⟩⟩⟩) (by decide +kernel)
def ct_X0_drawTurns_0 : zCt := (41, [.inr (.inr (4, 0)), .inl (0, 4294967295)], [], [(12, 0, 31)], [.inl (none, [])], 9)
theorem hct_X0_drawTurns_0 : z_ctH zTb ct_X0_drawTurns_0 := z_ct_ok [] z_hds_ok [ct_X6_fill_12_0, ct_X2_times_0, ct_X2_against_0, ct_X0_squareAt_0, ct_X0_sideOf_0, ct_X0_turnOn_0, ct_X0_putTurn_0, ct_X0_drawnTurn_0] [] 7 2 (List.forall_mem_cons.mpr ⟨hct_X6_fill_12_0, List.forall_mem_cons.mpr ⟨hct_X2_times_0, List.forall_mem_cons.mpr ⟨hct_X2_against_0, List.forall_mem_cons.mpr ⟨hct_X0_squareAt_0, List.forall_mem_cons.mpr ⟨hct_X0_sideOf_0, List.forall_mem_cons.mpr ⟨hct_X0_turnOn_0, List.forall_mem_cons.mpr ⟨hct_X0_putTurn_0, List.forall_mem_cons.mpr ⟨hct_X0_drawnTurn_0, fun _ h => absurd h List.not_mem_nil⟩⟩⟩⟩⟩⟩⟩⟩) (by decide +kernel)
def ct_X8_size_0 : zCt := (134, [.inr (.inr (1, 0))], [], [], [.inl (some (.inl (2147483648, 2147484048)), [])], 2)
theorem hct_X8_size_0 : z_ctH zTb ct_X8_size_0 := z_ct_ok [] z_hds_ok [] [] 0 2 (fun _ h => absurd h List.not_mem_nil) (by decide +kernel)
def ct_X8_byteAt_0 : zCt := (135, [.inr (.inr (1, 0)), .inl (0, 4294967295)], [], [], [.inl (some (.inl (0, 4294967295)), [])], 2)
theorem hct_X8_byteAt_0 : z_ctH zTb ct_X8_byteAt_0 := z_ct_ok [] z_hds_ok [] [] 0 2 (fun _ h => absurd h List.not_mem_nil) (by decide +kernel)
def ct_X8_hasRoom_0 : zCt := (130, [.inr (.inr (1, 0)), .inl (0, 4294967295)], [], [], [.inl (some (.inl (2147483648, 2147483649)), [])], 2)
theorem hct_X8_hasRoom_0 : z_ctH zTb ct_X8_hasRoom_0 := z_ct_ok [] z_hds_ok [] [] 0 2 (fun _ h => absurd h List.not_mem_nil) (by decide +kernel)
def ct_X8_clearc : zCt := (133, [.inr (.inr (1, 0))], [], [(1, 1, 1)], [.inl (none, [(16385, (2147483648, 2147483648))])], 1)
theorem hct_X8_clearc : z_ctH zTb ct_X8_clearc := z_ct_ok [(1, 1, 1)] z_hds_ok [] [] 0 1 (fun _ h => absurd h List.not_mem_nil) (by decide +kernel)
def ct_X5_open_0 : zCt := (89, [.inr (.inr (3, 0))], [], [(3, 1, 1), (3, 5, 5)], [.inl (none, [])], 2)
theorem hct_X5_open_0 : z_ctH zTb ct_X5_open_0 := z_ct_ok [] z_hds_ok [] [] 0 2 (fun _ h => absurd h List.not_mem_nil) (by decide +kernel)
def ct_X5_wrong_0 : zCt := (90, [.inr (.inr (3, 0))], [], [], [.inl (some (.inl (0, 4294967295)), [])], 2)
theorem hct_X5_wrong_0 : z_ctH zTb ct_X5_wrong_0 := z_ct_ok [] z_hds_ok [] [] 0 2 (fun _ h => absurd h List.not_mem_nil) (by decide +kernel)
def ct_X5_begin_0 : zCt := (91, [.inr (.inr (3, 0))], [], [], [.inl (some (.inl (0, 4294967295)), [])], 2)
theorem hct_X5_begin_0 : z_ctH zTb ct_X5_begin_0 := z_ct_ok [] z_hds_ok [] [] 0 2 (fun _ h => absurd h List.not_mem_nil) (by decide +kernel)
def ct_X5_refuse_0 : zCt := (94, [.inr (.inr (3, 0)), .inl (0, 4294967295)], [], [(3, 5, 5)], [.inl (some (.inl (2147483648, 2147483648)), [])], 2)
theorem hct_X5_refuse_0 : z_ctH zTb ct_X5_refuse_0 := z_ct_ok [] z_hds_ok [] [] 0 2 (fun _ h => absurd h List.not_mem_nil) (by decide +kernel)
def ct_X5_refuseLatest_0 : zCt := (95, [.inr (.inr (3, 0))], [], [(3, 5, 5)], [.inl (some (.inl (2147483648, 2147483648)), [])], 4)
theorem hct_X5_refuseLatest_0 : z_ctH zTb ct_X5_refuseLatest_0 := z_ct_ok [] z_hds_ok [ct_X5_refuse_0] [] 2 2 (List.forall_mem_cons.mpr ⟨hct_X5_refuse_0, fun _ h => absurd h List.not_mem_nil⟩) (by decide +kernel)
def ct_X5_hasMore : zCt := (97, [.inr (.inr (3, 0))], [], [(3, 1, 1)], [.inl (some (.inl (2147483648, 2147483649)), [])], 4)
theorem hx_size {nS d : Nat} {M : aM} : aC nS (d + 1) 134 [vR 1 0] M (fun v M' => v = some (vI (M.1 1 0 1)) ∧ M = M') (fun _ _ => False) := by
  refine aC_mk rfl rfl ?_
  intro K hK _
  exact hK _ _ _ _ (hK _ _ _ _ (hK _ _ _ _ ⟨rfl, rfl⟩))
set_option maxRecDepth 10000 in
theorem hct_X5_hasMore : z_ctH zTb ct_X5_hasMore := by
  intro nS d as M hd hS hT hG
  obtain ⟨e, rfl⟩ := h_rk hd
  have h1 := h_S1 (by decide) hS
  subst h1
  show aC nS (e + 3 + 1) 97 _ M _ _
  refine aC_mk rfl rfl ?_
  intro K hK hF
  have lp : ∀ (n : Nat) (M1 : aM), 4294967296 - z_b (M1.1 3 0 1) = n → z_M (zTb, [(3, 1, 1)], []) M [] M1 → K 0 [some (vR 3 0)] [] M1 := by
    intro n
    induction n using Nat.strongRecOn with
    | ind n ih =>
    intro M1 hm hM
    have tail : K 43 [some (vR 3 0)] [] M1 := by
      refine hK _ _ _ _ (hK _ _ _ _ (hK _ _ _ _ (hK _ _ _ _ (?_))))
      refine hK _ _ _ _ ⟨_, hx_size, rfl, fun v M2 g => ?_⟩
      obtain ⟨rfl, rfl⟩ := g
      refine hK _ _ _ _ ⟨fun h => ?_, fun h => ?_⟩
      · exact hK _ _ _ _ (hK _ _ _ _ ⟨Or.inl rfl, _, _, List.mem_singleton.mpr rfl, h_bo (Or.inl rfl), hM⟩)
      · exact hK _ _ _ _ (hK _ _ _ _ (hK _ _ _ _ ⟨Or.inr rfl, _, _, List.mem_singleton.mpr rfl, h_bo (Or.inr rfl), hM⟩))
    refine hK _ _ _ _ (hK _ _ _ _ (hK _ _ _ _ (hK _ _ _ _ (?_))))
    refine hK _ _ _ _ ⟨_, hx_size, rfl, fun v M2 g => ?_⟩
    obtain ⟨rfl, rfl⟩ := g
    refine hK _ _ _ _ ⟨fun h => tail, fun h1 => ?_⟩
    refine hK _ _ _ _ (hK _ _ _ _ (hK _ _ _ _ (hK _ _ _ _ (?_))))
    refine hK _ _ _ _ ⟨_, h_pI hct_X8_byteAt_0 rfl rfl rfl (show (2 : Nat) ≤ e + 3 by omega) (h_R (h_I trivial)) hM.1, rfl, fun v M2 g => ?_⟩
    obtain ⟨⟨y, rfl, -⟩, rfl⟩ := g
    refine hK _ _ _ _ (hK _ _ _ _ ⟨fun h => tail, fun h => ?_⟩)
    refine hK _ _ _ _ (hK _ _ _ _ (hK _ _ _ _ (hK _ _ _ _ (hK _ _ _ _ (hK _ _ _ _ (hK _ _ _ _ (?_)))))))
    have hM3 : z_M (zTb, [(3, 1, 1)], []) M [] (a_pI M1 3 0 1 (M1.1 3 0 1 + 1)) := h_Mp hM (by decide) (z_i_top _)
    refine ih _ ?_ _ rfl hM3
    rw [h_pIs]
    exact v_up hm h1
  exact lp _ M rfl (h_M0 hT)
def ct_X5_passWord : zCt := (100, [.inr (.inr (3, 0))], [], [(3, 1, 2)], [.inl (none, [])], 6)
set_option maxRecDepth 10000 in
theorem hct_X5_passWord : z_ctH zTb ct_X5_passWord := by
  intro nS d as M hd hS hT hG
  obtain ⟨e, rfl⟩ := h_rk hd
  have h1 := h_S1 (by decide) hS
  subst h1
  show aC nS (e + 5 + 1) 100 _ M _ _
  refine aC_mk rfl rfl ?_
  intro K hK hF
  have lp : ∀ (n : Nat) (M1 : aM), 4294967296 - z_b (M1.1 3 0 1) = n → z_M (zTb, [(3, 1, 2)], []) M [] M1 → K 13 [some (vR 3 0)] [] M1 := by
    intro n
    induction n using Nat.strongRecOn with
    | ind n ih =>
    intro M1 hm hM
    have tail : K 72 [some (vR 3 0)] [] M1 := hK _ _ _ _ ⟨_, _, List.mem_singleton.mpr rfl, trivial, hM⟩
    refine hK _ _ _ _ (hK _ _ _ _ (hK _ _ _ _ (hK _ _ _ _ (?_))))
    refine hK _ _ _ _ ⟨_, hx_size, rfl, fun v M2 g => ?_⟩
    obtain ⟨rfl, rfl⟩ := g
    refine hK _ _ _ _ ⟨fun h => tail, fun h1 => ?_⟩
    refine hK _ _ _ _ (hK _ _ _ _ (hK _ _ _ _ (hK _ _ _ _ (?_))))
    refine hK _ _ _ _ ⟨_, h_pI hct_X8_byteAt_0 rfl rfl rfl (show (2 : Nat) ≤ e + 5 by omega) (h_R (h_I trivial)) hM.1, rfl, fun v M2 g => ?_⟩
    obtain ⟨⟨y, rfl, -⟩, rfl⟩ := g
    refine hK _ _ _ _ (hK _ _ _ _ ⟨fun h => tail, fun h => ?_⟩)
    refine hK _ _ _ _ (hK _ _ _ _ (hK _ _ _ _ (hK _ _ _ _ (?_))))
    refine hK _ _ _ _ ⟨_, h_pI hct_X8_byteAt_0 rfl rfl rfl (show (2 : Nat) ≤ e + 5 by omega) (h_R (h_I trivial)) hM.1, rfl, fun v M2 g => ?_⟩
    obtain ⟨⟨y, rfl, -⟩, rfl⟩ := g
    refine hK _ _ _ _ (hK _ _ _ _ ⟨fun h => tail, fun h => ?_⟩)
    refine hK _ _ _ _ (hK _ _ _ _ (hK _ _ _ _ (hK _ _ _ _ (hK _ _ _ _ (hK _ _ _ _ (hK _ _ _ _ (?_)))))))
    have hM3 : z_M (zTb, [(3, 1, 2)], []) M [] (a_pI M1 3 0 1 (M1.1 3 0 1 + 1)) := h_Mp hM (by decide) (z_i_top _)
    refine ih _ ?_ _ rfl hM3
    rw [h_pIs]
    exact v_up hm h1
  refine hK _ _ _ _ ?_
  refine hK _ _ _ _ ⟨_, h_pW hct_X5_hasMore rfl rfl (show (4 : Nat) ≤ e + 5 by omega) (h_R trivial) hT, rfl, fun v M2 g => ?_⟩
  obtain ⟨g1, g2⟩ := g
  obtain ⟨y, rfl, -⟩ := h_ovI g1
  have hM2 : z_M (zTb, [(3, 1, 2)], []) M [] M2 := h_Mt (h_M0 hT) g2 (by decide)
  refine hK _ _ _ _ (hK _ _ _ _ (hK _ _ _ _ (hK _ _ _ _ (hK _ _ _ _ (?_)))))
  have hM3 : z_M (zTb, [(3, 1, 2)], []) M [] (a_pI M2 3 0 2 (M2.1 3 0 1)) := h_Mp hM2 (by decide) (z_i_top _)
  exact lp _ _ rfl hM3
def ct_X5_number_0_3 : zCt := (102, [.inr (.inr (3, 0)), .inl (2147483648, 2147483648), .inl (2147483651, 2147483651)], [], [(3, 1, 2), (3, 5, 5)], [.inl (some (.inl (2147483647, 2147483647)), []), .inl (some (.inl (2147483648, 2147483651)), [])], 6)
set_option maxRecDepth 10000 in
theorem hct_X5_number_0_3 : z_ctH zTb ct_X5_number_0_3 := by
  intro nS d as M hd hS hT hG
  obtain ⟨e, rfl⟩ := h_rk hd
  obtain ⟨xl, xh, rfl, hl, hh⟩ := h_S3 (by decide) hS
  show aC nS (e + 5 + 1) 102 _ M _ _
  refine aC_mk rfl rfl ?_
  intro K hK hF
  have lp : ∀ (n : Nat) (M1 : aM) (x3 : Int32), 4294967296 - z_b (M1.1 3 0 1) = n → z_M (zTb, [(3, 1, 2), (3, 5, 5)], []) M [] M1 → K 15 [some (vR 3 0), some (vI xl), some (vI xh), some (vI x3), none] [] M1 := by
    intro n
    induction n using Nat.strongRecOn with
    | ind n ih =>
    intro M1 x3 hm hM
    have tail : K 94 [some (vR 3 0), some (vI xl), some (vI xh), some (vI x3), none] [] M1 := by
      have bad : ∀ x4, K 127 [some (vR 3 0), some (vI xl), some (vI xh), some (vI x3), some (vI x4)] [] M1 := by
        intro x4
        refine hK _ _ _ _ (hK _ _ _ _ (hK _ _ _ _ (?_)))
        refine hK _ _ _ _ ⟨_, h_pW hct_X5_refuse_0 rfl rfl (show (2 : Nat) ≤ e + 5 by omega) (h_R (h_I trivial)) hM.1, rfl, fun v M2 g => ?_⟩
        obtain ⟨g1, g2⟩ := g
        obtain ⟨y, rfl, -⟩ := h_ovI g1
        exact hK _ _ _ _ (hK _ _ _ _ (hK _ _ _ _ ⟨_, _, List.mem_cons_self, ⟨Nat.le_of_eq z_b_m1.symm, Nat.le_of_eq z_b_m1⟩, h_Mt hM g2 (by decide)⟩))
      refine hK _ _ _ _ (hK _ _ _ _ (hK _ _ _ _ (hK _ _ _ _ (hK _ _ _ _ (hK _ _ _ _ (?_))))))
      refine hK _ _ _ _ (hK _ _ _ _ (?_))
      refine hK _ _ _ _ ⟨fun h => bad _, fun h => ?_⟩
      refine hK _ _ _ _ (hK _ _ _ _ (?_))
      refine hK _ _ _ _ ⟨fun h => bad _, fun h => ?_⟩
      refine hK _ _ _ _ (hK _ _ _ _ (?_))
      refine hK _ _ _ _ ⟨fun h => bad _, fun h3 => ?_⟩
      refine hK _ _ _ _ (hK _ _ _ _ (?_))
      refine hK _ _ _ _ ⟨fun h4 => ?_, fun h => bad _⟩
      refine hK _ _ _ _ (hK _ _ _ _ ⟨_, _, List.mem_cons_of_mem _ (List.mem_singleton.mpr rfl), ⟨?_, ?_⟩, hM⟩)
      · exact Nat.le_trans hl.1 (z_b_le.mp (Int32.not_lt.mp h3))
      · exact Nat.le_trans (z_b_le.mp h4) hh.2
    refine hK _ _ _ _ (hK _ _ _ _ (hK _ _ _ _ (hK _ _ _ _ (?_))))
    refine hK _ _ _ _ ⟨_, hx_size, rfl, fun v M2 g => ?_⟩
    obtain ⟨rfl, rfl⟩ := g
    refine hK _ _ _ _ ⟨fun h => tail, fun h1 => ?_⟩
    refine hK _ _ _ _ (hK _ _ _ _ (hK _ _ _ _ (hK _ _ _ _ (?_))))
    refine hK _ _ _ _ ⟨_, h_pI hct_X8_byteAt_0 rfl rfl rfl (show (2 : Nat) ≤ e + 5 by omega) (h_R (h_I trivial)) hM.1, rfl, fun v M2 g => ?_⟩
    obtain ⟨⟨y, rfl, -⟩, rfl⟩ := g
    refine hK _ _ _ _ (hK _ _ _ _ ⟨fun h => tail, fun h => ?_⟩)
    refine hK _ _ _ _ (hK _ _ _ _ (hK _ _ _ _ (hK _ _ _ _ (?_))))
    refine hK _ _ _ _ ⟨_, h_pI hct_X8_byteAt_0 rfl rfl rfl (show (2 : Nat) ≤ e + 5 by omega) (h_R (h_I trivial)) hM.1, rfl, fun v M2 g => ?_⟩
    obtain ⟨⟨y, rfl, -⟩, rfl⟩ := g
    refine hK _ _ _ _ (hK _ _ _ _ ⟨fun h => tail, fun h => ?_⟩)
    refine hK _ _ _ _ (hK _ _ _ _ (hK _ _ _ _ (hK _ _ _ _ (hK _ _ _ _ (hK _ _ _ _ (hK _ _ _ _ (?_)))))))
    refine hK _ _ _ _ ⟨_, h_pI hct_X8_byteAt_0 rfl rfl rfl (show (2 : Nat) ≤ e + 5 by omega) (h_R (h_I trivial)) hM.1, rfl, fun v M2 g => ?_⟩
    obtain ⟨⟨y, rfl, -⟩, rfl⟩ := g
    refine hK _ _ _ _ (hK _ _ _ _ (hK _ _ _ _ (hK _ _ _ _ (hK _ _ _ _ (hK _ _ _ _ (hK _ _ _ _ (hK _ _ _ _ (hK _ _ _ _ (hK _ _ _ _ (hK _ _ _ _ (?_)))))))))))
    have hM3 : z_M (zTb, [(3, 1, 2), (3, 5, 5)], []) M [] (a_pI M1 3 0 1 (M1.1 3 0 1 + 1)) := h_Mp hM (by decide) (z_i_top _)
    refine ih _ ?_ _ _ rfl hM3
    rw [h_pIs]
    exact v_up hm h1
  refine hK _ _ _ _ ?_
  refine hK _ _ _ _ ⟨_, h_pW hct_X5_hasMore rfl rfl (show (4 : Nat) ≤ e + 5 by omega) (h_R trivial) hT, rfl, fun v M2 g => ?_⟩
  obtain ⟨g1, g2⟩ := g
  obtain ⟨y, rfl, -⟩ := h_ovI g1
  have hM2 : z_M (zTb, [(3, 1, 2), (3, 5, 5)], []) M [] M2 := h_Mt (h_M0 hT) g2 (by decide)
  refine hK _ _ _ _ (hK _ _ _ _ (hK _ _ _ _ (hK _ _ _ _ (hK _ _ _ _ (?_)))))
  have hM3 : z_M (zTb, [(3, 1, 2), (3, 5, 5)], []) M [] (a_pI M2 3 0 2 (M2.1 3 0 1)) := h_Mp hM2 (by decide) (z_i_top _)
  refine hK _ _ _ _ (hK _ _ _ _ (?_))
  exact lp _ _ _ rfl hM3
def ct_X5_number_2_8 : zCt := (102, [.inr (.inr (3, 0)), .inl (2147483650, 2147483650), .inl (2147483656, 2147483656)], [], [(3, 1, 2), (3, 5, 5)], [.inl (some (.inl (2147483647, 2147483647)), []), .inl (some (.inl (2147483650, 2147483656)), [])], 6)
set_option maxRecDepth 10000 in
theorem hct_X5_number_2_8 : z_ctH zTb ct_X5_number_2_8 := by
  intro nS d as M hd hS hT hG
  obtain ⟨e, rfl⟩ := h_rk hd
  obtain ⟨xl, xh, rfl, hl, hh⟩ := h_S3 (by decide) hS
  show aC nS (e + 5 + 1) 102 _ M _ _
  refine aC_mk rfl rfl ?_
  intro K hK hF
  have lp : ∀ (n : Nat) (M1 : aM) (x3 : Int32), 4294967296 - z_b (M1.1 3 0 1) = n → z_M (zTb, [(3, 1, 2), (3, 5, 5)], []) M [] M1 → K 15 [some (vR 3 0), some (vI xl), some (vI xh), some (vI x3), none] [] M1 := by
    intro n
    induction n using Nat.strongRecOn with
    | ind n ih =>
    intro M1 x3 hm hM
    have tail : K 94 [some (vR 3 0), some (vI xl), some (vI xh), some (vI x3), none] [] M1 := by
      have bad : ∀ x4, K 127 [some (vR 3 0), some (vI xl), some (vI xh), some (vI x3), some (vI x4)] [] M1 := by
        intro x4
        refine hK _ _ _ _ (hK _ _ _ _ (hK _ _ _ _ (?_)))
        refine hK _ _ _ _ ⟨_, h_pW hct_X5_refuse_0 rfl rfl (show (2 : Nat) ≤ e + 5 by omega) (h_R (h_I trivial)) hM.1, rfl, fun v M2 g => ?_⟩
        obtain ⟨g1, g2⟩ := g
        obtain ⟨y, rfl, -⟩ := h_ovI g1
        exact hK _ _ _ _ (hK _ _ _ _ (hK _ _ _ _ ⟨_, _, List.mem_cons_self, ⟨Nat.le_of_eq z_b_m1.symm, Nat.le_of_eq z_b_m1⟩, h_Mt hM g2 (by decide)⟩))
      refine hK _ _ _ _ (hK _ _ _ _ (hK _ _ _ _ (hK _ _ _ _ (hK _ _ _ _ (hK _ _ _ _ (?_))))))
      refine hK _ _ _ _ (hK _ _ _ _ (?_))
      refine hK _ _ _ _ ⟨fun h => bad _, fun h => ?_⟩
      refine hK _ _ _ _ (hK _ _ _ _ (?_))
      refine hK _ _ _ _ ⟨fun h => bad _, fun h => ?_⟩
      refine hK _ _ _ _ (hK _ _ _ _ (?_))
      refine hK _ _ _ _ ⟨fun h => bad _, fun h3 => ?_⟩
      refine hK _ _ _ _ (hK _ _ _ _ (?_))
      refine hK _ _ _ _ ⟨fun h4 => ?_, fun h => bad _⟩
      refine hK _ _ _ _ (hK _ _ _ _ ⟨_, _, List.mem_cons_of_mem _ (List.mem_singleton.mpr rfl), ⟨?_, ?_⟩, hM⟩)
      · exact Nat.le_trans hl.1 (z_b_le.mp (Int32.not_lt.mp h3))
      · exact Nat.le_trans (z_b_le.mp h4) hh.2
    refine hK _ _ _ _ (hK _ _ _ _ (hK _ _ _ _ (hK _ _ _ _ (?_))))
    refine hK _ _ _ _ ⟨_, hx_size, rfl, fun v M2 g => ?_⟩
    obtain ⟨rfl, rfl⟩ := g
    refine hK _ _ _ _ ⟨fun h => tail, fun h1 => ?_⟩
    refine hK _ _ _ _ (hK _ _ _ _ (hK _ _ _ _ (hK _ _ _ _ (?_))))
    refine hK _ _ _ _ ⟨_, h_pI hct_X8_byteAt_0 rfl rfl rfl (show (2 : Nat) ≤ e + 5 by omega) (h_R (h_I trivial)) hM.1, rfl, fun v M2 g => ?_⟩
    obtain ⟨⟨y, rfl, -⟩, rfl⟩ := g
    refine hK _ _ _ _ (hK _ _ _ _ ⟨fun h => tail, fun h => ?_⟩)
    refine hK _ _ _ _ (hK _ _ _ _ (hK _ _ _ _ (hK _ _ _ _ (?_))))
    refine hK _ _ _ _ ⟨_, h_pI hct_X8_byteAt_0 rfl rfl rfl (show (2 : Nat) ≤ e + 5 by omega) (h_R (h_I trivial)) hM.1, rfl, fun v M2 g => ?_⟩
    obtain ⟨⟨y, rfl, -⟩, rfl⟩ := g
    refine hK _ _ _ _ (hK _ _ _ _ ⟨fun h => tail, fun h => ?_⟩)
    refine hK _ _ _ _ (hK _ _ _ _ (hK _ _ _ _ (hK _ _ _ _ (hK _ _ _ _ (hK _ _ _ _ (hK _ _ _ _ (?_)))))))
    refine hK _ _ _ _ ⟨_, h_pI hct_X8_byteAt_0 rfl rfl rfl (show (2 : Nat) ≤ e + 5 by omega) (h_R (h_I trivial)) hM.1, rfl, fun v M2 g => ?_⟩
    obtain ⟨⟨y, rfl, -⟩, rfl⟩ := g
    refine hK _ _ _ _ (hK _ _ _ _ (hK _ _ _ _ (hK _ _ _ _ (hK _ _ _ _ (hK _ _ _ _ (hK _ _ _ _ (hK _ _ _ _ (hK _ _ _ _ (hK _ _ _ _ (hK _ _ _ _ (?_)))))))))))
    have hM3 : z_M (zTb, [(3, 1, 2), (3, 5, 5)], []) M [] (a_pI M1 3 0 1 (M1.1 3 0 1 + 1)) := h_Mp hM (by decide) (z_i_top _)
    refine ih _ ?_ _ _ rfl hM3
    rw [h_pIs]
    exact v_up hm h1
  refine hK _ _ _ _ ?_
  refine hK _ _ _ _ ⟨_, h_pW hct_X5_hasMore rfl rfl (show (4 : Nat) ≤ e + 5 by omega) (h_R trivial) hT, rfl, fun v M2 g => ?_⟩
  obtain ⟨g1, g2⟩ := g
  obtain ⟨y, rfl, -⟩ := h_ovI g1
  have hM2 : z_M (zTb, [(3, 1, 2), (3, 5, 5)], []) M [] M2 := h_Mt (h_M0 hT) g2 (by decide)
  refine hK _ _ _ _ (hK _ _ _ _ (hK _ _ _ _ (hK _ _ _ _ (hK _ _ _ _ (?_)))))
  have hM3 : z_M (zTb, [(3, 1, 2), (3, 5, 5)], []) M [] (a_pI M2 3 0 2 (M2.1 3 0 1)) := h_Mp hM2 (by decide) (z_i_top _)
  refine hK _ _ _ _ (hK _ _ _ _ (?_))
  exact lp _ _ _ rfl hM3
def ct_X5_number_1_3 : zCt := (102, [.inr (.inr (3, 0)), .inl (2147483649, 2147483649), .inl (2147483651, 2147483651)], [], [(3, 1, 2), (3, 5, 5)], [.inl (some (.inl (2147483647, 2147483647)), []), .inl (some (.inl (2147483649, 2147483651)), [])], 6)
set_option maxRecDepth 10000 in
theorem hct_X5_number_1_3 : z_ctH zTb ct_X5_number_1_3 := by
  intro nS d as M hd hS hT hG
  obtain ⟨e, rfl⟩ := h_rk hd
  obtain ⟨xl, xh, rfl, hl, hh⟩ := h_S3 (by decide) hS
  show aC nS (e + 5 + 1) 102 _ M _ _
  refine aC_mk rfl rfl ?_
  intro K hK hF
  have lp : ∀ (n : Nat) (M1 : aM) (x3 : Int32), 4294967296 - z_b (M1.1 3 0 1) = n → z_M (zTb, [(3, 1, 2), (3, 5, 5)], []) M [] M1 → K 15 [some (vR 3 0), some (vI xl), some (vI xh), some (vI x3), none] [] M1 := by
    intro n
    induction n using Nat.strongRecOn with
    | ind n ih =>
    intro M1 x3 hm hM
    have tail : K 94 [some (vR 3 0), some (vI xl), some (vI xh), some (vI x3), none] [] M1 := by
      have bad : ∀ x4, K 127 [some (vR 3 0), some (vI xl), some (vI xh), some (vI x3), some (vI x4)] [] M1 := by
        intro x4
        refine hK _ _ _ _ (hK _ _ _ _ (hK _ _ _ _ (?_)))
        refine hK _ _ _ _ ⟨_, h_pW hct_X5_refuse_0 rfl rfl (show (2 : Nat) ≤ e + 5 by omega) (h_R (h_I trivial)) hM.1, rfl, fun v M2 g => ?_⟩
        obtain ⟨g1, g2⟩ := g
        obtain ⟨y, rfl, -⟩ := h_ovI g1
        exact hK _ _ _ _ (hK _ _ _ _ (hK _ _ _ _ ⟨_, _, List.mem_cons_self, ⟨Nat.le_of_eq z_b_m1.symm, Nat.le_of_eq z_b_m1⟩, h_Mt hM g2 (by decide)⟩))
      refine hK _ _ _ _ (hK _ _ _ _ (hK _ _ _ _ (hK _ _ _ _ (hK _ _ _ _ (hK _ _ _ _ (?_))))))
      refine hK _ _ _ _ (hK _ _ _ _ (?_))
      refine hK _ _ _ _ ⟨fun h => bad _, fun h => ?_⟩
      refine hK _ _ _ _ (hK _ _ _ _ (?_))
      refine hK _ _ _ _ ⟨fun h => bad _, fun h => ?_⟩
      refine hK _ _ _ _ (hK _ _ _ _ (?_))
      refine hK _ _ _ _ ⟨fun h => bad _, fun h3 => ?_⟩
      refine hK _ _ _ _ (hK _ _ _ _ (?_))
      refine hK _ _ _ _ ⟨fun h4 => ?_, fun h => bad _⟩
      refine hK _ _ _ _ (hK _ _ _ _ ⟨_, _, List.mem_cons_of_mem _ (List.mem_singleton.mpr rfl), ⟨?_, ?_⟩, hM⟩)
      · exact Nat.le_trans hl.1 (z_b_le.mp (Int32.not_lt.mp h3))
      · exact Nat.le_trans (z_b_le.mp h4) hh.2
    refine hK _ _ _ _ (hK _ _ _ _ (hK _ _ _ _ (hK _ _ _ _ (?_))))
    refine hK _ _ _ _ ⟨_, hx_size, rfl, fun v M2 g => ?_⟩
    obtain ⟨rfl, rfl⟩ := g
    refine hK _ _ _ _ ⟨fun h => tail, fun h1 => ?_⟩
    refine hK _ _ _ _ (hK _ _ _ _ (hK _ _ _ _ (hK _ _ _ _ (?_))))
    refine hK _ _ _ _ ⟨_, h_pI hct_X8_byteAt_0 rfl rfl rfl (show (2 : Nat) ≤ e + 5 by omega) (h_R (h_I trivial)) hM.1, rfl, fun v M2 g => ?_⟩
    obtain ⟨⟨y, rfl, -⟩, rfl⟩ := g
    refine hK _ _ _ _ (hK _ _ _ _ ⟨fun h => tail, fun h => ?_⟩)
    refine hK _ _ _ _ (hK _ _ _ _ (hK _ _ _ _ (hK _ _ _ _ (?_))))
    refine hK _ _ _ _ ⟨_, h_pI hct_X8_byteAt_0 rfl rfl rfl (show (2 : Nat) ≤ e + 5 by omega) (h_R (h_I trivial)) hM.1, rfl, fun v M2 g => ?_⟩
    obtain ⟨⟨y, rfl, -⟩, rfl⟩ := g
    refine hK _ _ _ _ (hK _ _ _ _ ⟨fun h => tail, fun h => ?_⟩)
    refine hK _ _ _ _ (hK _ _ _ _ (hK _ _ _ _ (hK _ _ _ _ (hK _ _ _ _ (hK _ _ _ _ (hK _ _ _ _ (?_)))))))
    refine hK _ _ _ _ ⟨_, h_pI hct_X8_byteAt_0 rfl rfl rfl (show (2 : Nat) ≤ e + 5 by omega) (h_R (h_I trivial)) hM.1, rfl, fun v M2 g => ?_⟩
    obtain ⟨⟨y, rfl, -⟩, rfl⟩ := g
    refine hK _ _ _ _ (hK _ _ _ _ (hK _ _ _ _ (hK _ _ _ _ (hK _ _ _ _ (hK _ _ _ _ (hK _ _ _ _ (hK _ _ _ _ (hK _ _ _ _ (hK _ _ _ _ (hK _ _ _ _ (?_)))))))))))
    have hM3 : z_M (zTb, [(3, 1, 2), (3, 5, 5)], []) M [] (a_pI M1 3 0 1 (M1.1 3 0 1 + 1)) := h_Mp hM (by decide) (z_i_top _)
    refine ih _ ?_ _ _ rfl hM3
    rw [h_pIs]
    exact v_up hm h1
  refine hK _ _ _ _ ?_
  refine hK _ _ _ _ ⟨_, h_pW hct_X5_hasMore rfl rfl (show (4 : Nat) ≤ e + 5 by omega) (h_R trivial) hT, rfl, fun v M2 g => ?_⟩
  obtain ⟨g1, g2⟩ := g
  obtain ⟨y, rfl, -⟩ := h_ovI g1
  have hM2 : z_M (zTb, [(3, 1, 2), (3, 5, 5)], []) M [] M2 := h_Mt (h_M0 hT) g2 (by decide)
  refine hK _ _ _ _ (hK _ _ _ _ (hK _ _ _ _ (hK _ _ _ _ (hK _ _ _ _ (?_)))))
  have hM3 : z_M (zTb, [(3, 1, 2), (3, 5, 5)], []) M [] (a_pI M2 3 0 2 (M2.1 3 0 1)) := h_Mp hM2 (by decide) (z_i_top _)
  refine hK _ _ _ _ (hK _ _ _ _ (?_))
  exact lp _ _ _ rfl hM3
def ct_X5_number_0_2 : zCt := (102, [.inr (.inr (3, 0)), .inl (2147483648, 2147483648), .inl (2147483650, 2147483650)], [], [(3, 1, 2), (3, 5, 5)], [.inl (some (.inl (2147483647, 2147483647)), []), .inl (some (.inl (2147483648, 2147483650)), [])], 6)
set_option maxRecDepth 10000 in
theorem hct_X5_number_0_2 : z_ctH zTb ct_X5_number_0_2 := by
  intro nS d as M hd hS hT hG
  obtain ⟨e, rfl⟩ := h_rk hd
  obtain ⟨xl, xh, rfl, hl, hh⟩ := h_S3 (by decide) hS
  show aC nS (e + 5 + 1) 102 _ M _ _
  refine aC_mk rfl rfl ?_
  intro K hK hF
  have lp : ∀ (n : Nat) (M1 : aM) (x3 : Int32), 4294967296 - z_b (M1.1 3 0 1) = n → z_M (zTb, [(3, 1, 2), (3, 5, 5)], []) M [] M1 → K 15 [some (vR 3 0), some (vI xl), some (vI xh), some (vI x3), none] [] M1 := by
    intro n
    induction n using Nat.strongRecOn with
    | ind n ih =>
    intro M1 x3 hm hM
    have tail : K 94 [some (vR 3 0), some (vI xl), some (vI xh), some (vI x3), none] [] M1 := by
      have bad : ∀ x4, K 127 [some (vR 3 0), some (vI xl), some (vI xh), some (vI x3), some (vI x4)] [] M1 := by
        intro x4
        refine hK _ _ _ _ (hK _ _ _ _ (hK _ _ _ _ (?_)))
        refine hK _ _ _ _ ⟨_, h_pW hct_X5_refuse_0 rfl rfl (show (2 : Nat) ≤ e + 5 by omega) (h_R (h_I trivial)) hM.1, rfl, fun v M2 g => ?_⟩
        obtain ⟨g1, g2⟩ := g
        obtain ⟨y, rfl, -⟩ := h_ovI g1
        exact hK _ _ _ _ (hK _ _ _ _ (hK _ _ _ _ ⟨_, _, List.mem_cons_self, ⟨Nat.le_of_eq z_b_m1.symm, Nat.le_of_eq z_b_m1⟩, h_Mt hM g2 (by decide)⟩))
      refine hK _ _ _ _ (hK _ _ _ _ (hK _ _ _ _ (hK _ _ _ _ (hK _ _ _ _ (hK _ _ _ _ (?_))))))
      refine hK _ _ _ _ (hK _ _ _ _ (?_))
      refine hK _ _ _ _ ⟨fun h => bad _, fun h => ?_⟩
      refine hK _ _ _ _ (hK _ _ _ _ (?_))
      refine hK _ _ _ _ ⟨fun h => bad _, fun h => ?_⟩
      refine hK _ _ _ _ (hK _ _ _ _ (?_))
      refine hK _ _ _ _ ⟨fun h => bad _, fun h3 => ?_⟩
      refine hK _ _ _ _ (hK _ _ _ _ (?_))
      refine hK _ _ _ _ ⟨fun h4 => ?_, fun h => bad _⟩
      refine hK _ _ _ _ (hK _ _ _ _ ⟨_, _, List.mem_cons_of_mem _ (List.mem_singleton.mpr rfl), ⟨?_, ?_⟩, hM⟩)
      · exact Nat.le_trans hl.1 (z_b_le.mp (Int32.not_lt.mp h3))
      · exact Nat.le_trans (z_b_le.mp h4) hh.2
    refine hK _ _ _ _ (hK _ _ _ _ (hK _ _ _ _ (hK _ _ _ _ (?_))))
    refine hK _ _ _ _ ⟨_, hx_size, rfl, fun v M2 g => ?_⟩
    obtain ⟨rfl, rfl⟩ := g
    refine hK _ _ _ _ ⟨fun h => tail, fun h1 => ?_⟩
    refine hK _ _ _ _ (hK _ _ _ _ (hK _ _ _ _ (hK _ _ _ _ (?_))))
    refine hK _ _ _ _ ⟨_, h_pI hct_X8_byteAt_0 rfl rfl rfl (show (2 : Nat) ≤ e + 5 by omega) (h_R (h_I trivial)) hM.1, rfl, fun v M2 g => ?_⟩
    obtain ⟨⟨y, rfl, -⟩, rfl⟩ := g
    refine hK _ _ _ _ (hK _ _ _ _ ⟨fun h => tail, fun h => ?_⟩)
    refine hK _ _ _ _ (hK _ _ _ _ (hK _ _ _ _ (hK _ _ _ _ (?_))))
    refine hK _ _ _ _ ⟨_, h_pI hct_X8_byteAt_0 rfl rfl rfl (show (2 : Nat) ≤ e + 5 by omega) (h_R (h_I trivial)) hM.1, rfl, fun v M2 g => ?_⟩
    obtain ⟨⟨y, rfl, -⟩, rfl⟩ := g
    refine hK _ _ _ _ (hK _ _ _ _ ⟨fun h => tail, fun h => ?_⟩)
    refine hK _ _ _ _ (hK _ _ _ _ (hK _ _ _ _ (hK _ _ _ _ (hK _ _ _ _ (hK _ _ _ _ (hK _ _ _ _ (?_)))))))
    refine hK _ _ _ _ ⟨_, h_pI hct_X8_byteAt_0 rfl rfl rfl (show (2 : Nat) ≤ e + 5 by omega) (h_R (h_I trivial)) hM.1, rfl, fun v M2 g => ?_⟩
    obtain ⟨⟨y, rfl, -⟩, rfl⟩ := g
    refine hK _ _ _ _ (hK _ _ _ _ (hK _ _ _ _ (hK _ _ _ _ (hK _ _ _ _ (hK _ _ _ _ (hK _ _ _ _ (hK _ _ _ _ (hK _ _ _ _ (hK _ _ _ _ (hK _ _ _ _ (?_)))))))))))
    have hM3 : z_M (zTb, [(3, 1, 2), (3, 5, 5)], []) M [] (a_pI M1 3 0 1 (M1.1 3 0 1 + 1)) := h_Mp hM (by decide) (z_i_top _)
    refine ih _ ?_ _ _ rfl hM3
    rw [h_pIs]
    exact v_up hm h1
  refine hK _ _ _ _ ?_
  refine hK _ _ _ _ ⟨_, h_pW hct_X5_hasMore rfl rfl (show (4 : Nat) ≤ e + 5 by omega) (h_R trivial) hT, rfl, fun v M2 g => ?_⟩
  obtain ⟨g1, g2⟩ := g
  obtain ⟨y, rfl, -⟩ := h_ovI g1
  have hM2 : z_M (zTb, [(3, 1, 2), (3, 5, 5)], []) M [] M2 := h_Mt (h_M0 hT) g2 (by decide)
  refine hK _ _ _ _ (hK _ _ _ _ (hK _ _ _ _ (hK _ _ _ _ (hK _ _ _ _ (?_)))))
  have hM3 : z_M (zTb, [(3, 1, 2), (3, 5, 5)], []) M [] (a_pI M2 3 0 2 (M2.1 3 0 1)) := h_Mp hM2 (by decide) (z_i_top _)
  refine hK _ _ _ _ (hK _ _ _ _ (?_))
  exact lp _ _ _ rfl hM3
def ct_X5_number_0_9 : zCt := (102, [.inr (.inr (3, 0)), .inl (2147483648, 2147483648), .inl (2147483657, 2147483657)], [], [(3, 1, 2), (3, 5, 5)], [.inl (some (.inl (2147483647, 2147483647)), []), .inl (some (.inl (2147483648, 2147483657)), [])], 6)
set_option maxRecDepth 10000 in
theorem hct_X5_number_0_9 : z_ctH zTb ct_X5_number_0_9 := by
  intro nS d as M hd hS hT hG
  obtain ⟨e, rfl⟩ := h_rk hd
  obtain ⟨xl, xh, rfl, hl, hh⟩ := h_S3 (by decide) hS
  show aC nS (e + 5 + 1) 102 _ M _ _
  refine aC_mk rfl rfl ?_
  intro K hK hF
  have lp : ∀ (n : Nat) (M1 : aM) (x3 : Int32), 4294967296 - z_b (M1.1 3 0 1) = n → z_M (zTb, [(3, 1, 2), (3, 5, 5)], []) M [] M1 → K 15 [some (vR 3 0), some (vI xl), some (vI xh), some (vI x3), none] [] M1 := by
    intro n
    induction n using Nat.strongRecOn with
    | ind n ih =>
    intro M1 x3 hm hM
    have tail : K 94 [some (vR 3 0), some (vI xl), some (vI xh), some (vI x3), none] [] M1 := by
      have bad : ∀ x4, K 127 [some (vR 3 0), some (vI xl), some (vI xh), some (vI x3), some (vI x4)] [] M1 := by
        intro x4
        refine hK _ _ _ _ (hK _ _ _ _ (hK _ _ _ _ (?_)))
        refine hK _ _ _ _ ⟨_, h_pW hct_X5_refuse_0 rfl rfl (show (2 : Nat) ≤ e + 5 by omega) (h_R (h_I trivial)) hM.1, rfl, fun v M2 g => ?_⟩
        obtain ⟨g1, g2⟩ := g
        obtain ⟨y, rfl, -⟩ := h_ovI g1
        exact hK _ _ _ _ (hK _ _ _ _ (hK _ _ _ _ ⟨_, _, List.mem_cons_self, ⟨Nat.le_of_eq z_b_m1.symm, Nat.le_of_eq z_b_m1⟩, h_Mt hM g2 (by decide)⟩))
      refine hK _ _ _ _ (hK _ _ _ _ (hK _ _ _ _ (hK _ _ _ _ (hK _ _ _ _ (hK _ _ _ _ (?_))))))
      refine hK _ _ _ _ (hK _ _ _ _ (?_))
      refine hK _ _ _ _ ⟨fun h => bad _, fun h => ?_⟩
      refine hK _ _ _ _ (hK _ _ _ _ (?_))
      refine hK _ _ _ _ ⟨fun h => bad _, fun h => ?_⟩
      refine hK _ _ _ _ (hK _ _ _ _ (?_))
      refine hK _ _ _ _ ⟨fun h => bad _, fun h3 => ?_⟩
      refine hK _ _ _ _ (hK _ _ _ _ (?_))
      refine hK _ _ _ _ ⟨fun h4 => ?_, fun h => bad _⟩
      refine hK _ _ _ _ (hK _ _ _ _ ⟨_, _, List.mem_cons_of_mem _ (List.mem_singleton.mpr rfl), ⟨?_, ?_⟩, hM⟩)
      · exact Nat.le_trans hl.1 (z_b_le.mp (Int32.not_lt.mp h3))
      · exact Nat.le_trans (z_b_le.mp h4) hh.2
    refine hK _ _ _ _ (hK _ _ _ _ (hK _ _ _ _ (hK _ _ _ _ (?_))))
    refine hK _ _ _ _ ⟨_, hx_size, rfl, fun v M2 g => ?_⟩
    obtain ⟨rfl, rfl⟩ := g
    refine hK _ _ _ _ ⟨fun h => tail, fun h1 => ?_⟩
    refine hK _ _ _ _ (hK _ _ _ _ (hK _ _ _ _ (hK _ _ _ _ (?_))))
    refine hK _ _ _ _ ⟨_, h_pI hct_X8_byteAt_0 rfl rfl rfl (show (2 : Nat) ≤ e + 5 by omega) (h_R (h_I trivial)) hM.1, rfl, fun v M2 g => ?_⟩
    obtain ⟨⟨y, rfl, -⟩, rfl⟩ := g
    refine hK _ _ _ _ (hK _ _ _ _ ⟨fun h => tail, fun h => ?_⟩)
    refine hK _ _ _ _ (hK _ _ _ _ (hK _ _ _ _ (hK _ _ _ _ (?_))))
    refine hK _ _ _ _ ⟨_, h_pI hct_X8_byteAt_0 rfl rfl rfl (show (2 : Nat) ≤ e + 5 by omega) (h_R (h_I trivial)) hM.1, rfl, fun v M2 g => ?_⟩
    obtain ⟨⟨y, rfl, -⟩, rfl⟩ := g
    refine hK _ _ _ _ (hK _ _ _ _ ⟨fun h => tail, fun h => ?_⟩)
    refine hK _ _ _ _ (hK _ _ _ _ (hK _ _ _ _ (hK _ _ _ _ (hK _ _ _ _ (hK _ _ _ _ (hK _ _ _ _ (?_)))))))
    refine hK _ _ _ _ ⟨_, h_pI hct_X8_byteAt_0 rfl rfl rfl (show (2 : Nat) ≤ e + 5 by omega) (h_R (h_I trivial)) hM.1, rfl, fun v M2 g => ?_⟩
    obtain ⟨⟨y, rfl, -⟩, rfl⟩ := g
    refine hK _ _ _ _ (hK _ _ _ _ (hK _ _ _ _ (hK _ _ _ _ (hK _ _ _ _ (hK _ _ _ _ (hK _ _ _ _ (hK _ _ _ _ (hK _ _ _ _ (hK _ _ _ _ (hK _ _ _ _ (?_)))))))))))
    have hM3 : z_M (zTb, [(3, 1, 2), (3, 5, 5)], []) M [] (a_pI M1 3 0 1 (M1.1 3 0 1 + 1)) := h_Mp hM (by decide) (z_i_top _)
    refine ih _ ?_ _ _ rfl hM3
    rw [h_pIs]
    exact v_up hm h1
  refine hK _ _ _ _ ?_
  refine hK _ _ _ _ ⟨_, h_pW hct_X5_hasMore rfl rfl (show (4 : Nat) ≤ e + 5 by omega) (h_R trivial) hT, rfl, fun v M2 g => ?_⟩
  obtain ⟨g1, g2⟩ := g
  obtain ⟨y, rfl, -⟩ := h_ovI g1
  have hM2 : z_M (zTb, [(3, 1, 2), (3, 5, 5)], []) M [] M2 := h_Mt (h_M0 hT) g2 (by decide)
  refine hK _ _ _ _ (hK _ _ _ _ (hK _ _ _ _ (hK _ _ _ _ (hK _ _ _ _ (?_)))))
  have hM3 : z_M (zTb, [(3, 1, 2), (3, 5, 5)], []) M [] (a_pI M2 3 0 2 (M2.1 3 0 1)) := h_Mp hM2 (by decide) (z_i_top _)
  refine hK _ _ _ _ (hK _ _ _ _ (?_))
  exact lp _ _ _ rfl hM3
def ct_X5_number_1_9 : zCt := (102, [.inr (.inr (3, 0)), .inl (2147483649, 2147483649), .inl (2147483657, 2147483657)], [], [(3, 1, 2), (3, 5, 5)], [.inl (some (.inl (2147483647, 2147483647)), []), .inl (some (.inl (2147483649, 2147483657)), [])], 6)
set_option maxRecDepth 10000 in
theorem hct_X5_number_1_9 : z_ctH zTb ct_X5_number_1_9 := by
  intro nS d as M hd hS hT hG
  obtain ⟨e, rfl⟩ := h_rk hd
  obtain ⟨xl, xh, rfl, hl, hh⟩ := h_S3 (by decide) hS
  show aC nS (e + 5 + 1) 102 _ M _ _
  refine aC_mk rfl rfl ?_
  intro K hK hF
  have lp : ∀ (n : Nat) (M1 : aM) (x3 : Int32), 4294967296 - z_b (M1.1 3 0 1) = n → z_M (zTb, [(3, 1, 2), (3, 5, 5)], []) M [] M1 → K 15 [some (vR 3 0), some (vI xl), some (vI xh), some (vI x3), none] [] M1 := by
    intro n
    induction n using Nat.strongRecOn with
    | ind n ih =>
    intro M1 x3 hm hM
    have tail : K 94 [some (vR 3 0), some (vI xl), some (vI xh), some (vI x3), none] [] M1 := by
      have bad : ∀ x4, K 127 [some (vR 3 0), some (vI xl), some (vI xh), some (vI x3), some (vI x4)] [] M1 := by
        intro x4
        refine hK _ _ _ _ (hK _ _ _ _ (hK _ _ _ _ (?_)))
        refine hK _ _ _ _ ⟨_, h_pW hct_X5_refuse_0 rfl rfl (show (2 : Nat) ≤ e + 5 by omega) (h_R (h_I trivial)) hM.1, rfl, fun v M2 g => ?_⟩
        obtain ⟨g1, g2⟩ := g
        obtain ⟨y, rfl, -⟩ := h_ovI g1
        exact hK _ _ _ _ (hK _ _ _ _ (hK _ _ _ _ ⟨_, _, List.mem_cons_self, ⟨Nat.le_of_eq z_b_m1.symm, Nat.le_of_eq z_b_m1⟩, h_Mt hM g2 (by decide)⟩))
      refine hK _ _ _ _ (hK _ _ _ _ (hK _ _ _ _ (hK _ _ _ _ (hK _ _ _ _ (hK _ _ _ _ (?_))))))
      refine hK _ _ _ _ (hK _ _ _ _ (?_))
      refine hK _ _ _ _ ⟨fun h => bad _, fun h => ?_⟩
      refine hK _ _ _ _ (hK _ _ _ _ (?_))
      refine hK _ _ _ _ ⟨fun h => bad _, fun h => ?_⟩
      refine hK _ _ _ _ (hK _ _ _ _ (?_))
      refine hK _ _ _ _ ⟨fun h => bad _, fun h3 => ?_⟩
      refine hK _ _ _ _ (hK _ _ _ _ (?_))
      refine hK _ _ _ _ ⟨fun h4 => ?_, fun h => bad _⟩
      refine hK _ _ _ _ (hK _ _ _ _ ⟨_, _, List.mem_cons_of_mem _ (List.mem_singleton.mpr rfl), ⟨?_, ?_⟩, hM⟩)
      · exact Nat.le_trans hl.1 (z_b_le.mp (Int32.not_lt.mp h3))
      · exact Nat.le_trans (z_b_le.mp h4) hh.2
    refine hK _ _ _ _ (hK _ _ _ _ (hK _ _ _ _ (hK _ _ _ _ (?_))))
    refine hK _ _ _ _ ⟨_, hx_size, rfl, fun v M2 g => ?_⟩
    obtain ⟨rfl, rfl⟩ := g
    refine hK _ _ _ _ ⟨fun h => tail, fun h1 => ?_⟩
    refine hK _ _ _ _ (hK _ _ _ _ (hK _ _ _ _ (hK _ _ _ _ (?_))))
    refine hK _ _ _ _ ⟨_, h_pI hct_X8_byteAt_0 rfl rfl rfl (show (2 : Nat) ≤ e + 5 by omega) (h_R (h_I trivial)) hM.1, rfl, fun v M2 g => ?_⟩
    obtain ⟨⟨y, rfl, -⟩, rfl⟩ := g
    refine hK _ _ _ _ (hK _ _ _ _ ⟨fun h => tail, fun h => ?_⟩)
    refine hK _ _ _ _ (hK _ _ _ _ (hK _ _ _ _ (hK _ _ _ _ (?_))))
    refine hK _ _ _ _ ⟨_, h_pI hct_X8_byteAt_0 rfl rfl rfl (show (2 : Nat) ≤ e + 5 by omega) (h_R (h_I trivial)) hM.1, rfl, fun v M2 g => ?_⟩
    obtain ⟨⟨y, rfl, -⟩, rfl⟩ := g
    refine hK _ _ _ _ (hK _ _ _ _ ⟨fun h => tail, fun h => ?_⟩)
    refine hK _ _ _ _ (hK _ _ _ _ (hK _ _ _ _ (hK _ _ _ _ (hK _ _ _ _ (hK _ _ _ _ (hK _ _ _ _ (?_)))))))
    refine hK _ _ _ _ ⟨_, h_pI hct_X8_byteAt_0 rfl rfl rfl (show (2 : Nat) ≤ e + 5 by omega) (h_R (h_I trivial)) hM.1, rfl, fun v M2 g => ?_⟩
    obtain ⟨⟨y, rfl, -⟩, rfl⟩ := g
    refine hK _ _ _ _ (hK _ _ _ _ (hK _ _ _ _ (hK _ _ _ _ (hK _ _ _ _ (hK _ _ _ _ (hK _ _ _ _ (hK _ _ _ _ (hK _ _ _ _ (hK _ _ _ _ (hK _ _ _ _ (?_)))))))))))
    have hM3 : z_M (zTb, [(3, 1, 2), (3, 5, 5)], []) M [] (a_pI M1 3 0 1 (M1.1 3 0 1 + 1)) := h_Mp hM (by decide) (z_i_top _)
    refine ih _ ?_ _ _ rfl hM3
    rw [h_pIs]
    exact v_up hm h1
  refine hK _ _ _ _ ?_
  refine hK _ _ _ _ ⟨_, h_pW hct_X5_hasMore rfl rfl (show (4 : Nat) ≤ e + 5 by omega) (h_R trivial) hT, rfl, fun v M2 g => ?_⟩
  obtain ⟨g1, g2⟩ := g
  obtain ⟨y, rfl, -⟩ := h_ovI g1
  have hM2 : z_M (zTb, [(3, 1, 2), (3, 5, 5)], []) M [] M2 := h_Mt (h_M0 hT) g2 (by decide)
  refine hK _ _ _ _ (hK _ _ _ _ (hK _ _ _ _ (hK _ _ _ _ (hK _ _ _ _ (?_)))))
  have hM3 : z_M (zTb, [(3, 1, 2), (3, 5, 5)], []) M [] (a_pI M2 3 0 2 (M2.1 3 0 1)) := h_Mp hM2 (by decide) (z_i_top _)
  refine hK _ _ _ _ (hK _ _ _ _ (?_))
  exact lp _ _ _ rfl hM3
def ct_X5_number_t : zCt := (102, [.inr (.inr (3, 0)), .inl (2147483648, 2147483648), .inl (2147483649, 2147483655)], [], [(3, 1, 2), (3, 5, 5)], [.inl (some (.inl (2147483647, 2147483647)), []), .inl (some (.inl (2147483648, 2147483655)), [])], 6)
set_option maxRecDepth 10000 in
theorem hct_X5_number_t : z_ctH zTb ct_X5_number_t := by
  intro nS d as M hd hS hT hG
  obtain ⟨e, rfl⟩ := h_rk hd
  obtain ⟨xl, xh, rfl, hl, hh⟩ := h_S3 (by decide) hS
  show aC nS (e + 5 + 1) 102 _ M _ _
  refine aC_mk rfl rfl ?_
  intro K hK hF
  have lp : ∀ (n : Nat) (M1 : aM) (x3 : Int32), 4294967296 - z_b (M1.1 3 0 1) = n → z_M (zTb, [(3, 1, 2), (3, 5, 5)], []) M [] M1 → K 15 [some (vR 3 0), some (vI xl), some (vI xh), some (vI x3), none] [] M1 := by
    intro n
    induction n using Nat.strongRecOn with
    | ind n ih =>
    intro M1 x3 hm hM
    have tail : K 94 [some (vR 3 0), some (vI xl), some (vI xh), some (vI x3), none] [] M1 := by
      have bad : ∀ x4, K 127 [some (vR 3 0), some (vI xl), some (vI xh), some (vI x3), some (vI x4)] [] M1 := by
        intro x4
        refine hK _ _ _ _ (hK _ _ _ _ (hK _ _ _ _ (?_)))
        refine hK _ _ _ _ ⟨_, h_pW hct_X5_refuse_0 rfl rfl (show (2 : Nat) ≤ e + 5 by omega) (h_R (h_I trivial)) hM.1, rfl, fun v M2 g => ?_⟩
        obtain ⟨g1, g2⟩ := g
        obtain ⟨y, rfl, -⟩ := h_ovI g1
        exact hK _ _ _ _ (hK _ _ _ _ (hK _ _ _ _ ⟨_, _, List.mem_cons_self, ⟨Nat.le_of_eq z_b_m1.symm, Nat.le_of_eq z_b_m1⟩, h_Mt hM g2 (by decide)⟩))
      refine hK _ _ _ _ (hK _ _ _ _ (hK _ _ _ _ (hK _ _ _ _ (hK _ _ _ _ (hK _ _ _ _ (?_))))))
      refine hK _ _ _ _ (hK _ _ _ _ (?_))
      refine hK _ _ _ _ ⟨fun h => bad _, fun h => ?_⟩
      refine hK _ _ _ _ (hK _ _ _ _ (?_))
      refine hK _ _ _ _ ⟨fun h => bad _, fun h => ?_⟩
      refine hK _ _ _ _ (hK _ _ _ _ (?_))
      refine hK _ _ _ _ ⟨fun h => bad _, fun h3 => ?_⟩
      refine hK _ _ _ _ (hK _ _ _ _ (?_))
      refine hK _ _ _ _ ⟨fun h4 => ?_, fun h => bad _⟩
      refine hK _ _ _ _ (hK _ _ _ _ ⟨_, _, List.mem_cons_of_mem _ (List.mem_singleton.mpr rfl), ⟨?_, ?_⟩, hM⟩)
      · exact Nat.le_trans hl.1 (z_b_le.mp (Int32.not_lt.mp h3))
      · exact Nat.le_trans (z_b_le.mp h4) hh.2
    refine hK _ _ _ _ (hK _ _ _ _ (hK _ _ _ _ (hK _ _ _ _ (?_))))
    refine hK _ _ _ _ ⟨_, hx_size, rfl, fun v M2 g => ?_⟩
    obtain ⟨rfl, rfl⟩ := g
    refine hK _ _ _ _ ⟨fun h => tail, fun h1 => ?_⟩
    refine hK _ _ _ _ (hK _ _ _ _ (hK _ _ _ _ (hK _ _ _ _ (?_))))
    refine hK _ _ _ _ ⟨_, h_pI hct_X8_byteAt_0 rfl rfl rfl (show (2 : Nat) ≤ e + 5 by omega) (h_R (h_I trivial)) hM.1, rfl, fun v M2 g => ?_⟩
    obtain ⟨⟨y, rfl, -⟩, rfl⟩ := g
    refine hK _ _ _ _ (hK _ _ _ _ ⟨fun h => tail, fun h => ?_⟩)
    refine hK _ _ _ _ (hK _ _ _ _ (hK _ _ _ _ (hK _ _ _ _ (?_))))
    refine hK _ _ _ _ ⟨_, h_pI hct_X8_byteAt_0 rfl rfl rfl (show (2 : Nat) ≤ e + 5 by omega) (h_R (h_I trivial)) hM.1, rfl, fun v M2 g => ?_⟩
    obtain ⟨⟨y, rfl, -⟩, rfl⟩ := g
    refine hK _ _ _ _ (hK _ _ _ _ ⟨fun h => tail, fun h => ?_⟩)
    refine hK _ _ _ _ (hK _ _ _ _ (hK _ _ _ _ (hK _ _ _ _ (hK _ _ _ _ (hK _ _ _ _ (hK _ _ _ _ (?_)))))))
    refine hK _ _ _ _ ⟨_, h_pI hct_X8_byteAt_0 rfl rfl rfl (show (2 : Nat) ≤ e + 5 by omega) (h_R (h_I trivial)) hM.1, rfl, fun v M2 g => ?_⟩
    obtain ⟨⟨y, rfl, -⟩, rfl⟩ := g
    refine hK _ _ _ _ (hK _ _ _ _ (hK _ _ _ _ (hK _ _ _ _ (hK _ _ _ _ (hK _ _ _ _ (hK _ _ _ _ (hK _ _ _ _ (hK _ _ _ _ (hK _ _ _ _ (hK _ _ _ _ (?_)))))))))))
    have hM3 : z_M (zTb, [(3, 1, 2), (3, 5, 5)], []) M [] (a_pI M1 3 0 1 (M1.1 3 0 1 + 1)) := h_Mp hM (by decide) (z_i_top _)
    refine ih _ ?_ _ _ rfl hM3
    rw [h_pIs]
    exact v_up hm h1
  refine hK _ _ _ _ ?_
  refine hK _ _ _ _ ⟨_, h_pW hct_X5_hasMore rfl rfl (show (4 : Nat) ≤ e + 5 by omega) (h_R trivial) hT, rfl, fun v M2 g => ?_⟩
  obtain ⟨g1, g2⟩ := g
  obtain ⟨y, rfl, -⟩ := h_ovI g1
  have hM2 : z_M (zTb, [(3, 1, 2), (3, 5, 5)], []) M [] M2 := h_Mt (h_M0 hT) g2 (by decide)
  refine hK _ _ _ _ (hK _ _ _ _ (hK _ _ _ _ (hK _ _ _ _ (hK _ _ _ _ (?_)))))
  have hM3 : z_M (zTb, [(3, 1, 2), (3, 5, 5)], []) M [] (a_pI M2 3 0 2 (M2.1 3 0 1)) := h_Mp hM2 (by decide) (z_i_top _)
  refine hK _ _ _ _ (hK _ _ _ _ (?_))
  exact lp _ _ _ rfl hM3
def ct_X5_refuseNext_0 : zCt := (96, [.inr (.inr (3, 0))], [], [(3, 1, 1), (3, 5, 5)], [.inl (some (.inl (2147483648, 2147483648)), [])], 6)
theorem hct_X5_refuseNext_0 : z_ctH zTb ct_X5_refuseNext_0 := z_ct_ok [] z_hds_ok [ct_X5_refuse_0, ct_X5_hasMore] [] 4 2 (List.forall_mem_cons.mpr ⟨hct_X5_refuse_0, List.forall_mem_cons.mpr ⟨hct_X5_hasMore, fun _ h => absurd h List.not_mem_nil⟩⟩) (by decide +kernel)
def ct_X5_isEnded_0 : zCt := (98, [.inr (.inr (3, 0))], [], [(3, 1, 1), (3, 5, 5)], [.inl (some (.inl (2147483648, 2147483649)), [])], 6)
theorem hct_X5_isEnded_0 : z_ctH zTb ct_X5_isEnded_0 := z_ct_ok [] z_hds_ok [ct_X5_refuse_0, ct_X5_hasMore] [] 4 2 (List.forall_mem_cons.mpr ⟨hct_X5_refuse_0, List.forall_mem_cons.mpr ⟨hct_X5_hasMore, fun _ h => absurd h List.not_mem_nil⟩⟩) (by decide +kernel)
def ct_X5_passSemicolon_0 : zCt := (99, [.inr (.inr (3, 0))], [], [(3, 1, 1)], [.inl (some (.inl (2147483648, 2147483649)), [])], 6)
theorem hct_X5_passSemicolon_0 : z_ctH zTb ct_X5_passSemicolon_0 := z_ct_ok [] z_hds_ok [ct_X8_byteAt_0, ct_X5_hasMore] [] 4 2 (List.forall_mem_cons.mpr ⟨hct_X8_byteAt_0, List.forall_mem_cons.mpr ⟨hct_X5_hasMore, fun _ h => absurd h List.not_mem_nil⟩⟩) (by decide +kernel)
def ct_X5_isWord_100 : zCt := (101, [.inr (.inr (3, 0)), .inr (.inr (100, 0))], [], [], [.inl (some (.inl (2147483648, 2147483649)), [])], 8)
theorem hct_X5_isWord_100 : z_ctH zTb ct_X5_isWord_100 := z_ct_ok [] z_hds_ok [ct_X8_byteAt_0] [] 6 2 (List.forall_mem_cons.mpr ⟨hct_X8_byteAt_0, fun _ h => absurd h List.not_mem_nil⟩) (by decide +kernel)
def ct_X5_isWord_101 : zCt := (101, [.inr (.inr (3, 0)), .inr (.inr (101, 0))], [], [], [.inl (some (.inl (2147483648, 2147483649)), [])], 8)
theorem hct_X5_isWord_101 : z_ctH zTb ct_X5_isWord_101 := z_ct_ok [] z_hds_ok [ct_X8_byteAt_0] [] 6 2 (List.forall_mem_cons.mpr ⟨hct_X8_byteAt_0, fun _ h => absurd h List.not_mem_nil⟩) (by decide +kernel)
def ct_X5_isWord_102 : zCt := (101, [.inr (.inr (3, 0)), .inr (.inr (102, 0))], [], [], [.inl (some (.inl (2147483648, 2147483649)), [])], 8)
theorem hct_X5_isWord_102 : z_ctH zTb ct_X5_isWord_102 := z_ct_ok [] z_hds_ok [ct_X8_byteAt_0] [] 6 2 (List.forall_mem_cons.mpr ⟨hct_X8_byteAt_0, fun _ h => absurd h List.not_mem_nil⟩) (by decide +kernel)
def ct_X5_isWord_103 : zCt := (101, [.inr (.inr (3, 0)), .inr (.inr (103, 0))], [], [], [.inl (some (.inl (2147483648, 2147483649)), [])], 8)
theorem hct_X5_isWord_103 : z_ctH zTb ct_X5_isWord_103 := z_ct_ok [] z_hds_ok [ct_X8_byteAt_0] [] 6 2 (List.forall_mem_cons.mpr ⟨hct_X8_byteAt_0, fun _ h => absurd h List.not_mem_nil⟩) (by decide +kernel)
def ct_X5_isWord_104 : zCt := (101, [.inr (.inr (3, 0)), .inr (.inr (104, 0))], [], [], [.inl (some (.inl (2147483648, 2147483649)), [])], 8)
theorem hct_X5_isWord_104 : z_ctH zTb ct_X5_isWord_104 := z_ct_ok [] z_hds_ok [ct_X8_byteAt_0] [] 6 2 (List.forall_mem_cons.mpr ⟨hct_X8_byteAt_0, fun _ h => absurd h List.not_mem_nil⟩) (by decide +kernel)
def ct_X5_isWord_105 : zCt := (101, [.inr (.inr (3, 0)), .inr (.inr (105, 0))], [], [], [.inl (some (.inl (2147483648, 2147483649)), [])], 8)
theorem hct_X5_isWord_105 : z_ctH zTb ct_X5_isWord_105 := z_ct_ok [] z_hds_ok [ct_X8_byteAt_0] [] 6 2 (List.forall_mem_cons.mpr ⟨hct_X8_byteAt_0, fun _ h => absurd h List.not_mem_nil⟩) (by decide +kernel)
def ct_X5_isWord_106 : zCt := (101, [.inr (.inr (3, 0)), .inr (.inr (106, 0))], [], [], [.inl (some (.inl (2147483648, 2147483649)), [])], 8)
theorem hct_X5_isWord_106 : z_ctH zTb ct_X5_isWord_106 := z_ct_ok [] z_hds_ok [ct_X8_byteAt_0] [] 6 2 (List.forall_mem_cons.mpr ⟨hct_X8_byteAt_0, fun _ h => absurd h List.not_mem_nil⟩) (by decide +kernel)
def ct_X5_isWord_107 : zCt := (101, [.inr (.inr (3, 0)), .inr (.inr (107, 0))], [], [], [.inl (some (.inl (2147483648, 2147483649)), [])], 8)
theorem hct_X5_isWord_107 : z_ctH zTb ct_X5_isWord_107 := z_ct_ok [] z_hds_ok [ct_X8_byteAt_0] [] 6 2 (List.forall_mem_cons.mpr ⟨hct_X8_byteAt_0, fun _ h => absurd h List.not_mem_nil⟩) (by decide +kernel)
def ct_X5_isWord_108 : zCt := (101, [.inr (.inr (3, 0)), .inr (.inr (108, 0))], [], [], [.inl (some (.inl (2147483648, 2147483649)), [])], 8)
theorem hct_X5_isWord_108 : z_ctH zTb ct_X5_isWord_108 := z_ct_ok [] z_hds_ok [ct_X8_byteAt_0] [] 6 2 (List.forall_mem_cons.mpr ⟨hct_X8_byteAt_0, fun _ h => absurd h List.not_mem_nil⟩) (by decide +kernel)
def ct_X5_isWord_109 : zCt := (101, [.inr (.inr (3, 0)), .inr (.inr (109, 0))], [], [], [.inl (some (.inl (2147483648, 2147483649)), [])], 8)
theorem hct_X5_isWord_109 : z_ctH zTb ct_X5_isWord_109 := z_ct_ok [] z_hds_ok [ct_X8_byteAt_0] [] 6 2 (List.forall_mem_cons.mpr ⟨hct_X8_byteAt_0, fun _ h => absurd h List.not_mem_nil⟩) (by decide +kernel)
def ct_X5_isWord_110 : zCt := (101, [.inr (.inr (3, 0)), .inr (.inr (110, 0))], [], [], [.inl (some (.inl (2147483648, 2147483649)), [])], 8)
theorem hct_X5_isWord_110 : z_ctH zTb ct_X5_isWord_110 := z_ct_ok [] z_hds_ok [ct_X8_byteAt_0] [] 6 2 (List.forall_mem_cons.mpr ⟨hct_X8_byteAt_0, fun _ h => absurd h List.not_mem_nil⟩) (by decide +kernel)
def ct_X5_isWord_111 : zCt := (101, [.inr (.inr (3, 0)), .inr (.inr (111, 0))], [], [], [.inl (some (.inl (2147483648, 2147483649)), [])], 8)
theorem hct_X5_isWord_111 : z_ctH zTb ct_X5_isWord_111 := z_ct_ok [] z_hds_ok [ct_X8_byteAt_0] [] 6 2 (List.forall_mem_cons.mpr ⟨hct_X8_byteAt_0, fun _ h => absurd h List.not_mem_nil⟩) (by decide +kernel)
def ct_X5_passTwo_0_3_2_8 : zCt := (103, [.inr (.inr (3, 0)), .inl (2147483648, 2147483648), .inl (2147483651, 2147483651), .inl (2147483650, 2147483650), .inl (2147483656, 2147483656)], [], [(3, 1, 5)], [.inl (some (.inl (2147483649, 2147483649)), [(49156, (2147483650, 2147483656)), (49155, (2147483648, 2147483651))]), .inl (some (.inl (2147483648, 2147483648)), [(49156, (2147483647, 2147483647)), (49155, (2147483647, 2147483651))])], 8)
theorem hct_X5_passTwo_0_3_2_8 : z_ctH zTb ct_X5_passTwo_0_3_2_8 := z_ct_ok [(3, 3, 4)] z_hds_ok [ct_X5_number_0_3, ct_X5_number_2_8] [] 6 2 (List.forall_mem_cons.mpr ⟨hct_X5_number_0_3, List.forall_mem_cons.mpr ⟨hct_X5_number_2_8, fun _ h => absurd h List.not_mem_nil⟩⟩) (by decide +kernel)
def ct_X5_passTwo_1_3_1_3 : zCt := (103, [.inr (.inr (3, 0)), .inl (2147483649, 2147483649), .inl (2147483651, 2147483651), .inl (2147483649, 2147483649), .inl (2147483651, 2147483651)], [], [(3, 1, 5)], [.inl (some (.inl (2147483649, 2147483649)), [(49156, (2147483649, 2147483651)), (49155, (2147483649, 2147483651))]), .inl (some (.inl (2147483648, 2147483648)), [(49156, (2147483647, 2147483647)), (49155, (2147483647, 2147483651))])], 8)
theorem hct_X5_passTwo_1_3_1_3 : z_ctH zTb ct_X5_passTwo_1_3_1_3 := z_ct_ok [(3, 3, 4)] z_hds_ok [ct_X5_number_1_3] [] 6 2 (List.forall_mem_cons.mpr ⟨hct_X5_number_1_3, fun _ h => absurd h List.not_mem_nil⟩) (by decide +kernel)
def ct_X5_passTwo_0_3_0_3 : zCt := (103, [.inr (.inr (3, 0)), .inl (2147483648, 2147483648), .inl (2147483651, 2147483651), .inl (2147483648, 2147483648), .inl (2147483651, 2147483651)], [], [(3, 1, 5)], [.inl (some (.inl (2147483649, 2147483649)), [(49156, (2147483648, 2147483651)), (49155, (2147483648, 2147483651))]), .inl (some (.inl (2147483648, 2147483648)), [(49156, (2147483647, 2147483647)), (49155, (2147483647, 2147483651))])], 8)
theorem hct_X5_passTwo_0_3_0_3 : z_ctH zTb ct_X5_passTwo_0_3_0_3 := z_ct_ok [(3, 3, 4)] z_hds_ok [ct_X5_number_0_3] [] 6 2 (List.forall_mem_cons.mpr ⟨hct_X5_number_0_3, fun _ h => absurd h List.not_mem_nil⟩) (by decide +kernel)
def ct_X5_passTwo_w : zCt := (103, [.inr (.inr (3, 0)), .inl (2147483648, 2147483648), .inl (2147483649, 2147483655), .inl (2147483648, 2147483648), .inl (2147483657, 2147483657)], [], [(3, 1, 5)], [.inl (some (.inl (2147483649, 2147483649)), [(49156, (2147483648, 2147483657)), (49155, (2147483648, 2147483655))]), .inl (some (.inl (2147483648, 2147483648)), [(49156, (2147483647, 2147483647)), (49155, (2147483647, 2147483655))])], 8)
theorem hct_X5_passTwo_w : z_ctH zTb ct_X5_passTwo_w := z_ct_ok [(3, 3, 4)] z_hds_ok [ct_X5_number_0_9, ct_X5_number_t] [] 6 2 (List.forall_mem_cons.mpr ⟨hct_X5_number_0_9, List.forall_mem_cons.mpr ⟨hct_X5_number_t, fun _ h => absurd h List.not_mem_nil⟩⟩) (by decide +kernel)
def ct_X1_readGroup : zCt := (45, [.inr (.inr (16, 0))], [], [(3, 1, 5), (5, 0, 2), (6, 0, 63), (7, 0, 7), (8, 0, 7), (9, 0, 7), (10, 0, 7), (11, 0, 7), (12, 0, 31), (13, 0, 7)], [.inl (some (.inl (2147483648, 2147483649)), [(49156, (2147483647, 2147483656)), (49155, (2147483647, 2147483651))])], 10)
theorem hct_X1_readGroup : z_ctH zTb ct_X1_readGroup := z_ct_ok [(3, 3, 4)] z_hds_ok [ct_X2_become_1, ct_X2_exists_0, ct_X0_startGroup_1, ct_X0_group_1, ct_X5_refuseLatest_0, ct_X5_passTwo_0_3_2_8] [] 8 2 (List.forall_mem_cons.mpr ⟨hct_X2_become_1, List.forall_mem_cons.mpr ⟨hct_X2_exists_0, List.forall_mem_cons.mpr ⟨hct_X0_startGroup_1, List.forall_mem_cons.mpr ⟨hct_X0_group_1, List.forall_mem_cons.mpr ⟨hct_X5_refuseLatest_0, List.forall_mem_cons.mpr ⟨hct_X5_passTwo_0_3_2_8, fun _ h => absurd h List.not_mem_nil⟩⟩⟩⟩⟩⟩) (by decide +kernel)
def ct_X1_readSize : zCt := (46, [.inr (.inr (16, 0))], [], [(3, 1, 5), (4, 1, 3), (4, 5, 6), (12, 0, 31), (14, 0, 15)], [.inl (some (.inl (2147483648, 2147483649)), [(49156, (2147483647, 2147483651)), (49155, (2147483647, 2147483651))])], 10)
theorem hct_X1_readSize : z_ctH zTb ct_X1_readSize := z_ct_ok [(3, 3, 4)] z_hds_ok [ct_X0_shape_1, ct_X0_startPlaces_1, ct_X5_passTwo_1_3_1_3] [] 8 2 (List.forall_mem_cons.mpr ⟨hct_X0_shape_1, List.forall_mem_cons.mpr ⟨hct_X0_startPlaces_1, List.forall_mem_cons.mpr ⟨hct_X5_passTwo_1_3_1_3, fun _ h => absurd h List.not_mem_nil⟩⟩⟩) (by decide +kernel)
def ct_X1_readShape : zCt := (47, [.inr (.inr (16, 0))], [], [(3, 1, 2), (3, 5, 5), (4, 1, 3), (4, 5, 6), (12, 0, 31), (14, 0, 15)], [.inl (some (.inl (2147483648, 2147483649)), [])], 8)
theorem hct_X1_readShape : z_ctH zTb ct_X1_readShape := z_ct_ok [(3, 3, 4)] z_hds_ok [ct_X0_wide_1, ct_X0_high_1, ct_X0_startPlaces_1, ct_X5_number_0_2] [] 6 2 (List.forall_mem_cons.mpr ⟨hct_X0_wide_1, List.forall_mem_cons.mpr ⟨hct_X0_high_1, List.forall_mem_cons.mpr ⟨hct_X0_startPlaces_1, List.forall_mem_cons.mpr ⟨hct_X5_number_0_2, fun _ h => absurd h List.not_mem_nil⟩⟩⟩⟩) (by decide +kernel)
def ct_X1_readWeight : zCt := (48, [.inr (.inr (16, 0))], [], [(3, 1, 5), (13, 0, 7)], [.inl (some (.inl (2147483648, 2147483649)), [(49156, (2147483647, 2147483657)), (49155, (2147483647, 2147483655))])], 10)
theorem hct_X1_readWeight : z_ctH zTb ct_X1_readWeight := z_ct_ok [(3, 3, 4)] z_hds_ok [ct_X2_order_1, ct_X0_group_1, ct_X0_weighKin_1, ct_X5_passTwo_w] [] 8 2 (List.forall_mem_cons.mpr ⟨hct_X2_order_1, List.forall_mem_cons.mpr ⟨hct_X0_group_1, List.forall_mem_cons.mpr ⟨hct_X0_weighKin_1, List.forall_mem_cons.mpr ⟨hct_X5_passTwo_w, fun _ h => absurd h List.not_mem_nil⟩⟩⟩⟩) (by decide +kernel)
def ct_X1_readHole : zCt := (49, [.inr (.inr (16, 0))], [], [(3, 1, 5), (14, 0, 15)], [.inl (some (.inl (2147483648, 2147483649)), [(49156, (2147483647, 2147483651)), (49155, (2147483647, 2147483651))])], 10)
theorem hct_X1_readHole : z_ctH zTb ct_X1_readHole := z_ct_ok [(3, 3, 4)] z_hds_ok [ct_X0_makeHole_1, ct_X0_squareAt_1, ct_X5_refuseLatest_0, ct_X5_passTwo_0_3_0_3] [] 8 2 (List.forall_mem_cons.mpr ⟨hct_X0_makeHole_1, List.forall_mem_cons.mpr ⟨hct_X0_squareAt_1, List.forall_mem_cons.mpr ⟨hct_X5_refuseLatest_0, List.forall_mem_cons.mpr ⟨hct_X5_passTwo_0_3_0_3, fun _ h => absurd h List.not_mem_nil⟩⟩⟩⟩) (by decide +kernel)
def ct_X1_readLine : zCt := (50, [.inr (.inr (16, 0)), .inl (2147483648, 2147483649)], [], [(3, 1, 5), (12, 0, 31)], [.inl (some (.inl (2147483648, 2147483649)), [(49156, (2147483647, 2147483651)), (49155, (2147483647, 2147483651))])], 10)
theorem hct_X1_readLine : z_ctH zTb ct_X1_readLine := z_ct_ok [(3, 3, 4)] z_hds_ok [ct_X2_order_1, ct_X0_group_1, ct_X0_lineAt_1, ct_X0_putTurn_1, ct_X5_refuseLatest_0, ct_X5_number_t, ct_X5_passTwo_0_3_0_3] [] 8 2 (List.forall_mem_cons.mpr ⟨hct_X2_order_1, List.forall_mem_cons.mpr ⟨hct_X0_group_1, List.forall_mem_cons.mpr ⟨hct_X0_lineAt_1, List.forall_mem_cons.mpr ⟨hct_X0_putTurn_1, List.forall_mem_cons.mpr ⟨hct_X5_refuseLatest_0, List.forall_mem_cons.mpr ⟨hct_X5_number_t, List.forall_mem_cons.mpr ⟨hct_X5_passTwo_0_3_0_3, fun _ h => absurd h List.not_mem_nil⟩⟩⟩⟩⟩⟩⟩) (by decide +kernel)
def ct_X1_readPart : zCt := (44, [.inr (.inr (16, 0))], [], [(3, 1, 5), (4, 1, 3), (4, 5, 6), (5, 0, 2), (6, 0, 63), (7, 0, 7), (8, 0, 7), (9, 0, 7), (10, 0, 7), (11, 0, 7), (12, 0, 31), (13, 0, 7), (14, 0, 15)], [.inl (some (.inl (2147483648, 2147483649)), [])], 12)
theorem hct_X1_readPart : z_ctH zTb ct_X1_readPart := z_ct_ok [(3, 3, 4)] z_hds_ok [ct_X5_refuseLatest_0, ct_X5_passWord, ct_X5_isWord_100, ct_X5_isWord_101, ct_X5_isWord_102, ct_X5_isWord_103, ct_X5_isWord_104, ct_X5_isWord_105, ct_X5_isWord_106, ct_X1_readGroup, ct_X1_readSize, ct_X1_readShape, ct_X1_readWeight, ct_X1_readHole, ct_X1_readLine] [] 10 2 (List.forall_mem_cons.mpr ⟨hct_X5_refuseLatest_0, List.forall_mem_cons.mpr ⟨hct_X5_passWord, List.forall_mem_cons.mpr ⟨hct_X5_isWord_100, List.forall_mem_cons.mpr ⟨hct_X5_isWord_101, List.forall_mem_cons.mpr ⟨hct_X5_isWord_102, List.forall_mem_cons.mpr ⟨hct_X5_isWord_103, List.forall_mem_cons.mpr ⟨hct_X5_isWord_104, List.forall_mem_cons.mpr ⟨hct_X5_isWord_105, List.forall_mem_cons.mpr ⟨hct_X5_isWord_106, List.forall_mem_cons.mpr ⟨hct_X1_readGroup, List.forall_mem_cons.mpr ⟨hct_X1_readSize, List.forall_mem_cons.mpr ⟨hct_X1_readShape, List.forall_mem_cons.mpr ⟨hct_X1_readWeight, List.forall_mem_cons.mpr ⟨hct_X1_readHole, List.forall_mem_cons.mpr ⟨hct_X1_readLine, fun _ h => absurd h List.not_mem_nil⟩⟩⟩⟩⟩⟩⟩⟩⟩⟩⟩⟩⟩⟩⟩) (by decide +kernel)
def ct_X1_read : zCt := (43, [.inr (.inr (16, 0))], [], [(3, 1, 5), (4, 1, 3), (4, 5, 6), (5, 0, 2), (6, 0, 63), (7, 0, 7), (8, 0, 7), (9, 0, 7), (10, 0, 7), (11, 0, 7), (12, 0, 31), (13, 0, 7), (14, 0, 15)], [.inl (some (.inl (2147483648, 2147483649)), [])], 14)
theorem hct_X1_read : z_ctH zTb ct_X1_read := z_ct_ok [(3, 3, 4)] z_hds_ok [ct_X5_open_0, ct_X5_hasMore, ct_X5_refuseNext_0, ct_X5_isEnded_0, ct_X5_passSemicolon_0, ct_X1_readPart] [] 12 2 (List.forall_mem_cons.mpr ⟨hct_X5_open_0, List.forall_mem_cons.mpr ⟨hct_X5_hasMore, List.forall_mem_cons.mpr ⟨hct_X5_refuseNext_0, List.forall_mem_cons.mpr ⟨hct_X5_isEnded_0, List.forall_mem_cons.mpr ⟨hct_X5_passSemicolon_0, List.forall_mem_cons.mpr ⟨hct_X1_readPart, fun _ h => absurd h List.not_mem_nil⟩⟩⟩⟩⟩⟩) (by decide +kernel)
def ct_X5_number_w : zCt := (102, [.inr (.inr (3, 0)), .inl (2147483648, 2147483648), .inl (2147483649, 2147483651)], [], [(3, 1, 2), (3, 5, 5)], [.inl (some (.inl (2147483647, 2147483647)), []), .inl (some (.inl (2147483648, 2147483651)), [])], 6)
set_option maxRecDepth 10000 in
theorem hct_X5_number_w : z_ctH zTb ct_X5_number_w := by
  intro nS d as M hd hS hT hG
  obtain ⟨e, rfl⟩ := h_rk hd
  obtain ⟨xl, xh, rfl, hl, hh⟩ := h_S3 (by decide) hS
  show aC nS (e + 5 + 1) 102 _ M _ _
  refine aC_mk rfl rfl ?_
  intro K hK hF
  have lp : ∀ (n : Nat) (M1 : aM) (x3 : Int32), 4294967296 - z_b (M1.1 3 0 1) = n → z_M (zTb, [(3, 1, 2), (3, 5, 5)], []) M [] M1 → K 15 [some (vR 3 0), some (vI xl), some (vI xh), some (vI x3), none] [] M1 := by
    intro n
    induction n using Nat.strongRecOn with
    | ind n ih =>
    intro M1 x3 hm hM
    have tail : K 94 [some (vR 3 0), some (vI xl), some (vI xh), some (vI x3), none] [] M1 := by
      have bad : ∀ x4, K 127 [some (vR 3 0), some (vI xl), some (vI xh), some (vI x3), some (vI x4)] [] M1 := by
        intro x4
        refine hK _ _ _ _ (hK _ _ _ _ (hK _ _ _ _ (?_)))
        refine hK _ _ _ _ ⟨_, h_pW hct_X5_refuse_0 rfl rfl (show (2 : Nat) ≤ e + 5 by omega) (h_R (h_I trivial)) hM.1, rfl, fun v M2 g => ?_⟩
        obtain ⟨g1, g2⟩ := g
        obtain ⟨y, rfl, -⟩ := h_ovI g1
        exact hK _ _ _ _ (hK _ _ _ _ (hK _ _ _ _ ⟨_, _, List.mem_cons_self, ⟨Nat.le_of_eq z_b_m1.symm, Nat.le_of_eq z_b_m1⟩, h_Mt hM g2 (by decide)⟩))
      refine hK _ _ _ _ (hK _ _ _ _ (hK _ _ _ _ (hK _ _ _ _ (hK _ _ _ _ (hK _ _ _ _ (?_))))))
      refine hK _ _ _ _ (hK _ _ _ _ (?_))
      refine hK _ _ _ _ ⟨fun h => bad _, fun h => ?_⟩
      refine hK _ _ _ _ (hK _ _ _ _ (?_))
      refine hK _ _ _ _ ⟨fun h => bad _, fun h => ?_⟩
      refine hK _ _ _ _ (hK _ _ _ _ (?_))
      refine hK _ _ _ _ ⟨fun h => bad _, fun h3 => ?_⟩
      refine hK _ _ _ _ (hK _ _ _ _ (?_))
      refine hK _ _ _ _ ⟨fun h4 => ?_, fun h => bad _⟩
      refine hK _ _ _ _ (hK _ _ _ _ ⟨_, _, List.mem_cons_of_mem _ (List.mem_singleton.mpr rfl), ⟨?_, ?_⟩, hM⟩)
      · exact Nat.le_trans hl.1 (z_b_le.mp (Int32.not_lt.mp h3))
      · exact Nat.le_trans (z_b_le.mp h4) hh.2
    refine hK _ _ _ _ (hK _ _ _ _ (hK _ _ _ _ (hK _ _ _ _ (?_))))
    refine hK _ _ _ _ ⟨_, hx_size, rfl, fun v M2 g => ?_⟩
    obtain ⟨rfl, rfl⟩ := g
    refine hK _ _ _ _ ⟨fun h => tail, fun h1 => ?_⟩
    refine hK _ _ _ _ (hK _ _ _ _ (hK _ _ _ _ (hK _ _ _ _ (?_))))
    refine hK _ _ _ _ ⟨_, h_pI hct_X8_byteAt_0 rfl rfl rfl (show (2 : Nat) ≤ e + 5 by omega) (h_R (h_I trivial)) hM.1, rfl, fun v M2 g => ?_⟩
    obtain ⟨⟨y, rfl, -⟩, rfl⟩ := g
    refine hK _ _ _ _ (hK _ _ _ _ ⟨fun h => tail, fun h => ?_⟩)
    refine hK _ _ _ _ (hK _ _ _ _ (hK _ _ _ _ (hK _ _ _ _ (?_))))
    refine hK _ _ _ _ ⟨_, h_pI hct_X8_byteAt_0 rfl rfl rfl (show (2 : Nat) ≤ e + 5 by omega) (h_R (h_I trivial)) hM.1, rfl, fun v M2 g => ?_⟩
    obtain ⟨⟨y, rfl, -⟩, rfl⟩ := g
    refine hK _ _ _ _ (hK _ _ _ _ ⟨fun h => tail, fun h => ?_⟩)
    refine hK _ _ _ _ (hK _ _ _ _ (hK _ _ _ _ (hK _ _ _ _ (hK _ _ _ _ (hK _ _ _ _ (hK _ _ _ _ (?_)))))))
    refine hK _ _ _ _ ⟨_, h_pI hct_X8_byteAt_0 rfl rfl rfl (show (2 : Nat) ≤ e + 5 by omega) (h_R (h_I trivial)) hM.1, rfl, fun v M2 g => ?_⟩
    obtain ⟨⟨y, rfl, -⟩, rfl⟩ := g
    refine hK _ _ _ _ (hK _ _ _ _ (hK _ _ _ _ (hK _ _ _ _ (hK _ _ _ _ (hK _ _ _ _ (hK _ _ _ _ (hK _ _ _ _ (hK _ _ _ _ (hK _ _ _ _ (hK _ _ _ _ (?_)))))))))))
    have hM3 : z_M (zTb, [(3, 1, 2), (3, 5, 5)], []) M [] (a_pI M1 3 0 1 (M1.1 3 0 1 + 1)) := h_Mp hM (by decide) (z_i_top _)
    refine ih _ ?_ _ _ rfl hM3
    rw [h_pIs]
    exact v_up hm h1
  refine hK _ _ _ _ ?_
  refine hK _ _ _ _ ⟨_, h_pW hct_X5_hasMore rfl rfl (show (4 : Nat) ≤ e + 5 by omega) (h_R trivial) hT, rfl, fun v M2 g => ?_⟩
  obtain ⟨g1, g2⟩ := g
  obtain ⟨y, rfl, -⟩ := h_ovI g1
  have hM2 : z_M (zTb, [(3, 1, 2), (3, 5, 5)], []) M [] M2 := h_Mt (h_M0 hT) g2 (by decide)
  refine hK _ _ _ _ (hK _ _ _ _ (hK _ _ _ _ (hK _ _ _ _ (hK _ _ _ _ (?_)))))
  have hM3 : z_M (zTb, [(3, 1, 2), (3, 5, 5)], []) M [] (a_pI M2 3 0 2 (M2.1 3 0 1)) := h_Mp hM2 (by decide) (z_i_top _)
  refine hK _ _ _ _ (hK _ _ _ _ (?_))
  exact lp _ _ _ rfl hM3
def ct_X5_passTwo_f : zCt := (103, [.inr (.inr (3, 0)), .inl (2147483648, 2147483648), .inl (2147483649, 2147483651), .inl (2147483648, 2147483648), .inl (2147483649, 2147483651)], [], [(3, 1, 5)], [.inl (some (.inl (2147483649, 2147483649)), [(49156, (2147483648, 2147483655)), (49155, (2147483648, 2147483655))]), .inl (some (.inl (2147483648, 2147483648)), [(49156, (2147483647, 2147483647)), (49155, (2147483647, 2147483655))])], 8)
theorem hct_X5_passTwo_f : z_ctH zTb ct_X5_passTwo_f := z_ct_ok [(3, 3, 4)] z_hds_ok [ct_X5_number_t] [] 6 2 (List.forall_mem_cons.mpr ⟨hct_X5_number_t, fun _ h => absurd h List.not_mem_nil⟩) (by decide +kernel)
def ct_X9_comesTo_0 : zCt := (144, [.inr (.inr (17, 0))], [], [], [.inl (some (.inl (0, 4294967295)), [])], 2)
theorem hct_X9_comesTo_0 : z_ctH zTb ct_X9_comesTo_0 := z_ct_ok [] z_hds_ok [] [] 0 2 (fun _ h => absurd h List.not_mem_nil) (by decide +kernel)
def ct_X9_length_0 : zCt := (145, [.inr (.inr (17, 0))], [], [], [.inl (some (.inl (0, 4294967295)), [])], 2)
theorem hct_X9_length_0 : z_ctH zTb ct_X9_length_0 := z_ct_ok [] z_hds_ok [] [] 0 2 (fun _ h => absurd h List.not_mem_nil) (by decide +kernel)
def ct_X9_isClosed_0 : zCt := (146, [.inr (.inr (17, 0))], [], [], [.inl (some (.inl (2147483648, 2147483649)), [])], 4)
theorem hct_X9_isClosed_0 : z_ctH zTb ct_X9_isClosed_0 := z_ct_ok [] z_hds_ok [ct_X0_cornerAt_0] [] 2 2 (List.forall_mem_cons.mpr ⟨hct_X0_cornerAt_0, fun _ h => absurd h List.not_mem_nil⟩) (by decide +kernel)
def ct_X9_stepBehind_0 : zCt := (142, [.inr (.inr (17, 0)), .inl (0, 4294967295)], [], [(17, 3, 4)], [.inl (none, [])], 4)
theorem hct_X9_stepBehind_0 : z_ctH zTb ct_X9_stepBehind_0 := z_ct_ok [] z_hds_ok [ct_X0_wide_0, ct_X0_high_0, ct_X0_isFlat_0, ct_X0_isClosed_0] [] 2 2 (List.forall_mem_cons.mpr ⟨hct_X0_wide_0, List.forall_mem_cons.mpr ⟨hct_X0_high_0, List.forall_mem_cons.mpr ⟨hct_X0_isFlat_0, List.forall_mem_cons.mpr ⟨hct_X0_isClosed_0, fun _ h => absurd h List.not_mem_nil⟩⟩⟩⟩) (by decide +kernel)
def ct_X9_arrive_0 : zCt := (143, [.inr (.inr (17, 0)), .inl (0, 4294967295)], [], [(17, 3, 5), (18, 0, 15)], [.inl (none, [])], 3)
theorem hct_X9_arrive_0 : z_ctH zTb ct_X9_arrive_0 := z_ct_ok [] z_hds_ok [ct_X6_add_18_0, ct_X0_columnOf_0, ct_X0_rowOf_0] [] 1 2 (List.forall_mem_cons.mpr ⟨hct_X6_add_18_0, List.forall_mem_cons.mpr ⟨hct_X0_columnOf_0, List.forall_mem_cons.mpr ⟨hct_X0_rowOf_0, fun _ h => absurd h List.not_mem_nil⟩⟩⟩) (by decide +kernel)
def ct_X9_begin_0 : zCt := (138, [.inr (.inr (17, 0)), .inl (0, 4294967295)], [], [(17, 2, 6), (18, 0, 15), (19, 0, 15)], [.inl (none, [])], 3)
theorem hct_X9_begin_0 : z_ctH zTb ct_X9_begin_0 := z_ct_ok [] z_hds_ok [ct_X6_fill_18_0, ct_X6_fill_19_0, ct_X0_columnOf_0, ct_X0_rowOf_0] [] 1 2 (List.forall_mem_cons.mpr ⟨hct_X6_fill_18_0, List.forall_mem_cons.mpr ⟨hct_X6_fill_19_0, List.forall_mem_cons.mpr ⟨hct_X0_columnOf_0, List.forall_mem_cons.mpr ⟨hct_X0_rowOf_0, fun _ h => absurd h List.not_mem_nil⟩⟩⟩⟩) (by decide +kernel)
def ct_X9_go_0 : zCt := (141, [.inr (.inr (17, 0)), .inl (0, 4294967295)], [], [(17, 3, 6), (18, 0, 15), (19, 0, 15)], [.inl (some (.inl (2147483648, 2147483649)), [])], 7)
theorem hct_X9_go_0 : z_ctH zTb ct_X9_go_0 := z_ct_ok [] z_hds_ok [ct_X6_add_19_0, ct_X2_times_0, ct_X2_against_0, ct_X0_group_0, ct_X0_beginOf_0, ct_X0_lineAt_0, ct_X0_endOf_0, ct_X0_turnOn_0, ct_X9_stepBehind_0, ct_X9_arrive_0] [] 5 2 (List.forall_mem_cons.mpr ⟨hct_X6_add_19_0, List.forall_mem_cons.mpr ⟨hct_X2_times_0, List.forall_mem_cons.mpr ⟨hct_X2_against_0, List.forall_mem_cons.mpr ⟨hct_X0_group_0, List.forall_mem_cons.mpr ⟨hct_X0_beginOf_0, List.forall_mem_cons.mpr ⟨hct_X0_lineAt_0, List.forall_mem_cons.mpr ⟨hct_X0_endOf_0, List.forall_mem_cons.mpr ⟨hct_X0_turnOn_0, List.forall_mem_cons.mpr ⟨hct_X9_stepBehind_0, List.forall_mem_cons.mpr ⟨hct_X9_arrive_0, fun _ h => absurd h List.not_mem_nil⟩⟩⟩⟩⟩⟩⟩⟩⟩⟩) (by decide +kernel)
def ct_X9_wayRead_0 : zCt := (140, [.inr (.inr (17, 0))], [], [], [.inl (some (.inl (2147483647, 2147483651)), [])], 10)
theorem hct_X9_wayRead_0 : z_ctH zTb ct_X9_wayRead_0 := z_ct_ok [] z_hds_ok [ct_X5_isWord_108, ct_X5_isWord_109, ct_X5_isWord_110, ct_X5_isWord_111] [] 8 2 (List.forall_mem_cons.mpr ⟨hct_X5_isWord_108, List.forall_mem_cons.mpr ⟨hct_X5_isWord_109, List.forall_mem_cons.mpr ⟨hct_X5_isWord_110, List.forall_mem_cons.mpr ⟨hct_X5_isWord_111, fun _ h => absurd h List.not_mem_nil⟩⟩⟩⟩) (by decide +kernel)
def ct_X9_readBegin_0 : zCt := (137, [.inr (.inr (17, 0))], [], [(3, 1, 5), (17, 2, 6), (18, 0, 15), (19, 0, 15)], [.inl (some (.inl (2147483648, 2147483649)), [])], 10)
theorem hct_X9_readBegin_0 : z_ctH zTb ct_X9_readBegin_0 := z_ct_ok [] z_hds_ok [ct_X0_wide_0, ct_X0_high_0, ct_X0_cornerAt_0, ct_X5_refuseLatest_0, ct_X5_passWord, ct_X5_isWord_107, ct_X5_passTwo_f, ct_X9_begin_0] [] 8 2 (List.forall_mem_cons.mpr ⟨hct_X0_wide_0, List.forall_mem_cons.mpr ⟨hct_X0_high_0, List.forall_mem_cons.mpr ⟨hct_X0_cornerAt_0, List.forall_mem_cons.mpr ⟨hct_X5_refuseLatest_0, List.forall_mem_cons.mpr ⟨hct_X5_passWord, List.forall_mem_cons.mpr ⟨hct_X5_isWord_107, List.forall_mem_cons.mpr ⟨hct_X5_passTwo_f, List.forall_mem_cons.mpr ⟨hct_X9_begin_0, fun _ h => absurd h List.not_mem_nil⟩⟩⟩⟩⟩⟩⟩⟩) (by decide +kernel)
def ct_X9_readPart_0 : zCt := (139, [.inr (.inr (17, 0))], [], [(3, 1, 2), (3, 5, 5), (17, 3, 6), (18, 0, 15), (19, 0, 15)], [.inl (some (.inl (2147483648, 2147483649)), [])], 12)
theorem hct_X9_readPart_0 : z_ctH zTb ct_X9_readPart_0 := z_ct_ok [] z_hds_ok [ct_X5_begin_0, ct_X5_refuse_0, ct_X5_refuseLatest_0, ct_X5_passWord, ct_X5_number_1_9, ct_X9_go_0, ct_X9_wayRead_0] [] 10 2 (List.forall_mem_cons.mpr ⟨hct_X5_begin_0, List.forall_mem_cons.mpr ⟨hct_X5_refuse_0, List.forall_mem_cons.mpr ⟨hct_X5_refuseLatest_0, List.forall_mem_cons.mpr ⟨hct_X5_passWord, List.forall_mem_cons.mpr ⟨hct_X5_number_1_9, List.forall_mem_cons.mpr ⟨hct_X9_go_0, List.forall_mem_cons.mpr ⟨hct_X9_wayRead_0, fun _ h => absurd h List.not_mem_nil⟩⟩⟩⟩⟩⟩⟩) (by decide +kernel)
def ct_X9_read_0 : zCt := (136, [.inr (.inr (17, 0))], [], [(3, 1, 5), (17, 2, 6), (18, 0, 15), (19, 0, 15)], [.inl (some (.inl (2147483648, 2147483649)), [])], 14)
theorem hct_X9_read_0 : z_ctH zTb ct_X9_read_0 := z_ct_ok [] z_hds_ok [ct_X5_open_0, ct_X5_refuseNext_0, ct_X5_isEnded_0, ct_X5_passSemicolon_0, ct_X9_readBegin_0, ct_X9_readPart_0] [] 12 2 (List.forall_mem_cons.mpr ⟨hct_X5_open_0, List.forall_mem_cons.mpr ⟨hct_X5_refuseNext_0, List.forall_mem_cons.mpr ⟨hct_X5_isEnded_0, List.forall_mem_cons.mpr ⟨hct_X5_passSemicolon_0, List.forall_mem_cons.mpr ⟨hct_X9_readBegin_0, List.forall_mem_cons.mpr ⟨hct_X9_readPart_0, fun _ h => absurd h List.not_mem_nil⟩⟩⟩⟩⟩⟩) (by decide +kernel)
def ct_X9_isSimple_0 : zCt := (147, [.inr (.inr (17, 0))], [], [], [.inl (some (.inl (2147483648, 2147483649)), [])], 6)
theorem hct_X9_isSimple_0 : z_ctH zTb ct_X9_isSimple_0 := z_ct_ok [] z_hds_ok [ct_X6_at_18_0, ct_X9_isClosed_0] [] 4 2 (List.forall_mem_cons.mpr ⟨hct_X6_at_18_0, List.forall_mem_cons.mpr ⟨hct_X9_isClosed_0, fun _ h => absurd h List.not_mem_nil⟩⟩) (by decide +kernel)
def ct_X9_windsRound : zCt := (148, [.inr (.inr (17, 0)), .inl (2147483648, 2147483650), .inl (2147483648, 2147483650)], [], [], [.inl (some (.inl (0, 4294967295)), [])], 4)
theorem hct_X9_windsRound : z_ctH zTb ct_X9_windsRound := z_ct_ok [] z_hds_ok [ct_X6_at_19_0, ct_X0_wide_0] [] 2 2 (List.forall_mem_cons.mpr ⟨hct_X6_at_19_0, List.forall_mem_cons.mpr ⟨hct_X0_wide_0, fun _ h => absurd h List.not_mem_nil⟩⟩) (by decide +kernel)
def ct_X9_squaresWithin_0 : zCt := (149, [.inr (.inr (17, 0))], [], [], [.inl (some (.inl (2147483648, 2147483657)), [])], 6)
theorem hct_X9_squaresWithin_0 : z_ctH zTb ct_X9_squaresWithin_0 := z_ct_ok [] z_hds_ok [ct_X0_wide_0, ct_X0_high_0, ct_X9_windsRound] [] 4 2 (List.forall_mem_cons.mpr ⟨hct_X0_wide_0, List.forall_mem_cons.mpr ⟨hct_X0_high_0, List.forall_mem_cons.mpr ⟨hct_X9_windsRound, fun _ h => absurd h List.not_mem_nil⟩⟩⟩) (by decide +kernel)
def ct_X3_forget_0 : zCt := (71, [.inr (.inr (20, 0))], [], [(20, 4, 5)], [.inl (none, [])], 2)
theorem hct_X3_forget_0 : z_ctH zTb ct_X3_forget_0 := z_ct_ok [] z_hds_ok [] [] 0 2 (fun _ h => absurd h List.not_mem_nil) (by decide +kernel)
def ct_X3_dropOldest_0 : zCt := (75, [.inr (.inr (20, 0))], [], [(20, 4, 4), (21, 0, 19), (22, 0, 19), (23, 0, 19)], [.inl (none, [(327684, (2147483667, 2147483667))])], 3)
theorem hct_X3_dropOldest_0 : z_ctH zTb ct_X3_dropOldest_0 := z_ct_ok [(20, 4, 4)] z_hds_ok [ct_X6_at_21_0, ct_X6_put_21_0, ct_X6_at_22_0, ct_X6_put_22_0, ct_X6_at_23_0, ct_X6_put_23_0] [] 1 2 (List.forall_mem_cons.mpr ⟨hct_X6_at_21_0, List.forall_mem_cons.mpr ⟨hct_X6_put_21_0, List.forall_mem_cons.mpr ⟨hct_X6_at_22_0, List.forall_mem_cons.mpr ⟨hct_X6_put_22_0, List.forall_mem_cons.mpr ⟨hct_X6_at_23_0, List.forall_mem_cons.mpr ⟨hct_X6_put_23_0, fun _ h => absurd h List.not_mem_nil⟩⟩⟩⟩⟩⟩) (by decide +kernel)
def ct_X3_note_0 : zCt := (74, [.inr (.inr (20, 0)), .inl (0, 4294967295), .inl (0, 4294967295), .inl (0, 4294967295)], [], [(20, 4, 5), (21, 0, 19), (22, 0, 19), (23, 0, 19)], [.inl (none, [])], 5)
theorem hct_X3_note_0 : z_ctH zTb ct_X3_note_0 := z_ct_ok [] z_hds_ok [ct_X6_put_21_0, ct_X6_put_22_0, ct_X6_put_23_0, ct_X3_dropOldest_0] [] 3 2 (List.forall_mem_cons.mpr ⟨hct_X6_put_21_0, List.forall_mem_cons.mpr ⟨hct_X6_put_22_0, List.forall_mem_cons.mpr ⟨hct_X6_put_23_0, List.forall_mem_cons.mpr ⟨hct_X3_dropOldest_0, fun _ h => absurd h List.not_mem_nil⟩⟩⟩⟩) (by decide +kernel)
def ct_X3_noteLine_0 : zCt := (72, [.inr (.inr (20, 0)), .inl (0, 4294967295), .inl (0, 4294967295), .inl (0, 4294967295)], [], [(20, 4, 5), (21, 0, 19), (22, 0, 19), (23, 0, 19)], [.inl (none, [])], 7)
theorem hct_X3_noteLine_0 : z_ctH zTb ct_X3_noteLine_0 := z_ct_ok [] z_hds_ok [ct_X3_note_0] [] 5 2 (List.forall_mem_cons.mpr ⟨hct_X3_note_0, fun _ h => absurd h List.not_mem_nil⟩) (by decide +kernel)
def ct_X3_noteFrame_0 : zCt := (73, [.inr (.inr (20, 0)), .inl (0, 4294967295), .inl (0, 4294967295), .inl (0, 4294967295)], [], [(20, 4, 5), (21, 0, 19), (22, 0, 19), (23, 0, 19)], [.inl (none, [])], 7)
theorem hct_X3_noteFrame_0 : z_ctH zTb ct_X3_noteFrame_0 := z_ct_ok [] z_hds_ok [ct_X3_note_0] [] 5 2 (List.forall_mem_cons.mpr ⟨hct_X3_note_0, fun _ h => absurd h List.not_mem_nil⟩) (by decide +kernel)
def ct_X3_apply_0 : zCt := (78, [.inr (.inr (20, 0)), .inl (0, 4294967295), .inl (0, 4294967295)], [], [(12, 0, 31)], [.inl (none, [])], 8)
theorem hct_X3_apply_0 : z_ctH zTb ct_X3_apply_0 := z_ct_ok [] z_hds_ok [ct_X0_putTurn_0, ct_X0_reframe_0] [] 6 2 (List.forall_mem_cons.mpr ⟨hct_X0_putTurn_0, List.forall_mem_cons.mpr ⟨hct_X0_reframe_0, fun _ h => absurd h List.not_mem_nil⟩⟩) (by decide +kernel)
def ct_X3_takeBack_0 : zCt := (76, [.inr (.inr (20, 0))], [], [(12, 0, 31), (20, 4, 4)], [.inl (some (.inl (2147483648, 2147483649)), [])], 10)
theorem hct_X3_takeBack_0 : z_ctH zTb ct_X3_takeBack_0 := z_ct_ok [] z_hds_ok [ct_X6_at_21_0, ct_X6_at_22_0, ct_X3_apply_0] [] 8 2 (List.forall_mem_cons.mpr ⟨hct_X6_at_21_0, List.forall_mem_cons.mpr ⟨hct_X6_at_22_0, List.forall_mem_cons.mpr ⟨hct_X3_apply_0, fun _ h => absurd h List.not_mem_nil⟩⟩⟩) (by decide +kernel)
def ct_X3_doAgain_0 : zCt := (77, [.inr (.inr (20, 0))], [], [(12, 0, 31), (20, 4, 4)], [.inl (some (.inl (2147483648, 2147483649)), [])], 10)
theorem hct_X3_doAgain_0 : z_ctH zTb ct_X3_doAgain_0 := z_ct_ok [] z_hds_ok [ct_X6_at_21_0, ct_X6_at_23_0, ct_X3_apply_0] [] 8 2 (List.forall_mem_cons.mpr ⟨hct_X6_at_21_0, List.forall_mem_cons.mpr ⟨hct_X6_at_23_0, List.forall_mem_cons.mpr ⟨hct_X3_apply_0, fun _ h => absurd h List.not_mem_nil⟩⟩⟩) (by decide +kernel)
def ct_X3_undoable_0 : zCt := (79, [.inr (.inr (20, 0))], [], [], [.inl (some (.inl (0, 4294967295)), [])], 2)
theorem hct_X3_undoable_0 : z_ctH zTb ct_X3_undoable_0 := z_ct_ok [] z_hds_ok [] [] 0 2 (fun _ h => absurd h List.not_mem_nil) (by decide +kernel)
def ct_X3_redoable_0 : zCt := (80, [.inr (.inr (20, 0))], [], [], [.inl (some (.inl (0, 4294967295)), [])], 2)
theorem hct_X3_redoable_0 : z_ctH zTb ct_X3_redoable_0 := z_ct_ok [] z_hds_ok [] [] 0 2 (fun _ h => absurd h List.not_mem_nil) (by decide +kernel)
def ct_X3_note_d0 : zCt := (74, [.inr (.inr (20, 0)), .inl (0, 4294967295), .inl (0, 4294967295), .inl (0, 4294967295)], [(327684, (2147483648, 2147483648))], [(20, 4, 5), (21, 0, 19), (22, 0, 19), (23, 0, 19)], [.inl (none, [(327685, (2147483649, 2147483649)), (327684, (2147483649, 2147483649))])], 3)
theorem hct_X3_note_d0 : z_ctH zTb ct_X3_note_d0 := z_ct_ok [(20, 4, 5)] z_hds_ok [ct_X6_put_21_0, ct_X6_put_22_0, ct_X6_put_23_0] [] 1 2 (List.forall_mem_cons.mpr ⟨hct_X6_put_21_0, List.forall_mem_cons.mpr ⟨hct_X6_put_22_0, List.forall_mem_cons.mpr ⟨hct_X6_put_23_0, fun _ h => absurd h List.not_mem_nil⟩⟩⟩) (by decide +kernel)
def ct_X3_noteLine_d0 : zCt := (72, [.inr (.inr (20, 0)), .inl (0, 4294967295), .inl (0, 4294967295), .inl (0, 4294967295)], [(327684, (2147483648, 2147483648))], [(20, 4, 5), (21, 0, 19), (22, 0, 19), (23, 0, 19)], [.inl (none, [(327685, (2147483649, 2147483649)), (327684, (2147483649, 2147483649))])], 5)
theorem hct_X3_noteLine_d0 : z_ctH zTb ct_X3_noteLine_d0 := z_ct_ok [(20, 4, 5)] z_hds_ok [ct_X3_note_d0] [] 3 2 (List.forall_mem_cons.mpr ⟨hct_X3_note_d0, fun _ h => absurd h List.not_mem_nil⟩) (by decide +kernel)
def ct_X3_noteFrame_d0 : zCt := (73, [.inr (.inr (20, 0)), .inl (0, 4294967295), .inl (0, 4294967295), .inl (0, 4294967295)], [(327684, (2147483648, 2147483648))], [(20, 4, 5), (21, 0, 19), (22, 0, 19), (23, 0, 19)], [.inl (none, [(327685, (2147483649, 2147483649)), (327684, (2147483649, 2147483649))])], 5)
theorem hct_X3_noteFrame_d0 : z_ctH zTb ct_X3_noteFrame_d0 := z_ct_ok [(20, 4, 5)] z_hds_ok [ct_X3_note_d0] [] 3 2 (List.forall_mem_cons.mpr ⟨hct_X3_note_d0, fun _ h => absurd h List.not_mem_nil⟩) (by decide +kernel)
def ct_X3_takeBack_d0 : zCt := (76, [.inr (.inr (20, 0))], [(327684, (2147483648, 2147483648))], [], [.inl (some (.inl (2147483648, 2147483648)), [])], 2)
theorem hct_X3_takeBack_d0 : z_ctH zTb ct_X3_takeBack_d0 := z_ct_ok [(20, 4, 4)] z_hds_ok [] [] 0 2 (fun _ h => absurd h List.not_mem_nil) (by decide +kernel)
def ct_X10_undo_d0 : zCt := (160, [.inr (.inr (0, 0))], [(327684, (2147483648, 2147483648))], [], [.inl (some (.inl (2147483648, 2147483648)), [])], 4)
theorem hct_X10_undo_d0 : z_ctH zTb ct_X10_undo_d0 := z_ct_ok [(20, 4, 4)] z_hds_ok [ct_X3_takeBack_d0] [] 2 2 (List.forall_mem_cons.mpr ⟨hct_X3_takeBack_d0, fun _ h => absurd h List.not_mem_nil⟩) (by decide +kernel)
def ct_X3_doAgain_n0 : zCt := (77, [.inr (.inr (20, 0))], [(327684, (2147483648, 2147483648)), (327685, (2147483648, 2147483648))], [], [.inl (some (.inl (2147483648, 2147483648)), [])], 2)
theorem hct_X3_doAgain_n0 : z_ctH zTb ct_X3_doAgain_n0 := z_ct_ok [(20, 4, 4)] z_hds_ok [] [] 0 2 (fun _ h => absurd h List.not_mem_nil) (by decide +kernel)
def ct_X10_redo_n0 : zCt := (161, [.inr (.inr (0, 0))], [(327684, (2147483648, 2147483648)), (327685, (2147483648, 2147483648))], [], [.inl (some (.inl (2147483648, 2147483648)), [])], 4)
theorem hct_X10_redo_n0 : z_ctH zTb ct_X10_redo_n0 := z_ct_ok [(20, 4, 4)] z_hds_ok [ct_X3_doAgain_n0] [] 2 2 (List.forall_mem_cons.mpr ⟨hct_X3_doAgain_n0, fun _ h => absurd h List.not_mem_nil⟩) (by decide +kernel)
def ct_X3_doAgain_y0 : zCt := (77, [.inr (.inr (20, 0))], [(327684, (2147483648, 2147483648)), (327685, (2147483649, 2147483668))], [(12, 0, 31), (20, 4, 4)], [.inl (some (.inl (2147483649, 2147483649)), [(327684, (2147483649, 2147483649))])], 10)
theorem hct_X3_doAgain_y0 : z_ctH zTb ct_X3_doAgain_y0 := z_ct_ok [(20, 4, 4)] z_hds_ok [ct_X6_at_21_0, ct_X6_at_23_0, ct_X3_apply_0] [] 8 2 (List.forall_mem_cons.mpr ⟨hct_X6_at_21_0, List.forall_mem_cons.mpr ⟨hct_X6_at_23_0, List.forall_mem_cons.mpr ⟨hct_X3_apply_0, fun _ h => absurd h List.not_mem_nil⟩⟩⟩) (by decide +kernel)
def ct_X10_redo_y0 : zCt := (161, [.inr (.inr (0, 0))], [(327684, (2147483648, 2147483648)), (327685, (2147483649, 2147483668))], [(12, 0, 31), (20, 4, 4)], [.inl (some (.inl (2147483649, 2147483649)), [(327684, (2147483649, 2147483649))])], 12)
theorem hct_X10_redo_y0 : z_ctH zTb ct_X10_redo_y0 := z_ct_ok [(20, 4, 4)] z_hds_ok [ct_X3_doAgain_y0] [] 10 2 (List.forall_mem_cons.mpr ⟨hct_X3_doAgain_y0, fun _ h => absurd h List.not_mem_nil⟩) (by decide +kernel)
def ct_X3_note_d1 : zCt := (74, [.inr (.inr (20, 0)), .inl (0, 4294967295), .inl (0, 4294967295), .inl (0, 4294967295)], [(327684, (2147483649, 2147483649))], [(20, 4, 5), (21, 0, 19), (22, 0, 19), (23, 0, 19)], [.inl (none, [(327685, (2147483650, 2147483650)), (327684, (2147483650, 2147483650))])], 3)
theorem hct_X3_note_d1 : z_ctH zTb ct_X3_note_d1 := z_ct_ok [(20, 4, 5)] z_hds_ok [ct_X6_put_21_0, ct_X6_put_22_0, ct_X6_put_23_0] [] 1 2 (List.forall_mem_cons.mpr ⟨hct_X6_put_21_0, List.forall_mem_cons.mpr ⟨hct_X6_put_22_0, List.forall_mem_cons.mpr ⟨hct_X6_put_23_0, fun _ h => absurd h List.not_mem_nil⟩⟩⟩) (by decide +kernel)
def ct_X3_noteLine_d1 : zCt := (72, [.inr (.inr (20, 0)), .inl (0, 4294967295), .inl (0, 4294967295), .inl (0, 4294967295)], [(327684, (2147483649, 2147483649))], [(20, 4, 5), (21, 0, 19), (22, 0, 19), (23, 0, 19)], [.inl (none, [(327685, (2147483650, 2147483650)), (327684, (2147483650, 2147483650))])], 5)
theorem hct_X3_noteLine_d1 : z_ctH zTb ct_X3_noteLine_d1 := z_ct_ok [(20, 4, 5)] z_hds_ok [ct_X3_note_d1] [] 3 2 (List.forall_mem_cons.mpr ⟨hct_X3_note_d1, fun _ h => absurd h List.not_mem_nil⟩) (by decide +kernel)
def ct_X3_noteFrame_d1 : zCt := (73, [.inr (.inr (20, 0)), .inl (0, 4294967295), .inl (0, 4294967295), .inl (0, 4294967295)], [(327684, (2147483649, 2147483649))], [(20, 4, 5), (21, 0, 19), (22, 0, 19), (23, 0, 19)], [.inl (none, [(327685, (2147483650, 2147483650)), (327684, (2147483650, 2147483650))])], 5)
theorem hct_X3_noteFrame_d1 : z_ctH zTb ct_X3_noteFrame_d1 := z_ct_ok [(20, 4, 5)] z_hds_ok [ct_X3_note_d1] [] 3 2 (List.forall_mem_cons.mpr ⟨hct_X3_note_d1, fun _ h => absurd h List.not_mem_nil⟩) (by decide +kernel)
def ct_X3_takeBack_d1 : zCt := (76, [.inr (.inr (20, 0))], [(327684, (2147483649, 2147483649))], [(12, 0, 31), (20, 4, 4)], [.inl (some (.inl (2147483649, 2147483649)), [(327684, (2147483648, 2147483648))])], 10)
theorem hct_X3_takeBack_d1 : z_ctH zTb ct_X3_takeBack_d1 := z_ct_ok [(20, 4, 4)] z_hds_ok [ct_X6_at_21_0, ct_X6_at_22_0, ct_X3_apply_0] [] 8 2 (List.forall_mem_cons.mpr ⟨hct_X6_at_21_0, List.forall_mem_cons.mpr ⟨hct_X6_at_22_0, List.forall_mem_cons.mpr ⟨hct_X3_apply_0, fun _ h => absurd h List.not_mem_nil⟩⟩⟩) (by decide +kernel)
def ct_X10_undo_d1 : zCt := (160, [.inr (.inr (0, 0))], [(327684, (2147483649, 2147483649))], [(12, 0, 31), (20, 4, 4)], [.inl (some (.inl (2147483649, 2147483649)), [(327684, (2147483648, 2147483648))])], 12)
theorem hct_X10_undo_d1 : z_ctH zTb ct_X10_undo_d1 := z_ct_ok [(20, 4, 4)] z_hds_ok [ct_X3_takeBack_d1] [] 10 2 (List.forall_mem_cons.mpr ⟨hct_X3_takeBack_d1, fun _ h => absurd h List.not_mem_nil⟩) (by decide +kernel)
def ct_X3_doAgain_n1 : zCt := (77, [.inr (.inr (20, 0))], [(327684, (2147483649, 2147483649)), (327685, (2147483649, 2147483649))], [], [.inl (some (.inl (2147483648, 2147483648)), [])], 2)
theorem hct_X3_doAgain_n1 : z_ctH zTb ct_X3_doAgain_n1 := z_ct_ok [(20, 4, 4)] z_hds_ok [] [] 0 2 (fun _ h => absurd h List.not_mem_nil) (by decide +kernel)
def ct_X10_redo_n1 : zCt := (161, [.inr (.inr (0, 0))], [(327684, (2147483649, 2147483649)), (327685, (2147483649, 2147483649))], [], [.inl (some (.inl (2147483648, 2147483648)), [])], 4)
theorem hct_X10_redo_n1 : z_ctH zTb ct_X10_redo_n1 := z_ct_ok [(20, 4, 4)] z_hds_ok [ct_X3_doAgain_n1] [] 2 2 (List.forall_mem_cons.mpr ⟨hct_X3_doAgain_n1, fun _ h => absurd h List.not_mem_nil⟩) (by decide +kernel)
def ct_X3_doAgain_y1 : zCt := (77, [.inr (.inr (20, 0))], [(327684, (2147483649, 2147483649)), (327685, (2147483650, 2147483668))], [(12, 0, 31), (20, 4, 4)], [.inl (some (.inl (2147483649, 2147483649)), [(327684, (2147483650, 2147483650))])], 10)
theorem hct_X3_doAgain_y1 : z_ctH zTb ct_X3_doAgain_y1 := z_ct_ok [(20, 4, 4)] z_hds_ok [ct_X6_at_21_0, ct_X6_at_23_0, ct_X3_apply_0] [] 8 2 (List.forall_mem_cons.mpr ⟨hct_X6_at_21_0, List.forall_mem_cons.mpr ⟨hct_X6_at_23_0, List.forall_mem_cons.mpr ⟨hct_X3_apply_0, fun _ h => absurd h List.not_mem_nil⟩⟩⟩) (by decide +kernel)
def ct_X10_redo_y1 : zCt := (161, [.inr (.inr (0, 0))], [(327684, (2147483649, 2147483649)), (327685, (2147483650, 2147483668))], [(12, 0, 31), (20, 4, 4)], [.inl (some (.inl (2147483649, 2147483649)), [(327684, (2147483650, 2147483650))])], 12)
theorem hct_X10_redo_y1 : z_ctH zTb ct_X10_redo_y1 := z_ct_ok [(20, 4, 4)] z_hds_ok [ct_X3_doAgain_y1] [] 10 2 (List.forall_mem_cons.mpr ⟨hct_X3_doAgain_y1, fun _ h => absurd h List.not_mem_nil⟩) (by decide +kernel)
def ct_X3_note_d2 : zCt := (74, [.inr (.inr (20, 0)), .inl (0, 4294967295), .inl (0, 4294967295), .inl (0, 4294967295)], [(327684, (2147483650, 2147483650))], [(20, 4, 5), (21, 0, 19), (22, 0, 19), (23, 0, 19)], [.inl (none, [(327685, (2147483651, 2147483651)), (327684, (2147483651, 2147483651))])], 3)
theorem hct_X3_note_d2 : z_ctH zTb ct_X3_note_d2 := z_ct_ok [(20, 4, 5)] z_hds_ok [ct_X6_put_21_0, ct_X6_put_22_0, ct_X6_put_23_0] [] 1 2 (List.forall_mem_cons.mpr ⟨hct_X6_put_21_0, List.forall_mem_cons.mpr ⟨hct_X6_put_22_0, List.forall_mem_cons.mpr ⟨hct_X6_put_23_0, fun _ h => absurd h List.not_mem_nil⟩⟩⟩) (by decide +kernel)
def ct_X3_noteLine_d2 : zCt := (72, [.inr (.inr (20, 0)), .inl (0, 4294967295), .inl (0, 4294967295), .inl (0, 4294967295)], [(327684, (2147483650, 2147483650))], [(20, 4, 5), (21, 0, 19), (22, 0, 19), (23, 0, 19)], [.inl (none, [(327685, (2147483651, 2147483651)), (327684, (2147483651, 2147483651))])], 5)
theorem hct_X3_noteLine_d2 : z_ctH zTb ct_X3_noteLine_d2 := z_ct_ok [(20, 4, 5)] z_hds_ok [ct_X3_note_d2] [] 3 2 (List.forall_mem_cons.mpr ⟨hct_X3_note_d2, fun _ h => absurd h List.not_mem_nil⟩) (by decide +kernel)
def ct_X3_noteFrame_d2 : zCt := (73, [.inr (.inr (20, 0)), .inl (0, 4294967295), .inl (0, 4294967295), .inl (0, 4294967295)], [(327684, (2147483650, 2147483650))], [(20, 4, 5), (21, 0, 19), (22, 0, 19), (23, 0, 19)], [.inl (none, [(327685, (2147483651, 2147483651)), (327684, (2147483651, 2147483651))])], 5)
theorem hct_X3_noteFrame_d2 : z_ctH zTb ct_X3_noteFrame_d2 := z_ct_ok [(20, 4, 5)] z_hds_ok [ct_X3_note_d2] [] 3 2 (List.forall_mem_cons.mpr ⟨hct_X3_note_d2, fun _ h => absurd h List.not_mem_nil⟩) (by decide +kernel)
def ct_X3_takeBack_d2 : zCt := (76, [.inr (.inr (20, 0))], [(327684, (2147483650, 2147483650))], [(12, 0, 31), (20, 4, 4)], [.inl (some (.inl (2147483649, 2147483649)), [(327684, (2147483649, 2147483649))])], 10)
theorem hct_X3_takeBack_d2 : z_ctH zTb ct_X3_takeBack_d2 := z_ct_ok [(20, 4, 4)] z_hds_ok [ct_X6_at_21_0, ct_X6_at_22_0, ct_X3_apply_0] [] 8 2 (List.forall_mem_cons.mpr ⟨hct_X6_at_21_0, List.forall_mem_cons.mpr ⟨hct_X6_at_22_0, List.forall_mem_cons.mpr ⟨hct_X3_apply_0, fun _ h => absurd h List.not_mem_nil⟩⟩⟩) (by decide +kernel)
def ct_X10_undo_d2 : zCt := (160, [.inr (.inr (0, 0))], [(327684, (2147483650, 2147483650))], [(12, 0, 31), (20, 4, 4)], [.inl (some (.inl (2147483649, 2147483649)), [(327684, (2147483649, 2147483649))])], 12)
theorem hct_X10_undo_d2 : z_ctH zTb ct_X10_undo_d2 := z_ct_ok [(20, 4, 4)] z_hds_ok [ct_X3_takeBack_d2] [] 10 2 (List.forall_mem_cons.mpr ⟨hct_X3_takeBack_d2, fun _ h => absurd h List.not_mem_nil⟩) (by decide +kernel)
def ct_X3_doAgain_n2 : zCt := (77, [.inr (.inr (20, 0))], [(327684, (2147483650, 2147483650)), (327685, (2147483650, 2147483650))], [], [.inl (some (.inl (2147483648, 2147483648)), [])], 2)
theorem hct_X3_doAgain_n2 : z_ctH zTb ct_X3_doAgain_n2 := z_ct_ok [(20, 4, 4)] z_hds_ok [] [] 0 2 (fun _ h => absurd h List.not_mem_nil) (by decide +kernel)
def ct_X10_redo_n2 : zCt := (161, [.inr (.inr (0, 0))], [(327684, (2147483650, 2147483650)), (327685, (2147483650, 2147483650))], [], [.inl (some (.inl (2147483648, 2147483648)), [])], 4)
theorem hct_X10_redo_n2 : z_ctH zTb ct_X10_redo_n2 := z_ct_ok [(20, 4, 4)] z_hds_ok [ct_X3_doAgain_n2] [] 2 2 (List.forall_mem_cons.mpr ⟨hct_X3_doAgain_n2, fun _ h => absurd h List.not_mem_nil⟩) (by decide +kernel)
def ct_X3_doAgain_y2 : zCt := (77, [.inr (.inr (20, 0))], [(327684, (2147483650, 2147483650)), (327685, (2147483651, 2147483668))], [(12, 0, 31), (20, 4, 4)], [.inl (some (.inl (2147483649, 2147483649)), [(327684, (2147483651, 2147483651))])], 10)
theorem hct_X3_doAgain_y2 : z_ctH zTb ct_X3_doAgain_y2 := z_ct_ok [(20, 4, 4)] z_hds_ok [ct_X6_at_21_0, ct_X6_at_23_0, ct_X3_apply_0] [] 8 2 (List.forall_mem_cons.mpr ⟨hct_X6_at_21_0, List.forall_mem_cons.mpr ⟨hct_X6_at_23_0, List.forall_mem_cons.mpr ⟨hct_X3_apply_0, fun _ h => absurd h List.not_mem_nil⟩⟩⟩) (by decide +kernel)
def ct_X10_redo_y2 : zCt := (161, [.inr (.inr (0, 0))], [(327684, (2147483650, 2147483650)), (327685, (2147483651, 2147483668))], [(12, 0, 31), (20, 4, 4)], [.inl (some (.inl (2147483649, 2147483649)), [(327684, (2147483651, 2147483651))])], 12)
theorem hct_X10_redo_y2 : z_ctH zTb ct_X10_redo_y2 := z_ct_ok [(20, 4, 4)] z_hds_ok [ct_X3_doAgain_y2] [] 10 2 (List.forall_mem_cons.mpr ⟨hct_X3_doAgain_y2, fun _ h => absurd h List.not_mem_nil⟩) (by decide +kernel)
def ct_X3_note_d3 : zCt := (74, [.inr (.inr (20, 0)), .inl (0, 4294967295), .inl (0, 4294967295), .inl (0, 4294967295)], [(327684, (2147483651, 2147483651))], [(20, 4, 5), (21, 0, 19), (22, 0, 19), (23, 0, 19)], [.inl (none, [(327685, (2147483652, 2147483652)), (327684, (2147483652, 2147483652))])], 3)
theorem hct_X3_note_d3 : z_ctH zTb ct_X3_note_d3 := z_ct_ok [(20, 4, 5)] z_hds_ok [ct_X6_put_21_0, ct_X6_put_22_0, ct_X6_put_23_0] [] 1 2 (List.forall_mem_cons.mpr ⟨hct_X6_put_21_0, List.forall_mem_cons.mpr ⟨hct_X6_put_22_0, List.forall_mem_cons.mpr ⟨hct_X6_put_23_0, fun _ h => absurd h List.not_mem_nil⟩⟩⟩) (by decide +kernel)
def ct_X3_noteLine_d3 : zCt := (72, [.inr (.inr (20, 0)), .inl (0, 4294967295), .inl (0, 4294967295), .inl (0, 4294967295)], [(327684, (2147483651, 2147483651))], [(20, 4, 5), (21, 0, 19), (22, 0, 19), (23, 0, 19)], [.inl (none, [(327685, (2147483652, 2147483652)), (327684, (2147483652, 2147483652))])], 5)
theorem hct_X3_noteLine_d3 : z_ctH zTb ct_X3_noteLine_d3 := z_ct_ok [(20, 4, 5)] z_hds_ok [ct_X3_note_d3] [] 3 2 (List.forall_mem_cons.mpr ⟨hct_X3_note_d3, fun _ h => absurd h List.not_mem_nil⟩) (by decide +kernel)
def ct_X3_noteFrame_d3 : zCt := (73, [.inr (.inr (20, 0)), .inl (0, 4294967295), .inl (0, 4294967295), .inl (0, 4294967295)], [(327684, (2147483651, 2147483651))], [(20, 4, 5), (21, 0, 19), (22, 0, 19), (23, 0, 19)], [.inl (none, [(327685, (2147483652, 2147483652)), (327684, (2147483652, 2147483652))])], 5)
theorem hct_X3_noteFrame_d3 : z_ctH zTb ct_X3_noteFrame_d3 := z_ct_ok [(20, 4, 5)] z_hds_ok [ct_X3_note_d3] [] 3 2 (List.forall_mem_cons.mpr ⟨hct_X3_note_d3, fun _ h => absurd h List.not_mem_nil⟩) (by decide +kernel)
def ct_X3_takeBack_d3 : zCt := (76, [.inr (.inr (20, 0))], [(327684, (2147483651, 2147483651))], [(12, 0, 31), (20, 4, 4)], [.inl (some (.inl (2147483649, 2147483649)), [(327684, (2147483650, 2147483650))])], 10)
theorem hct_X3_takeBack_d3 : z_ctH zTb ct_X3_takeBack_d3 := z_ct_ok [(20, 4, 4)] z_hds_ok [ct_X6_at_21_0, ct_X6_at_22_0, ct_X3_apply_0] [] 8 2 (List.forall_mem_cons.mpr ⟨hct_X6_at_21_0, List.forall_mem_cons.mpr ⟨hct_X6_at_22_0, List.forall_mem_cons.mpr ⟨hct_X3_apply_0, fun _ h => absurd h List.not_mem_nil⟩⟩⟩) (by decide +kernel)
def ct_X10_undo_d3 : zCt := (160, [.inr (.inr (0, 0))], [(327684, (2147483651, 2147483651))], [(12, 0, 31), (20, 4, 4)], [.inl (some (.inl (2147483649, 2147483649)), [(327684, (2147483650, 2147483650))])], 12)
theorem hct_X10_undo_d3 : z_ctH zTb ct_X10_undo_d3 := z_ct_ok [(20, 4, 4)] z_hds_ok [ct_X3_takeBack_d3] [] 10 2 (List.forall_mem_cons.mpr ⟨hct_X3_takeBack_d3, fun _ h => absurd h List.not_mem_nil⟩) (by decide +kernel)
def ct_X3_doAgain_n3 : zCt := (77, [.inr (.inr (20, 0))], [(327684, (2147483651, 2147483651)), (327685, (2147483651, 2147483651))], [], [.inl (some (.inl (2147483648, 2147483648)), [])], 2)
theorem hct_X3_doAgain_n3 : z_ctH zTb ct_X3_doAgain_n3 := z_ct_ok [(20, 4, 4)] z_hds_ok [] [] 0 2 (fun _ h => absurd h List.not_mem_nil) (by decide +kernel)
def ct_X10_redo_n3 : zCt := (161, [.inr (.inr (0, 0))], [(327684, (2147483651, 2147483651)), (327685, (2147483651, 2147483651))], [], [.inl (some (.inl (2147483648, 2147483648)), [])], 4)
theorem hct_X10_redo_n3 : z_ctH zTb ct_X10_redo_n3 := z_ct_ok [(20, 4, 4)] z_hds_ok [ct_X3_doAgain_n3] [] 2 2 (List.forall_mem_cons.mpr ⟨hct_X3_doAgain_n3, fun _ h => absurd h List.not_mem_nil⟩) (by decide +kernel)
def ct_X3_doAgain_y3 : zCt := (77, [.inr (.inr (20, 0))], [(327684, (2147483651, 2147483651)), (327685, (2147483652, 2147483668))], [(12, 0, 31), (20, 4, 4)], [.inl (some (.inl (2147483649, 2147483649)), [(327684, (2147483652, 2147483652))])], 10)
theorem hct_X3_doAgain_y3 : z_ctH zTb ct_X3_doAgain_y3 := z_ct_ok [(20, 4, 4)] z_hds_ok [ct_X6_at_21_0, ct_X6_at_23_0, ct_X3_apply_0] [] 8 2 (List.forall_mem_cons.mpr ⟨hct_X6_at_21_0, List.forall_mem_cons.mpr ⟨hct_X6_at_23_0, List.forall_mem_cons.mpr ⟨hct_X3_apply_0, fun _ h => absurd h List.not_mem_nil⟩⟩⟩) (by decide +kernel)
def ct_X10_redo_y3 : zCt := (161, [.inr (.inr (0, 0))], [(327684, (2147483651, 2147483651)), (327685, (2147483652, 2147483668))], [(12, 0, 31), (20, 4, 4)], [.inl (some (.inl (2147483649, 2147483649)), [(327684, (2147483652, 2147483652))])], 12)
theorem hct_X10_redo_y3 : z_ctH zTb ct_X10_redo_y3 := z_ct_ok [(20, 4, 4)] z_hds_ok [ct_X3_doAgain_y3] [] 10 2 (List.forall_mem_cons.mpr ⟨hct_X3_doAgain_y3, fun _ h => absurd h List.not_mem_nil⟩) (by decide +kernel)
def ct_X3_note_d4 : zCt := (74, [.inr (.inr (20, 0)), .inl (0, 4294967295), .inl (0, 4294967295), .inl (0, 4294967295)], [(327684, (2147483652, 2147483652))], [(20, 4, 5), (21, 0, 19), (22, 0, 19), (23, 0, 19)], [.inl (none, [(327685, (2147483653, 2147483653)), (327684, (2147483653, 2147483653))])], 3)
theorem hct_X3_note_d4 : z_ctH zTb ct_X3_note_d4 := z_ct_ok [(20, 4, 5)] z_hds_ok [ct_X6_put_21_0, ct_X6_put_22_0, ct_X6_put_23_0] [] 1 2 (List.forall_mem_cons.mpr ⟨hct_X6_put_21_0, List.forall_mem_cons.mpr ⟨hct_X6_put_22_0, List.forall_mem_cons.mpr ⟨hct_X6_put_23_0, fun _ h => absurd h List.not_mem_nil⟩⟩⟩) (by decide +kernel)
def ct_X3_noteLine_d4 : zCt := (72, [.inr (.inr (20, 0)), .inl (0, 4294967295), .inl (0, 4294967295), .inl (0, 4294967295)], [(327684, (2147483652, 2147483652))], [(20, 4, 5), (21, 0, 19), (22, 0, 19), (23, 0, 19)], [.inl (none, [(327685, (2147483653, 2147483653)), (327684, (2147483653, 2147483653))])], 5)
theorem hct_X3_noteLine_d4 : z_ctH zTb ct_X3_noteLine_d4 := z_ct_ok [(20, 4, 5)] z_hds_ok [ct_X3_note_d4] [] 3 2 (List.forall_mem_cons.mpr ⟨hct_X3_note_d4, fun _ h => absurd h List.not_mem_nil⟩) (by decide +kernel)
def ct_X3_noteFrame_d4 : zCt := (73, [.inr (.inr (20, 0)), .inl (0, 4294967295), .inl (0, 4294967295), .inl (0, 4294967295)], [(327684, (2147483652, 2147483652))], [(20, 4, 5), (21, 0, 19), (22, 0, 19), (23, 0, 19)], [.inl (none, [(327685, (2147483653, 2147483653)), (327684, (2147483653, 2147483653))])], 5)
theorem hct_X3_noteFrame_d4 : z_ctH zTb ct_X3_noteFrame_d4 := z_ct_ok [(20, 4, 5)] z_hds_ok [ct_X3_note_d4] [] 3 2 (List.forall_mem_cons.mpr ⟨hct_X3_note_d4, fun _ h => absurd h List.not_mem_nil⟩) (by decide +kernel)
def ct_X3_takeBack_d4 : zCt := (76, [.inr (.inr (20, 0))], [(327684, (2147483652, 2147483652))], [(12, 0, 31), (20, 4, 4)], [.inl (some (.inl (2147483649, 2147483649)), [(327684, (2147483651, 2147483651))])], 10)
theorem hct_X3_takeBack_d4 : z_ctH zTb ct_X3_takeBack_d4 := z_ct_ok [(20, 4, 4)] z_hds_ok [ct_X6_at_21_0, ct_X6_at_22_0, ct_X3_apply_0] [] 8 2 (List.forall_mem_cons.mpr ⟨hct_X6_at_21_0, List.forall_mem_cons.mpr ⟨hct_X6_at_22_0, List.forall_mem_cons.mpr ⟨hct_X3_apply_0, fun _ h => absurd h List.not_mem_nil⟩⟩⟩) (by decide +kernel)
def ct_X10_undo_d4 : zCt := (160, [.inr (.inr (0, 0))], [(327684, (2147483652, 2147483652))], [(12, 0, 31), (20, 4, 4)], [.inl (some (.inl (2147483649, 2147483649)), [(327684, (2147483651, 2147483651))])], 12)
theorem hct_X10_undo_d4 : z_ctH zTb ct_X10_undo_d4 := z_ct_ok [(20, 4, 4)] z_hds_ok [ct_X3_takeBack_d4] [] 10 2 (List.forall_mem_cons.mpr ⟨hct_X3_takeBack_d4, fun _ h => absurd h List.not_mem_nil⟩) (by decide +kernel)
def ct_X3_doAgain_n4 : zCt := (77, [.inr (.inr (20, 0))], [(327684, (2147483652, 2147483652)), (327685, (2147483652, 2147483652))], [], [.inl (some (.inl (2147483648, 2147483648)), [])], 2)
theorem hct_X3_doAgain_n4 : z_ctH zTb ct_X3_doAgain_n4 := z_ct_ok [(20, 4, 4)] z_hds_ok [] [] 0 2 (fun _ h => absurd h List.not_mem_nil) (by decide +kernel)
def ct_X10_redo_n4 : zCt := (161, [.inr (.inr (0, 0))], [(327684, (2147483652, 2147483652)), (327685, (2147483652, 2147483652))], [], [.inl (some (.inl (2147483648, 2147483648)), [])], 4)
theorem hct_X10_redo_n4 : z_ctH zTb ct_X10_redo_n4 := z_ct_ok [(20, 4, 4)] z_hds_ok [ct_X3_doAgain_n4] [] 2 2 (List.forall_mem_cons.mpr ⟨hct_X3_doAgain_n4, fun _ h => absurd h List.not_mem_nil⟩) (by decide +kernel)
def ct_X3_doAgain_y4 : zCt := (77, [.inr (.inr (20, 0))], [(327684, (2147483652, 2147483652)), (327685, (2147483653, 2147483668))], [(12, 0, 31), (20, 4, 4)], [.inl (some (.inl (2147483649, 2147483649)), [(327684, (2147483653, 2147483653))])], 10)
theorem hct_X3_doAgain_y4 : z_ctH zTb ct_X3_doAgain_y4 := z_ct_ok [(20, 4, 4)] z_hds_ok [ct_X6_at_21_0, ct_X6_at_23_0, ct_X3_apply_0] [] 8 2 (List.forall_mem_cons.mpr ⟨hct_X6_at_21_0, List.forall_mem_cons.mpr ⟨hct_X6_at_23_0, List.forall_mem_cons.mpr ⟨hct_X3_apply_0, fun _ h => absurd h List.not_mem_nil⟩⟩⟩) (by decide +kernel)
def ct_X10_redo_y4 : zCt := (161, [.inr (.inr (0, 0))], [(327684, (2147483652, 2147483652)), (327685, (2147483653, 2147483668))], [(12, 0, 31), (20, 4, 4)], [.inl (some (.inl (2147483649, 2147483649)), [(327684, (2147483653, 2147483653))])], 12)
theorem hct_X10_redo_y4 : z_ctH zTb ct_X10_redo_y4 := z_ct_ok [(20, 4, 4)] z_hds_ok [ct_X3_doAgain_y4] [] 10 2 (List.forall_mem_cons.mpr ⟨hct_X3_doAgain_y4, fun _ h => absurd h List.not_mem_nil⟩) (by decide +kernel)
def ct_X3_note_d5 : zCt := (74, [.inr (.inr (20, 0)), .inl (0, 4294967295), .inl (0, 4294967295), .inl (0, 4294967295)], [(327684, (2147483653, 2147483653))], [(20, 4, 5), (21, 0, 19), (22, 0, 19), (23, 0, 19)], [.inl (none, [(327685, (2147483654, 2147483654)), (327684, (2147483654, 2147483654))])], 3)
theorem hct_X3_note_d5 : z_ctH zTb ct_X3_note_d5 := z_ct_ok [(20, 4, 5)] z_hds_ok [ct_X6_put_21_0, ct_X6_put_22_0, ct_X6_put_23_0] [] 1 2 (List.forall_mem_cons.mpr ⟨hct_X6_put_21_0, List.forall_mem_cons.mpr ⟨hct_X6_put_22_0, List.forall_mem_cons.mpr ⟨hct_X6_put_23_0, fun _ h => absurd h List.not_mem_nil⟩⟩⟩) (by decide +kernel)
def ct_X3_noteLine_d5 : zCt := (72, [.inr (.inr (20, 0)), .inl (0, 4294967295), .inl (0, 4294967295), .inl (0, 4294967295)], [(327684, (2147483653, 2147483653))], [(20, 4, 5), (21, 0, 19), (22, 0, 19), (23, 0, 19)], [.inl (none, [(327685, (2147483654, 2147483654)), (327684, (2147483654, 2147483654))])], 5)
theorem hct_X3_noteLine_d5 : z_ctH zTb ct_X3_noteLine_d5 := z_ct_ok [(20, 4, 5)] z_hds_ok [ct_X3_note_d5] [] 3 2 (List.forall_mem_cons.mpr ⟨hct_X3_note_d5, fun _ h => absurd h List.not_mem_nil⟩) (by decide +kernel)
def ct_X3_noteFrame_d5 : zCt := (73, [.inr (.inr (20, 0)), .inl (0, 4294967295), .inl (0, 4294967295), .inl (0, 4294967295)], [(327684, (2147483653, 2147483653))], [(20, 4, 5), (21, 0, 19), (22, 0, 19), (23, 0, 19)], [.inl (none, [(327685, (2147483654, 2147483654)), (327684, (2147483654, 2147483654))])], 5)
theorem hct_X3_noteFrame_d5 : z_ctH zTb ct_X3_noteFrame_d5 := z_ct_ok [(20, 4, 5)] z_hds_ok [ct_X3_note_d5] [] 3 2 (List.forall_mem_cons.mpr ⟨hct_X3_note_d5, fun _ h => absurd h List.not_mem_nil⟩) (by decide +kernel)
def ct_X3_takeBack_d5 : zCt := (76, [.inr (.inr (20, 0))], [(327684, (2147483653, 2147483653))], [(12, 0, 31), (20, 4, 4)], [.inl (some (.inl (2147483649, 2147483649)), [(327684, (2147483652, 2147483652))])], 10)
theorem hct_X3_takeBack_d5 : z_ctH zTb ct_X3_takeBack_d5 := z_ct_ok [(20, 4, 4)] z_hds_ok [ct_X6_at_21_0, ct_X6_at_22_0, ct_X3_apply_0] [] 8 2 (List.forall_mem_cons.mpr ⟨hct_X6_at_21_0, List.forall_mem_cons.mpr ⟨hct_X6_at_22_0, List.forall_mem_cons.mpr ⟨hct_X3_apply_0, fun _ h => absurd h List.not_mem_nil⟩⟩⟩) (by decide +kernel)
def ct_X10_undo_d5 : zCt := (160, [.inr (.inr (0, 0))], [(327684, (2147483653, 2147483653))], [(12, 0, 31), (20, 4, 4)], [.inl (some (.inl (2147483649, 2147483649)), [(327684, (2147483652, 2147483652))])], 12)
theorem hct_X10_undo_d5 : z_ctH zTb ct_X10_undo_d5 := z_ct_ok [(20, 4, 4)] z_hds_ok [ct_X3_takeBack_d5] [] 10 2 (List.forall_mem_cons.mpr ⟨hct_X3_takeBack_d5, fun _ h => absurd h List.not_mem_nil⟩) (by decide +kernel)
def ct_X3_doAgain_n5 : zCt := (77, [.inr (.inr (20, 0))], [(327684, (2147483653, 2147483653)), (327685, (2147483653, 2147483653))], [], [.inl (some (.inl (2147483648, 2147483648)), [])], 2)
theorem hct_X3_doAgain_n5 : z_ctH zTb ct_X3_doAgain_n5 := z_ct_ok [(20, 4, 4)] z_hds_ok [] [] 0 2 (fun _ h => absurd h List.not_mem_nil) (by decide +kernel)
def ct_X10_redo_n5 : zCt := (161, [.inr (.inr (0, 0))], [(327684, (2147483653, 2147483653)), (327685, (2147483653, 2147483653))], [], [.inl (some (.inl (2147483648, 2147483648)), [])], 4)
theorem hct_X10_redo_n5 : z_ctH zTb ct_X10_redo_n5 := z_ct_ok [(20, 4, 4)] z_hds_ok [ct_X3_doAgain_n5] [] 2 2 (List.forall_mem_cons.mpr ⟨hct_X3_doAgain_n5, fun _ h => absurd h List.not_mem_nil⟩) (by decide +kernel)
def ct_X3_doAgain_y5 : zCt := (77, [.inr (.inr (20, 0))], [(327684, (2147483653, 2147483653)), (327685, (2147483654, 2147483668))], [(12, 0, 31), (20, 4, 4)], [.inl (some (.inl (2147483649, 2147483649)), [(327684, (2147483654, 2147483654))])], 10)
theorem hct_X3_doAgain_y5 : z_ctH zTb ct_X3_doAgain_y5 := z_ct_ok [(20, 4, 4)] z_hds_ok [ct_X6_at_21_0, ct_X6_at_23_0, ct_X3_apply_0] [] 8 2 (List.forall_mem_cons.mpr ⟨hct_X6_at_21_0, List.forall_mem_cons.mpr ⟨hct_X6_at_23_0, List.forall_mem_cons.mpr ⟨hct_X3_apply_0, fun _ h => absurd h List.not_mem_nil⟩⟩⟩) (by decide +kernel)
def ct_X10_redo_y5 : zCt := (161, [.inr (.inr (0, 0))], [(327684, (2147483653, 2147483653)), (327685, (2147483654, 2147483668))], [(12, 0, 31), (20, 4, 4)], [.inl (some (.inl (2147483649, 2147483649)), [(327684, (2147483654, 2147483654))])], 12)
theorem hct_X10_redo_y5 : z_ctH zTb ct_X10_redo_y5 := z_ct_ok [(20, 4, 4)] z_hds_ok [ct_X3_doAgain_y5] [] 10 2 (List.forall_mem_cons.mpr ⟨hct_X3_doAgain_y5, fun _ h => absurd h List.not_mem_nil⟩) (by decide +kernel)
def ct_X3_note_d6 : zCt := (74, [.inr (.inr (20, 0)), .inl (0, 4294967295), .inl (0, 4294967295), .inl (0, 4294967295)], [(327684, (2147483654, 2147483654))], [(20, 4, 5), (21, 0, 19), (22, 0, 19), (23, 0, 19)], [.inl (none, [(327685, (2147483655, 2147483655)), (327684, (2147483655, 2147483655))])], 3)
theorem hct_X3_note_d6 : z_ctH zTb ct_X3_note_d6 := z_ct_ok [(20, 4, 5)] z_hds_ok [ct_X6_put_21_0, ct_X6_put_22_0, ct_X6_put_23_0] [] 1 2 (List.forall_mem_cons.mpr ⟨hct_X6_put_21_0, List.forall_mem_cons.mpr ⟨hct_X6_put_22_0, List.forall_mem_cons.mpr ⟨hct_X6_put_23_0, fun _ h => absurd h List.not_mem_nil⟩⟩⟩) (by decide +kernel)
def ct_X3_noteLine_d6 : zCt := (72, [.inr (.inr (20, 0)), .inl (0, 4294967295), .inl (0, 4294967295), .inl (0, 4294967295)], [(327684, (2147483654, 2147483654))], [(20, 4, 5), (21, 0, 19), (22, 0, 19), (23, 0, 19)], [.inl (none, [(327685, (2147483655, 2147483655)), (327684, (2147483655, 2147483655))])], 5)
theorem hct_X3_noteLine_d6 : z_ctH zTb ct_X3_noteLine_d6 := z_ct_ok [(20, 4, 5)] z_hds_ok [ct_X3_note_d6] [] 3 2 (List.forall_mem_cons.mpr ⟨hct_X3_note_d6, fun _ h => absurd h List.not_mem_nil⟩) (by decide +kernel)
def ct_X3_noteFrame_d6 : zCt := (73, [.inr (.inr (20, 0)), .inl (0, 4294967295), .inl (0, 4294967295), .inl (0, 4294967295)], [(327684, (2147483654, 2147483654))], [(20, 4, 5), (21, 0, 19), (22, 0, 19), (23, 0, 19)], [.inl (none, [(327685, (2147483655, 2147483655)), (327684, (2147483655, 2147483655))])], 5)
theorem hct_X3_noteFrame_d6 : z_ctH zTb ct_X3_noteFrame_d6 := z_ct_ok [(20, 4, 5)] z_hds_ok [ct_X3_note_d6] [] 3 2 (List.forall_mem_cons.mpr ⟨hct_X3_note_d6, fun _ h => absurd h List.not_mem_nil⟩) (by decide +kernel)
def ct_X3_takeBack_d6 : zCt := (76, [.inr (.inr (20, 0))], [(327684, (2147483654, 2147483654))], [(12, 0, 31), (20, 4, 4)], [.inl (some (.inl (2147483649, 2147483649)), [(327684, (2147483653, 2147483653))])], 10)
theorem hct_X3_takeBack_d6 : z_ctH zTb ct_X3_takeBack_d6 := z_ct_ok [(20, 4, 4)] z_hds_ok [ct_X6_at_21_0, ct_X6_at_22_0, ct_X3_apply_0] [] 8 2 (List.forall_mem_cons.mpr ⟨hct_X6_at_21_0, List.forall_mem_cons.mpr ⟨hct_X6_at_22_0, List.forall_mem_cons.mpr ⟨hct_X3_apply_0, fun _ h => absurd h List.not_mem_nil⟩⟩⟩) (by decide +kernel)
def ct_X10_undo_d6 : zCt := (160, [.inr (.inr (0, 0))], [(327684, (2147483654, 2147483654))], [(12, 0, 31), (20, 4, 4)], [.inl (some (.inl (2147483649, 2147483649)), [(327684, (2147483653, 2147483653))])], 12)
theorem hct_X10_undo_d6 : z_ctH zTb ct_X10_undo_d6 := z_ct_ok [(20, 4, 4)] z_hds_ok [ct_X3_takeBack_d6] [] 10 2 (List.forall_mem_cons.mpr ⟨hct_X3_takeBack_d6, fun _ h => absurd h List.not_mem_nil⟩) (by decide +kernel)
def ct_X3_doAgain_n6 : zCt := (77, [.inr (.inr (20, 0))], [(327684, (2147483654, 2147483654)), (327685, (2147483654, 2147483654))], [], [.inl (some (.inl (2147483648, 2147483648)), [])], 2)
theorem hct_X3_doAgain_n6 : z_ctH zTb ct_X3_doAgain_n6 := z_ct_ok [(20, 4, 4)] z_hds_ok [] [] 0 2 (fun _ h => absurd h List.not_mem_nil) (by decide +kernel)
def ct_X10_redo_n6 : zCt := (161, [.inr (.inr (0, 0))], [(327684, (2147483654, 2147483654)), (327685, (2147483654, 2147483654))], [], [.inl (some (.inl (2147483648, 2147483648)), [])], 4)
theorem hct_X10_redo_n6 : z_ctH zTb ct_X10_redo_n6 := z_ct_ok [(20, 4, 4)] z_hds_ok [ct_X3_doAgain_n6] [] 2 2 (List.forall_mem_cons.mpr ⟨hct_X3_doAgain_n6, fun _ h => absurd h List.not_mem_nil⟩) (by decide +kernel)
def ct_X3_doAgain_y6 : zCt := (77, [.inr (.inr (20, 0))], [(327684, (2147483654, 2147483654)), (327685, (2147483655, 2147483668))], [(12, 0, 31), (20, 4, 4)], [.inl (some (.inl (2147483649, 2147483649)), [(327684, (2147483655, 2147483655))])], 10)
theorem hct_X3_doAgain_y6 : z_ctH zTb ct_X3_doAgain_y6 := z_ct_ok [(20, 4, 4)] z_hds_ok [ct_X6_at_21_0, ct_X6_at_23_0, ct_X3_apply_0] [] 8 2 (List.forall_mem_cons.mpr ⟨hct_X6_at_21_0, List.forall_mem_cons.mpr ⟨hct_X6_at_23_0, List.forall_mem_cons.mpr ⟨hct_X3_apply_0, fun _ h => absurd h List.not_mem_nil⟩⟩⟩) (by decide +kernel)
def ct_X10_redo_y6 : zCt := (161, [.inr (.inr (0, 0))], [(327684, (2147483654, 2147483654)), (327685, (2147483655, 2147483668))], [(12, 0, 31), (20, 4, 4)], [.inl (some (.inl (2147483649, 2147483649)), [(327684, (2147483655, 2147483655))])], 12)
theorem hct_X10_redo_y6 : z_ctH zTb ct_X10_redo_y6 := z_ct_ok [(20, 4, 4)] z_hds_ok [ct_X3_doAgain_y6] [] 10 2 (List.forall_mem_cons.mpr ⟨hct_X3_doAgain_y6, fun _ h => absurd h List.not_mem_nil⟩) (by decide +kernel)
def ct_X3_note_d7 : zCt := (74, [.inr (.inr (20, 0)), .inl (0, 4294967295), .inl (0, 4294967295), .inl (0, 4294967295)], [(327684, (2147483655, 2147483655))], [(20, 4, 5), (21, 0, 19), (22, 0, 19), (23, 0, 19)], [.inl (none, [(327685, (2147483656, 2147483656)), (327684, (2147483656, 2147483656))])], 3)
theorem hct_X3_note_d7 : z_ctH zTb ct_X3_note_d7 := z_ct_ok [(20, 4, 5)] z_hds_ok [ct_X6_put_21_0, ct_X6_put_22_0, ct_X6_put_23_0] [] 1 2 (List.forall_mem_cons.mpr ⟨hct_X6_put_21_0, List.forall_mem_cons.mpr ⟨hct_X6_put_22_0, List.forall_mem_cons.mpr ⟨hct_X6_put_23_0, fun _ h => absurd h List.not_mem_nil⟩⟩⟩) (by decide +kernel)
def ct_X3_noteLine_d7 : zCt := (72, [.inr (.inr (20, 0)), .inl (0, 4294967295), .inl (0, 4294967295), .inl (0, 4294967295)], [(327684, (2147483655, 2147483655))], [(20, 4, 5), (21, 0, 19), (22, 0, 19), (23, 0, 19)], [.inl (none, [(327685, (2147483656, 2147483656)), (327684, (2147483656, 2147483656))])], 5)
theorem hct_X3_noteLine_d7 : z_ctH zTb ct_X3_noteLine_d7 := z_ct_ok [(20, 4, 5)] z_hds_ok [ct_X3_note_d7] [] 3 2 (List.forall_mem_cons.mpr ⟨hct_X3_note_d7, fun _ h => absurd h List.not_mem_nil⟩) (by decide +kernel)
def ct_X3_noteFrame_d7 : zCt := (73, [.inr (.inr (20, 0)), .inl (0, 4294967295), .inl (0, 4294967295), .inl (0, 4294967295)], [(327684, (2147483655, 2147483655))], [(20, 4, 5), (21, 0, 19), (22, 0, 19), (23, 0, 19)], [.inl (none, [(327685, (2147483656, 2147483656)), (327684, (2147483656, 2147483656))])], 5)
theorem hct_X3_noteFrame_d7 : z_ctH zTb ct_X3_noteFrame_d7 := z_ct_ok [(20, 4, 5)] z_hds_ok [ct_X3_note_d7] [] 3 2 (List.forall_mem_cons.mpr ⟨hct_X3_note_d7, fun _ h => absurd h List.not_mem_nil⟩) (by decide +kernel)
def ct_X3_takeBack_d7 : zCt := (76, [.inr (.inr (20, 0))], [(327684, (2147483655, 2147483655))], [(12, 0, 31), (20, 4, 4)], [.inl (some (.inl (2147483649, 2147483649)), [(327684, (2147483654, 2147483654))])], 10)
theorem hct_X3_takeBack_d7 : z_ctH zTb ct_X3_takeBack_d7 := z_ct_ok [(20, 4, 4)] z_hds_ok [ct_X6_at_21_0, ct_X6_at_22_0, ct_X3_apply_0] [] 8 2 (List.forall_mem_cons.mpr ⟨hct_X6_at_21_0, List.forall_mem_cons.mpr ⟨hct_X6_at_22_0, List.forall_mem_cons.mpr ⟨hct_X3_apply_0, fun _ h => absurd h List.not_mem_nil⟩⟩⟩) (by decide +kernel)
def ct_X10_undo_d7 : zCt := (160, [.inr (.inr (0, 0))], [(327684, (2147483655, 2147483655))], [(12, 0, 31), (20, 4, 4)], [.inl (some (.inl (2147483649, 2147483649)), [(327684, (2147483654, 2147483654))])], 12)
theorem hct_X10_undo_d7 : z_ctH zTb ct_X10_undo_d7 := z_ct_ok [(20, 4, 4)] z_hds_ok [ct_X3_takeBack_d7] [] 10 2 (List.forall_mem_cons.mpr ⟨hct_X3_takeBack_d7, fun _ h => absurd h List.not_mem_nil⟩) (by decide +kernel)
def ct_X3_doAgain_n7 : zCt := (77, [.inr (.inr (20, 0))], [(327684, (2147483655, 2147483655)), (327685, (2147483655, 2147483655))], [], [.inl (some (.inl (2147483648, 2147483648)), [])], 2)
theorem hct_X3_doAgain_n7 : z_ctH zTb ct_X3_doAgain_n7 := z_ct_ok [(20, 4, 4)] z_hds_ok [] [] 0 2 (fun _ h => absurd h List.not_mem_nil) (by decide +kernel)
def ct_X10_redo_n7 : zCt := (161, [.inr (.inr (0, 0))], [(327684, (2147483655, 2147483655)), (327685, (2147483655, 2147483655))], [], [.inl (some (.inl (2147483648, 2147483648)), [])], 4)
theorem hct_X10_redo_n7 : z_ctH zTb ct_X10_redo_n7 := z_ct_ok [(20, 4, 4)] z_hds_ok [ct_X3_doAgain_n7] [] 2 2 (List.forall_mem_cons.mpr ⟨hct_X3_doAgain_n7, fun _ h => absurd h List.not_mem_nil⟩) (by decide +kernel)
def ct_X3_doAgain_y7 : zCt := (77, [.inr (.inr (20, 0))], [(327684, (2147483655, 2147483655)), (327685, (2147483656, 2147483668))], [(12, 0, 31), (20, 4, 4)], [.inl (some (.inl (2147483649, 2147483649)), [(327684, (2147483656, 2147483656))])], 10)
theorem hct_X3_doAgain_y7 : z_ctH zTb ct_X3_doAgain_y7 := z_ct_ok [(20, 4, 4)] z_hds_ok [ct_X6_at_21_0, ct_X6_at_23_0, ct_X3_apply_0] [] 8 2 (List.forall_mem_cons.mpr ⟨hct_X6_at_21_0, List.forall_mem_cons.mpr ⟨hct_X6_at_23_0, List.forall_mem_cons.mpr ⟨hct_X3_apply_0, fun _ h => absurd h List.not_mem_nil⟩⟩⟩) (by decide +kernel)
def ct_X10_redo_y7 : zCt := (161, [.inr (.inr (0, 0))], [(327684, (2147483655, 2147483655)), (327685, (2147483656, 2147483668))], [(12, 0, 31), (20, 4, 4)], [.inl (some (.inl (2147483649, 2147483649)), [(327684, (2147483656, 2147483656))])], 12)
theorem hct_X10_redo_y7 : z_ctH zTb ct_X10_redo_y7 := z_ct_ok [(20, 4, 4)] z_hds_ok [ct_X3_doAgain_y7] [] 10 2 (List.forall_mem_cons.mpr ⟨hct_X3_doAgain_y7, fun _ h => absurd h List.not_mem_nil⟩) (by decide +kernel)
def ct_X3_note_d8 : zCt := (74, [.inr (.inr (20, 0)), .inl (0, 4294967295), .inl (0, 4294967295), .inl (0, 4294967295)], [(327684, (2147483656, 2147483656))], [(20, 4, 5), (21, 0, 19), (22, 0, 19), (23, 0, 19)], [.inl (none, [(327685, (2147483657, 2147483657)), (327684, (2147483657, 2147483657))])], 3)
theorem hct_X3_note_d8 : z_ctH zTb ct_X3_note_d8 := z_ct_ok [(20, 4, 5)] z_hds_ok [ct_X6_put_21_0, ct_X6_put_22_0, ct_X6_put_23_0] [] 1 2 (List.forall_mem_cons.mpr ⟨hct_X6_put_21_0, List.forall_mem_cons.mpr ⟨hct_X6_put_22_0, List.forall_mem_cons.mpr ⟨hct_X6_put_23_0, fun _ h => absurd h List.not_mem_nil⟩⟩⟩) (by decide +kernel)
def ct_X3_noteLine_d8 : zCt := (72, [.inr (.inr (20, 0)), .inl (0, 4294967295), .inl (0, 4294967295), .inl (0, 4294967295)], [(327684, (2147483656, 2147483656))], [(20, 4, 5), (21, 0, 19), (22, 0, 19), (23, 0, 19)], [.inl (none, [(327685, (2147483657, 2147483657)), (327684, (2147483657, 2147483657))])], 5)
theorem hct_X3_noteLine_d8 : z_ctH zTb ct_X3_noteLine_d8 := z_ct_ok [(20, 4, 5)] z_hds_ok [ct_X3_note_d8] [] 3 2 (List.forall_mem_cons.mpr ⟨hct_X3_note_d8, fun _ h => absurd h List.not_mem_nil⟩) (by decide +kernel)
def ct_X3_noteFrame_d8 : zCt := (73, [.inr (.inr (20, 0)), .inl (0, 4294967295), .inl (0, 4294967295), .inl (0, 4294967295)], [(327684, (2147483656, 2147483656))], [(20, 4, 5), (21, 0, 19), (22, 0, 19), (23, 0, 19)], [.inl (none, [(327685, (2147483657, 2147483657)), (327684, (2147483657, 2147483657))])], 5)
theorem hct_X3_noteFrame_d8 : z_ctH zTb ct_X3_noteFrame_d8 := z_ct_ok [(20, 4, 5)] z_hds_ok [ct_X3_note_d8] [] 3 2 (List.forall_mem_cons.mpr ⟨hct_X3_note_d8, fun _ h => absurd h List.not_mem_nil⟩) (by decide +kernel)
def ct_X3_takeBack_d8 : zCt := (76, [.inr (.inr (20, 0))], [(327684, (2147483656, 2147483656))], [(12, 0, 31), (20, 4, 4)], [.inl (some (.inl (2147483649, 2147483649)), [(327684, (2147483655, 2147483655))])], 10)
theorem hct_X3_takeBack_d8 : z_ctH zTb ct_X3_takeBack_d8 := z_ct_ok [(20, 4, 4)] z_hds_ok [ct_X6_at_21_0, ct_X6_at_22_0, ct_X3_apply_0] [] 8 2 (List.forall_mem_cons.mpr ⟨hct_X6_at_21_0, List.forall_mem_cons.mpr ⟨hct_X6_at_22_0, List.forall_mem_cons.mpr ⟨hct_X3_apply_0, fun _ h => absurd h List.not_mem_nil⟩⟩⟩) (by decide +kernel)
def ct_X10_undo_d8 : zCt := (160, [.inr (.inr (0, 0))], [(327684, (2147483656, 2147483656))], [(12, 0, 31), (20, 4, 4)], [.inl (some (.inl (2147483649, 2147483649)), [(327684, (2147483655, 2147483655))])], 12)
theorem hct_X10_undo_d8 : z_ctH zTb ct_X10_undo_d8 := z_ct_ok [(20, 4, 4)] z_hds_ok [ct_X3_takeBack_d8] [] 10 2 (List.forall_mem_cons.mpr ⟨hct_X3_takeBack_d8, fun _ h => absurd h List.not_mem_nil⟩) (by decide +kernel)
def ct_X3_doAgain_n8 : zCt := (77, [.inr (.inr (20, 0))], [(327684, (2147483656, 2147483656)), (327685, (2147483656, 2147483656))], [], [.inl (some (.inl (2147483648, 2147483648)), [])], 2)
theorem hct_X3_doAgain_n8 : z_ctH zTb ct_X3_doAgain_n8 := z_ct_ok [(20, 4, 4)] z_hds_ok [] [] 0 2 (fun _ h => absurd h List.not_mem_nil) (by decide +kernel)
def ct_X10_redo_n8 : zCt := (161, [.inr (.inr (0, 0))], [(327684, (2147483656, 2147483656)), (327685, (2147483656, 2147483656))], [], [.inl (some (.inl (2147483648, 2147483648)), [])], 4)
theorem hct_X10_redo_n8 : z_ctH zTb ct_X10_redo_n8 := z_ct_ok [(20, 4, 4)] z_hds_ok [ct_X3_doAgain_n8] [] 2 2 (List.forall_mem_cons.mpr ⟨hct_X3_doAgain_n8, fun _ h => absurd h List.not_mem_nil⟩) (by decide +kernel)
def ct_X3_doAgain_y8 : zCt := (77, [.inr (.inr (20, 0))], [(327684, (2147483656, 2147483656)), (327685, (2147483657, 2147483668))], [(12, 0, 31), (20, 4, 4)], [.inl (some (.inl (2147483649, 2147483649)), [(327684, (2147483657, 2147483657))])], 10)
theorem hct_X3_doAgain_y8 : z_ctH zTb ct_X3_doAgain_y8 := z_ct_ok [(20, 4, 4)] z_hds_ok [ct_X6_at_21_0, ct_X6_at_23_0, ct_X3_apply_0] [] 8 2 (List.forall_mem_cons.mpr ⟨hct_X6_at_21_0, List.forall_mem_cons.mpr ⟨hct_X6_at_23_0, List.forall_mem_cons.mpr ⟨hct_X3_apply_0, fun _ h => absurd h List.not_mem_nil⟩⟩⟩) (by decide +kernel)
def ct_X10_redo_y8 : zCt := (161, [.inr (.inr (0, 0))], [(327684, (2147483656, 2147483656)), (327685, (2147483657, 2147483668))], [(12, 0, 31), (20, 4, 4)], [.inl (some (.inl (2147483649, 2147483649)), [(327684, (2147483657, 2147483657))])], 12)
theorem hct_X10_redo_y8 : z_ctH zTb ct_X10_redo_y8 := z_ct_ok [(20, 4, 4)] z_hds_ok [ct_X3_doAgain_y8] [] 10 2 (List.forall_mem_cons.mpr ⟨hct_X3_doAgain_y8, fun _ h => absurd h List.not_mem_nil⟩) (by decide +kernel)
def ct_X3_note_d9 : zCt := (74, [.inr (.inr (20, 0)), .inl (0, 4294967295), .inl (0, 4294967295), .inl (0, 4294967295)], [(327684, (2147483657, 2147483657))], [(20, 4, 5), (21, 0, 19), (22, 0, 19), (23, 0, 19)], [.inl (none, [(327685, (2147483658, 2147483658)), (327684, (2147483658, 2147483658))])], 3)
theorem hct_X3_note_d9 : z_ctH zTb ct_X3_note_d9 := z_ct_ok [(20, 4, 5)] z_hds_ok [ct_X6_put_21_0, ct_X6_put_22_0, ct_X6_put_23_0] [] 1 2 (List.forall_mem_cons.mpr ⟨hct_X6_put_21_0, List.forall_mem_cons.mpr ⟨hct_X6_put_22_0, List.forall_mem_cons.mpr ⟨hct_X6_put_23_0, fun _ h => absurd h List.not_mem_nil⟩⟩⟩) (by decide +kernel)
def ct_X3_noteLine_d9 : zCt := (72, [.inr (.inr (20, 0)), .inl (0, 4294967295), .inl (0, 4294967295), .inl (0, 4294967295)], [(327684, (2147483657, 2147483657))], [(20, 4, 5), (21, 0, 19), (22, 0, 19), (23, 0, 19)], [.inl (none, [(327685, (2147483658, 2147483658)), (327684, (2147483658, 2147483658))])], 5)
theorem hct_X3_noteLine_d9 : z_ctH zTb ct_X3_noteLine_d9 := z_ct_ok [(20, 4, 5)] z_hds_ok [ct_X3_note_d9] [] 3 2 (List.forall_mem_cons.mpr ⟨hct_X3_note_d9, fun _ h => absurd h List.not_mem_nil⟩) (by decide +kernel)
def ct_X3_noteFrame_d9 : zCt := (73, [.inr (.inr (20, 0)), .inl (0, 4294967295), .inl (0, 4294967295), .inl (0, 4294967295)], [(327684, (2147483657, 2147483657))], [(20, 4, 5), (21, 0, 19), (22, 0, 19), (23, 0, 19)], [.inl (none, [(327685, (2147483658, 2147483658)), (327684, (2147483658, 2147483658))])], 5)
theorem hct_X3_noteFrame_d9 : z_ctH zTb ct_X3_noteFrame_d9 := z_ct_ok [(20, 4, 5)] z_hds_ok [ct_X3_note_d9] [] 3 2 (List.forall_mem_cons.mpr ⟨hct_X3_note_d9, fun _ h => absurd h List.not_mem_nil⟩) (by decide +kernel)
def ct_X3_takeBack_d9 : zCt := (76, [.inr (.inr (20, 0))], [(327684, (2147483657, 2147483657))], [(12, 0, 31), (20, 4, 4)], [.inl (some (.inl (2147483649, 2147483649)), [(327684, (2147483656, 2147483656))])], 10)
theorem hct_X3_takeBack_d9 : z_ctH zTb ct_X3_takeBack_d9 := z_ct_ok [(20, 4, 4)] z_hds_ok [ct_X6_at_21_0, ct_X6_at_22_0, ct_X3_apply_0] [] 8 2 (List.forall_mem_cons.mpr ⟨hct_X6_at_21_0, List.forall_mem_cons.mpr ⟨hct_X6_at_22_0, List.forall_mem_cons.mpr ⟨hct_X3_apply_0, fun _ h => absurd h List.not_mem_nil⟩⟩⟩) (by decide +kernel)
def ct_X10_undo_d9 : zCt := (160, [.inr (.inr (0, 0))], [(327684, (2147483657, 2147483657))], [(12, 0, 31), (20, 4, 4)], [.inl (some (.inl (2147483649, 2147483649)), [(327684, (2147483656, 2147483656))])], 12)
theorem hct_X10_undo_d9 : z_ctH zTb ct_X10_undo_d9 := z_ct_ok [(20, 4, 4)] z_hds_ok [ct_X3_takeBack_d9] [] 10 2 (List.forall_mem_cons.mpr ⟨hct_X3_takeBack_d9, fun _ h => absurd h List.not_mem_nil⟩) (by decide +kernel)
def ct_X3_doAgain_n9 : zCt := (77, [.inr (.inr (20, 0))], [(327684, (2147483657, 2147483657)), (327685, (2147483657, 2147483657))], [], [.inl (some (.inl (2147483648, 2147483648)), [])], 2)
theorem hct_X3_doAgain_n9 : z_ctH zTb ct_X3_doAgain_n9 := z_ct_ok [(20, 4, 4)] z_hds_ok [] [] 0 2 (fun _ h => absurd h List.not_mem_nil) (by decide +kernel)
def ct_X10_redo_n9 : zCt := (161, [.inr (.inr (0, 0))], [(327684, (2147483657, 2147483657)), (327685, (2147483657, 2147483657))], [], [.inl (some (.inl (2147483648, 2147483648)), [])], 4)
theorem hct_X10_redo_n9 : z_ctH zTb ct_X10_redo_n9 := z_ct_ok [(20, 4, 4)] z_hds_ok [ct_X3_doAgain_n9] [] 2 2 (List.forall_mem_cons.mpr ⟨hct_X3_doAgain_n9, fun _ h => absurd h List.not_mem_nil⟩) (by decide +kernel)
def ct_X3_doAgain_y9 : zCt := (77, [.inr (.inr (20, 0))], [(327684, (2147483657, 2147483657)), (327685, (2147483658, 2147483668))], [(12, 0, 31), (20, 4, 4)], [.inl (some (.inl (2147483649, 2147483649)), [(327684, (2147483658, 2147483658))])], 10)
theorem hct_X3_doAgain_y9 : z_ctH zTb ct_X3_doAgain_y9 := z_ct_ok [(20, 4, 4)] z_hds_ok [ct_X6_at_21_0, ct_X6_at_23_0, ct_X3_apply_0] [] 8 2 (List.forall_mem_cons.mpr ⟨hct_X6_at_21_0, List.forall_mem_cons.mpr ⟨hct_X6_at_23_0, List.forall_mem_cons.mpr ⟨hct_X3_apply_0, fun _ h => absurd h List.not_mem_nil⟩⟩⟩) (by decide +kernel)
def ct_X10_redo_y9 : zCt := (161, [.inr (.inr (0, 0))], [(327684, (2147483657, 2147483657)), (327685, (2147483658, 2147483668))], [(12, 0, 31), (20, 4, 4)], [.inl (some (.inl (2147483649, 2147483649)), [(327684, (2147483658, 2147483658))])], 12)
theorem hct_X10_redo_y9 : z_ctH zTb ct_X10_redo_y9 := z_ct_ok [(20, 4, 4)] z_hds_ok [ct_X3_doAgain_y9] [] 10 2 (List.forall_mem_cons.mpr ⟨hct_X3_doAgain_y9, fun _ h => absurd h List.not_mem_nil⟩) (by decide +kernel)
def ct_X3_note_d10 : zCt := (74, [.inr (.inr (20, 0)), .inl (0, 4294967295), .inl (0, 4294967295), .inl (0, 4294967295)], [(327684, (2147483658, 2147483658))], [(20, 4, 5), (21, 0, 19), (22, 0, 19), (23, 0, 19)], [.inl (none, [(327685, (2147483659, 2147483659)), (327684, (2147483659, 2147483659))])], 3)
theorem hct_X3_note_d10 : z_ctH zTb ct_X3_note_d10 := z_ct_ok [(20, 4, 5)] z_hds_ok [ct_X6_put_21_0, ct_X6_put_22_0, ct_X6_put_23_0] [] 1 2 (List.forall_mem_cons.mpr ⟨hct_X6_put_21_0, List.forall_mem_cons.mpr ⟨hct_X6_put_22_0, List.forall_mem_cons.mpr ⟨hct_X6_put_23_0, fun _ h => absurd h List.not_mem_nil⟩⟩⟩) (by decide +kernel)
def ct_X3_noteLine_d10 : zCt := (72, [.inr (.inr (20, 0)), .inl (0, 4294967295), .inl (0, 4294967295), .inl (0, 4294967295)], [(327684, (2147483658, 2147483658))], [(20, 4, 5), (21, 0, 19), (22, 0, 19), (23, 0, 19)], [.inl (none, [(327685, (2147483659, 2147483659)), (327684, (2147483659, 2147483659))])], 5)
theorem hct_X3_noteLine_d10 : z_ctH zTb ct_X3_noteLine_d10 := z_ct_ok [(20, 4, 5)] z_hds_ok [ct_X3_note_d10] [] 3 2 (List.forall_mem_cons.mpr ⟨hct_X3_note_d10, fun _ h => absurd h List.not_mem_nil⟩) (by decide +kernel)
def ct_X3_noteFrame_d10 : zCt := (73, [.inr (.inr (20, 0)), .inl (0, 4294967295), .inl (0, 4294967295), .inl (0, 4294967295)], [(327684, (2147483658, 2147483658))], [(20, 4, 5), (21, 0, 19), (22, 0, 19), (23, 0, 19)], [.inl (none, [(327685, (2147483659, 2147483659)), (327684, (2147483659, 2147483659))])], 5)
theorem hct_X3_noteFrame_d10 : z_ctH zTb ct_X3_noteFrame_d10 := z_ct_ok [(20, 4, 5)] z_hds_ok [ct_X3_note_d10] [] 3 2 (List.forall_mem_cons.mpr ⟨hct_X3_note_d10, fun _ h => absurd h List.not_mem_nil⟩) (by decide +kernel)
def ct_X3_takeBack_d10 : zCt := (76, [.inr (.inr (20, 0))], [(327684, (2147483658, 2147483658))], [(12, 0, 31), (20, 4, 4)], [.inl (some (.inl (2147483649, 2147483649)), [(327684, (2147483657, 2147483657))])], 10)
theorem hct_X3_takeBack_d10 : z_ctH zTb ct_X3_takeBack_d10 := z_ct_ok [(20, 4, 4)] z_hds_ok [ct_X6_at_21_0, ct_X6_at_22_0, ct_X3_apply_0] [] 8 2 (List.forall_mem_cons.mpr ⟨hct_X6_at_21_0, List.forall_mem_cons.mpr ⟨hct_X6_at_22_0, List.forall_mem_cons.mpr ⟨hct_X3_apply_0, fun _ h => absurd h List.not_mem_nil⟩⟩⟩) (by decide +kernel)
def ct_X10_undo_d10 : zCt := (160, [.inr (.inr (0, 0))], [(327684, (2147483658, 2147483658))], [(12, 0, 31), (20, 4, 4)], [.inl (some (.inl (2147483649, 2147483649)), [(327684, (2147483657, 2147483657))])], 12)
theorem hct_X10_undo_d10 : z_ctH zTb ct_X10_undo_d10 := z_ct_ok [(20, 4, 4)] z_hds_ok [ct_X3_takeBack_d10] [] 10 2 (List.forall_mem_cons.mpr ⟨hct_X3_takeBack_d10, fun _ h => absurd h List.not_mem_nil⟩) (by decide +kernel)
def ct_X3_doAgain_n10 : zCt := (77, [.inr (.inr (20, 0))], [(327684, (2147483658, 2147483658)), (327685, (2147483658, 2147483658))], [], [.inl (some (.inl (2147483648, 2147483648)), [])], 2)
theorem hct_X3_doAgain_n10 : z_ctH zTb ct_X3_doAgain_n10 := z_ct_ok [(20, 4, 4)] z_hds_ok [] [] 0 2 (fun _ h => absurd h List.not_mem_nil) (by decide +kernel)
def ct_X10_redo_n10 : zCt := (161, [.inr (.inr (0, 0))], [(327684, (2147483658, 2147483658)), (327685, (2147483658, 2147483658))], [], [.inl (some (.inl (2147483648, 2147483648)), [])], 4)
theorem hct_X10_redo_n10 : z_ctH zTb ct_X10_redo_n10 := z_ct_ok [(20, 4, 4)] z_hds_ok [ct_X3_doAgain_n10] [] 2 2 (List.forall_mem_cons.mpr ⟨hct_X3_doAgain_n10, fun _ h => absurd h List.not_mem_nil⟩) (by decide +kernel)
def ct_X3_doAgain_y10 : zCt := (77, [.inr (.inr (20, 0))], [(327684, (2147483658, 2147483658)), (327685, (2147483659, 2147483668))], [(12, 0, 31), (20, 4, 4)], [.inl (some (.inl (2147483649, 2147483649)), [(327684, (2147483659, 2147483659))])], 10)
theorem hct_X3_doAgain_y10 : z_ctH zTb ct_X3_doAgain_y10 := z_ct_ok [(20, 4, 4)] z_hds_ok [ct_X6_at_21_0, ct_X6_at_23_0, ct_X3_apply_0] [] 8 2 (List.forall_mem_cons.mpr ⟨hct_X6_at_21_0, List.forall_mem_cons.mpr ⟨hct_X6_at_23_0, List.forall_mem_cons.mpr ⟨hct_X3_apply_0, fun _ h => absurd h List.not_mem_nil⟩⟩⟩) (by decide +kernel)
def ct_X10_redo_y10 : zCt := (161, [.inr (.inr (0, 0))], [(327684, (2147483658, 2147483658)), (327685, (2147483659, 2147483668))], [(12, 0, 31), (20, 4, 4)], [.inl (some (.inl (2147483649, 2147483649)), [(327684, (2147483659, 2147483659))])], 12)
theorem hct_X10_redo_y10 : z_ctH zTb ct_X10_redo_y10 := z_ct_ok [(20, 4, 4)] z_hds_ok [ct_X3_doAgain_y10] [] 10 2 (List.forall_mem_cons.mpr ⟨hct_X3_doAgain_y10, fun _ h => absurd h List.not_mem_nil⟩) (by decide +kernel)
def ct_X3_note_d11 : zCt := (74, [.inr (.inr (20, 0)), .inl (0, 4294967295), .inl (0, 4294967295), .inl (0, 4294967295)], [(327684, (2147483659, 2147483659))], [(20, 4, 5), (21, 0, 19), (22, 0, 19), (23, 0, 19)], [.inl (none, [(327685, (2147483660, 2147483660)), (327684, (2147483660, 2147483660))])], 3)
theorem hct_X3_note_d11 : z_ctH zTb ct_X3_note_d11 := z_ct_ok [(20, 4, 5)] z_hds_ok [ct_X6_put_21_0, ct_X6_put_22_0, ct_X6_put_23_0] [] 1 2 (List.forall_mem_cons.mpr ⟨hct_X6_put_21_0, List.forall_mem_cons.mpr ⟨hct_X6_put_22_0, List.forall_mem_cons.mpr ⟨hct_X6_put_23_0, fun _ h => absurd h List.not_mem_nil⟩⟩⟩) (by decide +kernel)
def ct_X3_noteLine_d11 : zCt := (72, [.inr (.inr (20, 0)), .inl (0, 4294967295), .inl (0, 4294967295), .inl (0, 4294967295)], [(327684, (2147483659, 2147483659))], [(20, 4, 5), (21, 0, 19), (22, 0, 19), (23, 0, 19)], [.inl (none, [(327685, (2147483660, 2147483660)), (327684, (2147483660, 2147483660))])], 5)
theorem hct_X3_noteLine_d11 : z_ctH zTb ct_X3_noteLine_d11 := z_ct_ok [(20, 4, 5)] z_hds_ok [ct_X3_note_d11] [] 3 2 (List.forall_mem_cons.mpr ⟨hct_X3_note_d11, fun _ h => absurd h List.not_mem_nil⟩) (by decide +kernel)
def ct_X3_noteFrame_d11 : zCt := (73, [.inr (.inr (20, 0)), .inl (0, 4294967295), .inl (0, 4294967295), .inl (0, 4294967295)], [(327684, (2147483659, 2147483659))], [(20, 4, 5), (21, 0, 19), (22, 0, 19), (23, 0, 19)], [.inl (none, [(327685, (2147483660, 2147483660)), (327684, (2147483660, 2147483660))])], 5)
theorem hct_X3_noteFrame_d11 : z_ctH zTb ct_X3_noteFrame_d11 := z_ct_ok [(20, 4, 5)] z_hds_ok [ct_X3_note_d11] [] 3 2 (List.forall_mem_cons.mpr ⟨hct_X3_note_d11, fun _ h => absurd h List.not_mem_nil⟩) (by decide +kernel)
def ct_X3_takeBack_d11 : zCt := (76, [.inr (.inr (20, 0))], [(327684, (2147483659, 2147483659))], [(12, 0, 31), (20, 4, 4)], [.inl (some (.inl (2147483649, 2147483649)), [(327684, (2147483658, 2147483658))])], 10)
theorem hct_X3_takeBack_d11 : z_ctH zTb ct_X3_takeBack_d11 := z_ct_ok [(20, 4, 4)] z_hds_ok [ct_X6_at_21_0, ct_X6_at_22_0, ct_X3_apply_0] [] 8 2 (List.forall_mem_cons.mpr ⟨hct_X6_at_21_0, List.forall_mem_cons.mpr ⟨hct_X6_at_22_0, List.forall_mem_cons.mpr ⟨hct_X3_apply_0, fun _ h => absurd h List.not_mem_nil⟩⟩⟩) (by decide +kernel)
def ct_X10_undo_d11 : zCt := (160, [.inr (.inr (0, 0))], [(327684, (2147483659, 2147483659))], [(12, 0, 31), (20, 4, 4)], [.inl (some (.inl (2147483649, 2147483649)), [(327684, (2147483658, 2147483658))])], 12)
theorem hct_X10_undo_d11 : z_ctH zTb ct_X10_undo_d11 := z_ct_ok [(20, 4, 4)] z_hds_ok [ct_X3_takeBack_d11] [] 10 2 (List.forall_mem_cons.mpr ⟨hct_X3_takeBack_d11, fun _ h => absurd h List.not_mem_nil⟩) (by decide +kernel)
def ct_X3_doAgain_n11 : zCt := (77, [.inr (.inr (20, 0))], [(327684, (2147483659, 2147483659)), (327685, (2147483659, 2147483659))], [], [.inl (some (.inl (2147483648, 2147483648)), [])], 2)
theorem hct_X3_doAgain_n11 : z_ctH zTb ct_X3_doAgain_n11 := z_ct_ok [(20, 4, 4)] z_hds_ok [] [] 0 2 (fun _ h => absurd h List.not_mem_nil) (by decide +kernel)
def ct_X10_redo_n11 : zCt := (161, [.inr (.inr (0, 0))], [(327684, (2147483659, 2147483659)), (327685, (2147483659, 2147483659))], [], [.inl (some (.inl (2147483648, 2147483648)), [])], 4)
theorem hct_X10_redo_n11 : z_ctH zTb ct_X10_redo_n11 := z_ct_ok [(20, 4, 4)] z_hds_ok [ct_X3_doAgain_n11] [] 2 2 (List.forall_mem_cons.mpr ⟨hct_X3_doAgain_n11, fun _ h => absurd h List.not_mem_nil⟩) (by decide +kernel)
def ct_X3_doAgain_y11 : zCt := (77, [.inr (.inr (20, 0))], [(327684, (2147483659, 2147483659)), (327685, (2147483660, 2147483668))], [(12, 0, 31), (20, 4, 4)], [.inl (some (.inl (2147483649, 2147483649)), [(327684, (2147483660, 2147483660))])], 10)
theorem hct_X3_doAgain_y11 : z_ctH zTb ct_X3_doAgain_y11 := z_ct_ok [(20, 4, 4)] z_hds_ok [ct_X6_at_21_0, ct_X6_at_23_0, ct_X3_apply_0] [] 8 2 (List.forall_mem_cons.mpr ⟨hct_X6_at_21_0, List.forall_mem_cons.mpr ⟨hct_X6_at_23_0, List.forall_mem_cons.mpr ⟨hct_X3_apply_0, fun _ h => absurd h List.not_mem_nil⟩⟩⟩) (by decide +kernel)
def ct_X10_redo_y11 : zCt := (161, [.inr (.inr (0, 0))], [(327684, (2147483659, 2147483659)), (327685, (2147483660, 2147483668))], [(12, 0, 31), (20, 4, 4)], [.inl (some (.inl (2147483649, 2147483649)), [(327684, (2147483660, 2147483660))])], 12)
theorem hct_X10_redo_y11 : z_ctH zTb ct_X10_redo_y11 := z_ct_ok [(20, 4, 4)] z_hds_ok [ct_X3_doAgain_y11] [] 10 2 (List.forall_mem_cons.mpr ⟨hct_X3_doAgain_y11, fun _ h => absurd h List.not_mem_nil⟩) (by decide +kernel)
def ct_X3_note_d12 : zCt := (74, [.inr (.inr (20, 0)), .inl (0, 4294967295), .inl (0, 4294967295), .inl (0, 4294967295)], [(327684, (2147483660, 2147483660))], [(20, 4, 5), (21, 0, 19), (22, 0, 19), (23, 0, 19)], [.inl (none, [(327685, (2147483661, 2147483661)), (327684, (2147483661, 2147483661))])], 3)
theorem hct_X3_note_d12 : z_ctH zTb ct_X3_note_d12 := z_ct_ok [(20, 4, 5)] z_hds_ok [ct_X6_put_21_0, ct_X6_put_22_0, ct_X6_put_23_0] [] 1 2 (List.forall_mem_cons.mpr ⟨hct_X6_put_21_0, List.forall_mem_cons.mpr ⟨hct_X6_put_22_0, List.forall_mem_cons.mpr ⟨hct_X6_put_23_0, fun _ h => absurd h List.not_mem_nil⟩⟩⟩) (by decide +kernel)
def ct_X3_noteLine_d12 : zCt := (72, [.inr (.inr (20, 0)), .inl (0, 4294967295), .inl (0, 4294967295), .inl (0, 4294967295)], [(327684, (2147483660, 2147483660))], [(20, 4, 5), (21, 0, 19), (22, 0, 19), (23, 0, 19)], [.inl (none, [(327685, (2147483661, 2147483661)), (327684, (2147483661, 2147483661))])], 5)
theorem hct_X3_noteLine_d12 : z_ctH zTb ct_X3_noteLine_d12 := z_ct_ok [(20, 4, 5)] z_hds_ok [ct_X3_note_d12] [] 3 2 (List.forall_mem_cons.mpr ⟨hct_X3_note_d12, fun _ h => absurd h List.not_mem_nil⟩) (by decide +kernel)
def ct_X3_noteFrame_d12 : zCt := (73, [.inr (.inr (20, 0)), .inl (0, 4294967295), .inl (0, 4294967295), .inl (0, 4294967295)], [(327684, (2147483660, 2147483660))], [(20, 4, 5), (21, 0, 19), (22, 0, 19), (23, 0, 19)], [.inl (none, [(327685, (2147483661, 2147483661)), (327684, (2147483661, 2147483661))])], 5)
theorem hct_X3_noteFrame_d12 : z_ctH zTb ct_X3_noteFrame_d12 := z_ct_ok [(20, 4, 5)] z_hds_ok [ct_X3_note_d12] [] 3 2 (List.forall_mem_cons.mpr ⟨hct_X3_note_d12, fun _ h => absurd h List.not_mem_nil⟩) (by decide +kernel)
def ct_X3_takeBack_d12 : zCt := (76, [.inr (.inr (20, 0))], [(327684, (2147483660, 2147483660))], [(12, 0, 31), (20, 4, 4)], [.inl (some (.inl (2147483649, 2147483649)), [(327684, (2147483659, 2147483659))])], 10)
theorem hct_X3_takeBack_d12 : z_ctH zTb ct_X3_takeBack_d12 := z_ct_ok [(20, 4, 4)] z_hds_ok [ct_X6_at_21_0, ct_X6_at_22_0, ct_X3_apply_0] [] 8 2 (List.forall_mem_cons.mpr ⟨hct_X6_at_21_0, List.forall_mem_cons.mpr ⟨hct_X6_at_22_0, List.forall_mem_cons.mpr ⟨hct_X3_apply_0, fun _ h => absurd h List.not_mem_nil⟩⟩⟩) (by decide +kernel)
def ct_X10_undo_d12 : zCt := (160, [.inr (.inr (0, 0))], [(327684, (2147483660, 2147483660))], [(12, 0, 31), (20, 4, 4)], [.inl (some (.inl (2147483649, 2147483649)), [(327684, (2147483659, 2147483659))])], 12)
theorem hct_X10_undo_d12 : z_ctH zTb ct_X10_undo_d12 := z_ct_ok [(20, 4, 4)] z_hds_ok [ct_X3_takeBack_d12] [] 10 2 (List.forall_mem_cons.mpr ⟨hct_X3_takeBack_d12, fun _ h => absurd h List.not_mem_nil⟩) (by decide +kernel)
def ct_X3_doAgain_n12 : zCt := (77, [.inr (.inr (20, 0))], [(327684, (2147483660, 2147483660)), (327685, (2147483660, 2147483660))], [], [.inl (some (.inl (2147483648, 2147483648)), [])], 2)
theorem hct_X3_doAgain_n12 : z_ctH zTb ct_X3_doAgain_n12 := z_ct_ok [(20, 4, 4)] z_hds_ok [] [] 0 2 (fun _ h => absurd h List.not_mem_nil) (by decide +kernel)
def ct_X10_redo_n12 : zCt := (161, [.inr (.inr (0, 0))], [(327684, (2147483660, 2147483660)), (327685, (2147483660, 2147483660))], [], [.inl (some (.inl (2147483648, 2147483648)), [])], 4)
theorem hct_X10_redo_n12 : z_ctH zTb ct_X10_redo_n12 := z_ct_ok [(20, 4, 4)] z_hds_ok [ct_X3_doAgain_n12] [] 2 2 (List.forall_mem_cons.mpr ⟨hct_X3_doAgain_n12, fun _ h => absurd h List.not_mem_nil⟩) (by decide +kernel)
def ct_X3_doAgain_y12 : zCt := (77, [.inr (.inr (20, 0))], [(327684, (2147483660, 2147483660)), (327685, (2147483661, 2147483668))], [(12, 0, 31), (20, 4, 4)], [.inl (some (.inl (2147483649, 2147483649)), [(327684, (2147483661, 2147483661))])], 10)
theorem hct_X3_doAgain_y12 : z_ctH zTb ct_X3_doAgain_y12 := z_ct_ok [(20, 4, 4)] z_hds_ok [ct_X6_at_21_0, ct_X6_at_23_0, ct_X3_apply_0] [] 8 2 (List.forall_mem_cons.mpr ⟨hct_X6_at_21_0, List.forall_mem_cons.mpr ⟨hct_X6_at_23_0, List.forall_mem_cons.mpr ⟨hct_X3_apply_0, fun _ h => absurd h List.not_mem_nil⟩⟩⟩) (by decide +kernel)
def ct_X10_redo_y12 : zCt := (161, [.inr (.inr (0, 0))], [(327684, (2147483660, 2147483660)), (327685, (2147483661, 2147483668))], [(12, 0, 31), (20, 4, 4)], [.inl (some (.inl (2147483649, 2147483649)), [(327684, (2147483661, 2147483661))])], 12)
theorem hct_X10_redo_y12 : z_ctH zTb ct_X10_redo_y12 := z_ct_ok [(20, 4, 4)] z_hds_ok [ct_X3_doAgain_y12] [] 10 2 (List.forall_mem_cons.mpr ⟨hct_X3_doAgain_y12, fun _ h => absurd h List.not_mem_nil⟩) (by decide +kernel)
def ct_X3_note_d13 : zCt := (74, [.inr (.inr (20, 0)), .inl (0, 4294967295), .inl (0, 4294967295), .inl (0, 4294967295)], [(327684, (2147483661, 2147483661))], [(20, 4, 5), (21, 0, 19), (22, 0, 19), (23, 0, 19)], [.inl (none, [(327685, (2147483662, 2147483662)), (327684, (2147483662, 2147483662))])], 3)
theorem hct_X3_note_d13 : z_ctH zTb ct_X3_note_d13 := z_ct_ok [(20, 4, 5)] z_hds_ok [ct_X6_put_21_0, ct_X6_put_22_0, ct_X6_put_23_0] [] 1 2 (List.forall_mem_cons.mpr ⟨hct_X6_put_21_0, List.forall_mem_cons.mpr ⟨hct_X6_put_22_0, List.forall_mem_cons.mpr ⟨hct_X6_put_23_0, fun _ h => absurd h List.not_mem_nil⟩⟩⟩) (by decide +kernel)
def ct_X3_noteLine_d13 : zCt := (72, [.inr (.inr (20, 0)), .inl (0, 4294967295), .inl (0, 4294967295), .inl (0, 4294967295)], [(327684, (2147483661, 2147483661))], [(20, 4, 5), (21, 0, 19), (22, 0, 19), (23, 0, 19)], [.inl (none, [(327685, (2147483662, 2147483662)), (327684, (2147483662, 2147483662))])], 5)
theorem hct_X3_noteLine_d13 : z_ctH zTb ct_X3_noteLine_d13 := z_ct_ok [(20, 4, 5)] z_hds_ok [ct_X3_note_d13] [] 3 2 (List.forall_mem_cons.mpr ⟨hct_X3_note_d13, fun _ h => absurd h List.not_mem_nil⟩) (by decide +kernel)
def ct_X3_noteFrame_d13 : zCt := (73, [.inr (.inr (20, 0)), .inl (0, 4294967295), .inl (0, 4294967295), .inl (0, 4294967295)], [(327684, (2147483661, 2147483661))], [(20, 4, 5), (21, 0, 19), (22, 0, 19), (23, 0, 19)], [.inl (none, [(327685, (2147483662, 2147483662)), (327684, (2147483662, 2147483662))])], 5)
theorem hct_X3_noteFrame_d13 : z_ctH zTb ct_X3_noteFrame_d13 := z_ct_ok [(20, 4, 5)] z_hds_ok [ct_X3_note_d13] [] 3 2 (List.forall_mem_cons.mpr ⟨hct_X3_note_d13, fun _ h => absurd h List.not_mem_nil⟩) (by decide +kernel)
def ct_X3_takeBack_d13 : zCt := (76, [.inr (.inr (20, 0))], [(327684, (2147483661, 2147483661))], [(12, 0, 31), (20, 4, 4)], [.inl (some (.inl (2147483649, 2147483649)), [(327684, (2147483660, 2147483660))])], 10)
theorem hct_X3_takeBack_d13 : z_ctH zTb ct_X3_takeBack_d13 := z_ct_ok [(20, 4, 4)] z_hds_ok [ct_X6_at_21_0, ct_X6_at_22_0, ct_X3_apply_0] [] 8 2 (List.forall_mem_cons.mpr ⟨hct_X6_at_21_0, List.forall_mem_cons.mpr ⟨hct_X6_at_22_0, List.forall_mem_cons.mpr ⟨hct_X3_apply_0, fun _ h => absurd h List.not_mem_nil⟩⟩⟩) (by decide +kernel)
def ct_X10_undo_d13 : zCt := (160, [.inr (.inr (0, 0))], [(327684, (2147483661, 2147483661))], [(12, 0, 31), (20, 4, 4)], [.inl (some (.inl (2147483649, 2147483649)), [(327684, (2147483660, 2147483660))])], 12)
theorem hct_X10_undo_d13 : z_ctH zTb ct_X10_undo_d13 := z_ct_ok [(20, 4, 4)] z_hds_ok [ct_X3_takeBack_d13] [] 10 2 (List.forall_mem_cons.mpr ⟨hct_X3_takeBack_d13, fun _ h => absurd h List.not_mem_nil⟩) (by decide +kernel)
def ct_X3_doAgain_n13 : zCt := (77, [.inr (.inr (20, 0))], [(327684, (2147483661, 2147483661)), (327685, (2147483661, 2147483661))], [], [.inl (some (.inl (2147483648, 2147483648)), [])], 2)
theorem hct_X3_doAgain_n13 : z_ctH zTb ct_X3_doAgain_n13 := z_ct_ok [(20, 4, 4)] z_hds_ok [] [] 0 2 (fun _ h => absurd h List.not_mem_nil) (by decide +kernel)
def ct_X10_redo_n13 : zCt := (161, [.inr (.inr (0, 0))], [(327684, (2147483661, 2147483661)), (327685, (2147483661, 2147483661))], [], [.inl (some (.inl (2147483648, 2147483648)), [])], 4)
theorem hct_X10_redo_n13 : z_ctH zTb ct_X10_redo_n13 := z_ct_ok [(20, 4, 4)] z_hds_ok [ct_X3_doAgain_n13] [] 2 2 (List.forall_mem_cons.mpr ⟨hct_X3_doAgain_n13, fun _ h => absurd h List.not_mem_nil⟩) (by decide +kernel)
def ct_X3_doAgain_y13 : zCt := (77, [.inr (.inr (20, 0))], [(327684, (2147483661, 2147483661)), (327685, (2147483662, 2147483668))], [(12, 0, 31), (20, 4, 4)], [.inl (some (.inl (2147483649, 2147483649)), [(327684, (2147483662, 2147483662))])], 10)
theorem hct_X3_doAgain_y13 : z_ctH zTb ct_X3_doAgain_y13 := z_ct_ok [(20, 4, 4)] z_hds_ok [ct_X6_at_21_0, ct_X6_at_23_0, ct_X3_apply_0] [] 8 2 (List.forall_mem_cons.mpr ⟨hct_X6_at_21_0, List.forall_mem_cons.mpr ⟨hct_X6_at_23_0, List.forall_mem_cons.mpr ⟨hct_X3_apply_0, fun _ h => absurd h List.not_mem_nil⟩⟩⟩) (by decide +kernel)
def ct_X10_redo_y13 : zCt := (161, [.inr (.inr (0, 0))], [(327684, (2147483661, 2147483661)), (327685, (2147483662, 2147483668))], [(12, 0, 31), (20, 4, 4)], [.inl (some (.inl (2147483649, 2147483649)), [(327684, (2147483662, 2147483662))])], 12)
theorem hct_X10_redo_y13 : z_ctH zTb ct_X10_redo_y13 := z_ct_ok [(20, 4, 4)] z_hds_ok [ct_X3_doAgain_y13] [] 10 2 (List.forall_mem_cons.mpr ⟨hct_X3_doAgain_y13, fun _ h => absurd h List.not_mem_nil⟩) (by decide +kernel)
def ct_X3_note_d14 : zCt := (74, [.inr (.inr (20, 0)), .inl (0, 4294967295), .inl (0, 4294967295), .inl (0, 4294967295)], [(327684, (2147483662, 2147483662))], [(20, 4, 5), (21, 0, 19), (22, 0, 19), (23, 0, 19)], [.inl (none, [(327685, (2147483663, 2147483663)), (327684, (2147483663, 2147483663))])], 3)
theorem hct_X3_note_d14 : z_ctH zTb ct_X3_note_d14 := z_ct_ok [(20, 4, 5)] z_hds_ok [ct_X6_put_21_0, ct_X6_put_22_0, ct_X6_put_23_0] [] 1 2 (List.forall_mem_cons.mpr ⟨hct_X6_put_21_0, List.forall_mem_cons.mpr ⟨hct_X6_put_22_0, List.forall_mem_cons.mpr ⟨hct_X6_put_23_0, fun _ h => absurd h List.not_mem_nil⟩⟩⟩) (by decide +kernel)
def ct_X3_noteLine_d14 : zCt := (72, [.inr (.inr (20, 0)), .inl (0, 4294967295), .inl (0, 4294967295), .inl (0, 4294967295)], [(327684, (2147483662, 2147483662))], [(20, 4, 5), (21, 0, 19), (22, 0, 19), (23, 0, 19)], [.inl (none, [(327685, (2147483663, 2147483663)), (327684, (2147483663, 2147483663))])], 5)
theorem hct_X3_noteLine_d14 : z_ctH zTb ct_X3_noteLine_d14 := z_ct_ok [(20, 4, 5)] z_hds_ok [ct_X3_note_d14] [] 3 2 (List.forall_mem_cons.mpr ⟨hct_X3_note_d14, fun _ h => absurd h List.not_mem_nil⟩) (by decide +kernel)
def ct_X3_noteFrame_d14 : zCt := (73, [.inr (.inr (20, 0)), .inl (0, 4294967295), .inl (0, 4294967295), .inl (0, 4294967295)], [(327684, (2147483662, 2147483662))], [(20, 4, 5), (21, 0, 19), (22, 0, 19), (23, 0, 19)], [.inl (none, [(327685, (2147483663, 2147483663)), (327684, (2147483663, 2147483663))])], 5)
theorem hct_X3_noteFrame_d14 : z_ctH zTb ct_X3_noteFrame_d14 := z_ct_ok [(20, 4, 5)] z_hds_ok [ct_X3_note_d14] [] 3 2 (List.forall_mem_cons.mpr ⟨hct_X3_note_d14, fun _ h => absurd h List.not_mem_nil⟩) (by decide +kernel)
def ct_X3_takeBack_d14 : zCt := (76, [.inr (.inr (20, 0))], [(327684, (2147483662, 2147483662))], [(12, 0, 31), (20, 4, 4)], [.inl (some (.inl (2147483649, 2147483649)), [(327684, (2147483661, 2147483661))])], 10)
theorem hct_X3_takeBack_d14 : z_ctH zTb ct_X3_takeBack_d14 := z_ct_ok [(20, 4, 4)] z_hds_ok [ct_X6_at_21_0, ct_X6_at_22_0, ct_X3_apply_0] [] 8 2 (List.forall_mem_cons.mpr ⟨hct_X6_at_21_0, List.forall_mem_cons.mpr ⟨hct_X6_at_22_0, List.forall_mem_cons.mpr ⟨hct_X3_apply_0, fun _ h => absurd h List.not_mem_nil⟩⟩⟩) (by decide +kernel)
def ct_X10_undo_d14 : zCt := (160, [.inr (.inr (0, 0))], [(327684, (2147483662, 2147483662))], [(12, 0, 31), (20, 4, 4)], [.inl (some (.inl (2147483649, 2147483649)), [(327684, (2147483661, 2147483661))])], 12)
theorem hct_X10_undo_d14 : z_ctH zTb ct_X10_undo_d14 := z_ct_ok [(20, 4, 4)] z_hds_ok [ct_X3_takeBack_d14] [] 10 2 (List.forall_mem_cons.mpr ⟨hct_X3_takeBack_d14, fun _ h => absurd h List.not_mem_nil⟩) (by decide +kernel)
def ct_X3_doAgain_n14 : zCt := (77, [.inr (.inr (20, 0))], [(327684, (2147483662, 2147483662)), (327685, (2147483662, 2147483662))], [], [.inl (some (.inl (2147483648, 2147483648)), [])], 2)
theorem hct_X3_doAgain_n14 : z_ctH zTb ct_X3_doAgain_n14 := z_ct_ok [(20, 4, 4)] z_hds_ok [] [] 0 2 (fun _ h => absurd h List.not_mem_nil) (by decide +kernel)
def ct_X10_redo_n14 : zCt := (161, [.inr (.inr (0, 0))], [(327684, (2147483662, 2147483662)), (327685, (2147483662, 2147483662))], [], [.inl (some (.inl (2147483648, 2147483648)), [])], 4)
theorem hct_X10_redo_n14 : z_ctH zTb ct_X10_redo_n14 := z_ct_ok [(20, 4, 4)] z_hds_ok [ct_X3_doAgain_n14] [] 2 2 (List.forall_mem_cons.mpr ⟨hct_X3_doAgain_n14, fun _ h => absurd h List.not_mem_nil⟩) (by decide +kernel)
def ct_X3_doAgain_y14 : zCt := (77, [.inr (.inr (20, 0))], [(327684, (2147483662, 2147483662)), (327685, (2147483663, 2147483668))], [(12, 0, 31), (20, 4, 4)], [.inl (some (.inl (2147483649, 2147483649)), [(327684, (2147483663, 2147483663))])], 10)
theorem hct_X3_doAgain_y14 : z_ctH zTb ct_X3_doAgain_y14 := z_ct_ok [(20, 4, 4)] z_hds_ok [ct_X6_at_21_0, ct_X6_at_23_0, ct_X3_apply_0] [] 8 2 (List.forall_mem_cons.mpr ⟨hct_X6_at_21_0, List.forall_mem_cons.mpr ⟨hct_X6_at_23_0, List.forall_mem_cons.mpr ⟨hct_X3_apply_0, fun _ h => absurd h List.not_mem_nil⟩⟩⟩) (by decide +kernel)
def ct_X10_redo_y14 : zCt := (161, [.inr (.inr (0, 0))], [(327684, (2147483662, 2147483662)), (327685, (2147483663, 2147483668))], [(12, 0, 31), (20, 4, 4)], [.inl (some (.inl (2147483649, 2147483649)), [(327684, (2147483663, 2147483663))])], 12)
theorem hct_X10_redo_y14 : z_ctH zTb ct_X10_redo_y14 := z_ct_ok [(20, 4, 4)] z_hds_ok [ct_X3_doAgain_y14] [] 10 2 (List.forall_mem_cons.mpr ⟨hct_X3_doAgain_y14, fun _ h => absurd h List.not_mem_nil⟩) (by decide +kernel)
def ct_X3_note_d15 : zCt := (74, [.inr (.inr (20, 0)), .inl (0, 4294967295), .inl (0, 4294967295), .inl (0, 4294967295)], [(327684, (2147483663, 2147483663))], [(20, 4, 5), (21, 0, 19), (22, 0, 19), (23, 0, 19)], [.inl (none, [(327685, (2147483664, 2147483664)), (327684, (2147483664, 2147483664))])], 3)
theorem hct_X3_note_d15 : z_ctH zTb ct_X3_note_d15 := z_ct_ok [(20, 4, 5)] z_hds_ok [ct_X6_put_21_0, ct_X6_put_22_0, ct_X6_put_23_0] [] 1 2 (List.forall_mem_cons.mpr ⟨hct_X6_put_21_0, List.forall_mem_cons.mpr ⟨hct_X6_put_22_0, List.forall_mem_cons.mpr ⟨hct_X6_put_23_0, fun _ h => absurd h List.not_mem_nil⟩⟩⟩) (by decide +kernel)
def ct_X3_noteLine_d15 : zCt := (72, [.inr (.inr (20, 0)), .inl (0, 4294967295), .inl (0, 4294967295), .inl (0, 4294967295)], [(327684, (2147483663, 2147483663))], [(20, 4, 5), (21, 0, 19), (22, 0, 19), (23, 0, 19)], [.inl (none, [(327685, (2147483664, 2147483664)), (327684, (2147483664, 2147483664))])], 5)
theorem hct_X3_noteLine_d15 : z_ctH zTb ct_X3_noteLine_d15 := z_ct_ok [(20, 4, 5)] z_hds_ok [ct_X3_note_d15] [] 3 2 (List.forall_mem_cons.mpr ⟨hct_X3_note_d15, fun _ h => absurd h List.not_mem_nil⟩) (by decide +kernel)
def ct_X3_noteFrame_d15 : zCt := (73, [.inr (.inr (20, 0)), .inl (0, 4294967295), .inl (0, 4294967295), .inl (0, 4294967295)], [(327684, (2147483663, 2147483663))], [(20, 4, 5), (21, 0, 19), (22, 0, 19), (23, 0, 19)], [.inl (none, [(327685, (2147483664, 2147483664)), (327684, (2147483664, 2147483664))])], 5)
theorem hct_X3_noteFrame_d15 : z_ctH zTb ct_X3_noteFrame_d15 := z_ct_ok [(20, 4, 5)] z_hds_ok [ct_X3_note_d15] [] 3 2 (List.forall_mem_cons.mpr ⟨hct_X3_note_d15, fun _ h => absurd h List.not_mem_nil⟩) (by decide +kernel)
def ct_X3_takeBack_d15 : zCt := (76, [.inr (.inr (20, 0))], [(327684, (2147483663, 2147483663))], [(12, 0, 31), (20, 4, 4)], [.inl (some (.inl (2147483649, 2147483649)), [(327684, (2147483662, 2147483662))])], 10)
theorem hct_X3_takeBack_d15 : z_ctH zTb ct_X3_takeBack_d15 := z_ct_ok [(20, 4, 4)] z_hds_ok [ct_X6_at_21_0, ct_X6_at_22_0, ct_X3_apply_0] [] 8 2 (List.forall_mem_cons.mpr ⟨hct_X6_at_21_0, List.forall_mem_cons.mpr ⟨hct_X6_at_22_0, List.forall_mem_cons.mpr ⟨hct_X3_apply_0, fun _ h => absurd h List.not_mem_nil⟩⟩⟩) (by decide +kernel)
def ct_X10_undo_d15 : zCt := (160, [.inr (.inr (0, 0))], [(327684, (2147483663, 2147483663))], [(12, 0, 31), (20, 4, 4)], [.inl (some (.inl (2147483649, 2147483649)), [(327684, (2147483662, 2147483662))])], 12)
theorem hct_X10_undo_d15 : z_ctH zTb ct_X10_undo_d15 := z_ct_ok [(20, 4, 4)] z_hds_ok [ct_X3_takeBack_d15] [] 10 2 (List.forall_mem_cons.mpr ⟨hct_X3_takeBack_d15, fun _ h => absurd h List.not_mem_nil⟩) (by decide +kernel)
def ct_X3_doAgain_n15 : zCt := (77, [.inr (.inr (20, 0))], [(327684, (2147483663, 2147483663)), (327685, (2147483663, 2147483663))], [], [.inl (some (.inl (2147483648, 2147483648)), [])], 2)
theorem hct_X3_doAgain_n15 : z_ctH zTb ct_X3_doAgain_n15 := z_ct_ok [(20, 4, 4)] z_hds_ok [] [] 0 2 (fun _ h => absurd h List.not_mem_nil) (by decide +kernel)
def ct_X10_redo_n15 : zCt := (161, [.inr (.inr (0, 0))], [(327684, (2147483663, 2147483663)), (327685, (2147483663, 2147483663))], [], [.inl (some (.inl (2147483648, 2147483648)), [])], 4)
theorem hct_X10_redo_n15 : z_ctH zTb ct_X10_redo_n15 := z_ct_ok [(20, 4, 4)] z_hds_ok [ct_X3_doAgain_n15] [] 2 2 (List.forall_mem_cons.mpr ⟨hct_X3_doAgain_n15, fun _ h => absurd h List.not_mem_nil⟩) (by decide +kernel)
def ct_X3_doAgain_y15 : zCt := (77, [.inr (.inr (20, 0))], [(327684, (2147483663, 2147483663)), (327685, (2147483664, 2147483668))], [(12, 0, 31), (20, 4, 4)], [.inl (some (.inl (2147483649, 2147483649)), [(327684, (2147483664, 2147483664))])], 10)
theorem hct_X3_doAgain_y15 : z_ctH zTb ct_X3_doAgain_y15 := z_ct_ok [(20, 4, 4)] z_hds_ok [ct_X6_at_21_0, ct_X6_at_23_0, ct_X3_apply_0] [] 8 2 (List.forall_mem_cons.mpr ⟨hct_X6_at_21_0, List.forall_mem_cons.mpr ⟨hct_X6_at_23_0, List.forall_mem_cons.mpr ⟨hct_X3_apply_0, fun _ h => absurd h List.not_mem_nil⟩⟩⟩) (by decide +kernel)
def ct_X10_redo_y15 : zCt := (161, [.inr (.inr (0, 0))], [(327684, (2147483663, 2147483663)), (327685, (2147483664, 2147483668))], [(12, 0, 31), (20, 4, 4)], [.inl (some (.inl (2147483649, 2147483649)), [(327684, (2147483664, 2147483664))])], 12)
theorem hct_X10_redo_y15 : z_ctH zTb ct_X10_redo_y15 := z_ct_ok [(20, 4, 4)] z_hds_ok [ct_X3_doAgain_y15] [] 10 2 (List.forall_mem_cons.mpr ⟨hct_X3_doAgain_y15, fun _ h => absurd h List.not_mem_nil⟩) (by decide +kernel)
def ct_X3_note_d16 : zCt := (74, [.inr (.inr (20, 0)), .inl (0, 4294967295), .inl (0, 4294967295), .inl (0, 4294967295)], [(327684, (2147483664, 2147483664))], [(20, 4, 5), (21, 0, 19), (22, 0, 19), (23, 0, 19)], [.inl (none, [(327685, (2147483665, 2147483665)), (327684, (2147483665, 2147483665))])], 3)
theorem hct_X3_note_d16 : z_ctH zTb ct_X3_note_d16 := z_ct_ok [(20, 4, 5)] z_hds_ok [ct_X6_put_21_0, ct_X6_put_22_0, ct_X6_put_23_0] [] 1 2 (List.forall_mem_cons.mpr ⟨hct_X6_put_21_0, List.forall_mem_cons.mpr ⟨hct_X6_put_22_0, List.forall_mem_cons.mpr ⟨hct_X6_put_23_0, fun _ h => absurd h List.not_mem_nil⟩⟩⟩) (by decide +kernel)
def ct_X3_noteLine_d16 : zCt := (72, [.inr (.inr (20, 0)), .inl (0, 4294967295), .inl (0, 4294967295), .inl (0, 4294967295)], [(327684, (2147483664, 2147483664))], [(20, 4, 5), (21, 0, 19), (22, 0, 19), (23, 0, 19)], [.inl (none, [(327685, (2147483665, 2147483665)), (327684, (2147483665, 2147483665))])], 5)
theorem hct_X3_noteLine_d16 : z_ctH zTb ct_X3_noteLine_d16 := z_ct_ok [(20, 4, 5)] z_hds_ok [ct_X3_note_d16] [] 3 2 (List.forall_mem_cons.mpr ⟨hct_X3_note_d16, fun _ h => absurd h List.not_mem_nil⟩) (by decide +kernel)
def ct_X3_noteFrame_d16 : zCt := (73, [.inr (.inr (20, 0)), .inl (0, 4294967295), .inl (0, 4294967295), .inl (0, 4294967295)], [(327684, (2147483664, 2147483664))], [(20, 4, 5), (21, 0, 19), (22, 0, 19), (23, 0, 19)], [.inl (none, [(327685, (2147483665, 2147483665)), (327684, (2147483665, 2147483665))])], 5)
theorem hct_X3_noteFrame_d16 : z_ctH zTb ct_X3_noteFrame_d16 := z_ct_ok [(20, 4, 5)] z_hds_ok [ct_X3_note_d16] [] 3 2 (List.forall_mem_cons.mpr ⟨hct_X3_note_d16, fun _ h => absurd h List.not_mem_nil⟩) (by decide +kernel)
def ct_X3_takeBack_d16 : zCt := (76, [.inr (.inr (20, 0))], [(327684, (2147483664, 2147483664))], [(12, 0, 31), (20, 4, 4)], [.inl (some (.inl (2147483649, 2147483649)), [(327684, (2147483663, 2147483663))])], 10)
theorem hct_X3_takeBack_d16 : z_ctH zTb ct_X3_takeBack_d16 := z_ct_ok [(20, 4, 4)] z_hds_ok [ct_X6_at_21_0, ct_X6_at_22_0, ct_X3_apply_0] [] 8 2 (List.forall_mem_cons.mpr ⟨hct_X6_at_21_0, List.forall_mem_cons.mpr ⟨hct_X6_at_22_0, List.forall_mem_cons.mpr ⟨hct_X3_apply_0, fun _ h => absurd h List.not_mem_nil⟩⟩⟩) (by decide +kernel)
def ct_X10_undo_d16 : zCt := (160, [.inr (.inr (0, 0))], [(327684, (2147483664, 2147483664))], [(12, 0, 31), (20, 4, 4)], [.inl (some (.inl (2147483649, 2147483649)), [(327684, (2147483663, 2147483663))])], 12)
theorem hct_X10_undo_d16 : z_ctH zTb ct_X10_undo_d16 := z_ct_ok [(20, 4, 4)] z_hds_ok [ct_X3_takeBack_d16] [] 10 2 (List.forall_mem_cons.mpr ⟨hct_X3_takeBack_d16, fun _ h => absurd h List.not_mem_nil⟩) (by decide +kernel)
def ct_X3_doAgain_n16 : zCt := (77, [.inr (.inr (20, 0))], [(327684, (2147483664, 2147483664)), (327685, (2147483664, 2147483664))], [], [.inl (some (.inl (2147483648, 2147483648)), [])], 2)
theorem hct_X3_doAgain_n16 : z_ctH zTb ct_X3_doAgain_n16 := z_ct_ok [(20, 4, 4)] z_hds_ok [] [] 0 2 (fun _ h => absurd h List.not_mem_nil) (by decide +kernel)
def ct_X10_redo_n16 : zCt := (161, [.inr (.inr (0, 0))], [(327684, (2147483664, 2147483664)), (327685, (2147483664, 2147483664))], [], [.inl (some (.inl (2147483648, 2147483648)), [])], 4)
theorem hct_X10_redo_n16 : z_ctH zTb ct_X10_redo_n16 := z_ct_ok [(20, 4, 4)] z_hds_ok [ct_X3_doAgain_n16] [] 2 2 (List.forall_mem_cons.mpr ⟨hct_X3_doAgain_n16, fun _ h => absurd h List.not_mem_nil⟩) (by decide +kernel)
def ct_X3_doAgain_y16 : zCt := (77, [.inr (.inr (20, 0))], [(327684, (2147483664, 2147483664)), (327685, (2147483665, 2147483668))], [(12, 0, 31), (20, 4, 4)], [.inl (some (.inl (2147483649, 2147483649)), [(327684, (2147483665, 2147483665))])], 10)
theorem hct_X3_doAgain_y16 : z_ctH zTb ct_X3_doAgain_y16 := z_ct_ok [(20, 4, 4)] z_hds_ok [ct_X6_at_21_0, ct_X6_at_23_0, ct_X3_apply_0] [] 8 2 (List.forall_mem_cons.mpr ⟨hct_X6_at_21_0, List.forall_mem_cons.mpr ⟨hct_X6_at_23_0, List.forall_mem_cons.mpr ⟨hct_X3_apply_0, fun _ h => absurd h List.not_mem_nil⟩⟩⟩) (by decide +kernel)
def ct_X10_redo_y16 : zCt := (161, [.inr (.inr (0, 0))], [(327684, (2147483664, 2147483664)), (327685, (2147483665, 2147483668))], [(12, 0, 31), (20, 4, 4)], [.inl (some (.inl (2147483649, 2147483649)), [(327684, (2147483665, 2147483665))])], 12)
theorem hct_X10_redo_y16 : z_ctH zTb ct_X10_redo_y16 := z_ct_ok [(20, 4, 4)] z_hds_ok [ct_X3_doAgain_y16] [] 10 2 (List.forall_mem_cons.mpr ⟨hct_X3_doAgain_y16, fun _ h => absurd h List.not_mem_nil⟩) (by decide +kernel)
def ct_X3_note_d17 : zCt := (74, [.inr (.inr (20, 0)), .inl (0, 4294967295), .inl (0, 4294967295), .inl (0, 4294967295)], [(327684, (2147483665, 2147483665))], [(20, 4, 5), (21, 0, 19), (22, 0, 19), (23, 0, 19)], [.inl (none, [(327685, (2147483666, 2147483666)), (327684, (2147483666, 2147483666))])], 3)
theorem hct_X3_note_d17 : z_ctH zTb ct_X3_note_d17 := z_ct_ok [(20, 4, 5)] z_hds_ok [ct_X6_put_21_0, ct_X6_put_22_0, ct_X6_put_23_0] [] 1 2 (List.forall_mem_cons.mpr ⟨hct_X6_put_21_0, List.forall_mem_cons.mpr ⟨hct_X6_put_22_0, List.forall_mem_cons.mpr ⟨hct_X6_put_23_0, fun _ h => absurd h List.not_mem_nil⟩⟩⟩) (by decide +kernel)
def ct_X3_noteLine_d17 : zCt := (72, [.inr (.inr (20, 0)), .inl (0, 4294967295), .inl (0, 4294967295), .inl (0, 4294967295)], [(327684, (2147483665, 2147483665))], [(20, 4, 5), (21, 0, 19), (22, 0, 19), (23, 0, 19)], [.inl (none, [(327685, (2147483666, 2147483666)), (327684, (2147483666, 2147483666))])], 5)
theorem hct_X3_noteLine_d17 : z_ctH zTb ct_X3_noteLine_d17 := z_ct_ok [(20, 4, 5)] z_hds_ok [ct_X3_note_d17] [] 3 2 (List.forall_mem_cons.mpr ⟨hct_X3_note_d17, fun _ h => absurd h List.not_mem_nil⟩) (by decide +kernel)
def ct_X3_noteFrame_d17 : zCt := (73, [.inr (.inr (20, 0)), .inl (0, 4294967295), .inl (0, 4294967295), .inl (0, 4294967295)], [(327684, (2147483665, 2147483665))], [(20, 4, 5), (21, 0, 19), (22, 0, 19), (23, 0, 19)], [.inl (none, [(327685, (2147483666, 2147483666)), (327684, (2147483666, 2147483666))])], 5)
theorem hct_X3_noteFrame_d17 : z_ctH zTb ct_X3_noteFrame_d17 := z_ct_ok [(20, 4, 5)] z_hds_ok [ct_X3_note_d17] [] 3 2 (List.forall_mem_cons.mpr ⟨hct_X3_note_d17, fun _ h => absurd h List.not_mem_nil⟩) (by decide +kernel)
def ct_X3_takeBack_d17 : zCt := (76, [.inr (.inr (20, 0))], [(327684, (2147483665, 2147483665))], [(12, 0, 31), (20, 4, 4)], [.inl (some (.inl (2147483649, 2147483649)), [(327684, (2147483664, 2147483664))])], 10)
theorem hct_X3_takeBack_d17 : z_ctH zTb ct_X3_takeBack_d17 := z_ct_ok [(20, 4, 4)] z_hds_ok [ct_X6_at_21_0, ct_X6_at_22_0, ct_X3_apply_0] [] 8 2 (List.forall_mem_cons.mpr ⟨hct_X6_at_21_0, List.forall_mem_cons.mpr ⟨hct_X6_at_22_0, List.forall_mem_cons.mpr ⟨hct_X3_apply_0, fun _ h => absurd h List.not_mem_nil⟩⟩⟩) (by decide +kernel)
def ct_X10_undo_d17 : zCt := (160, [.inr (.inr (0, 0))], [(327684, (2147483665, 2147483665))], [(12, 0, 31), (20, 4, 4)], [.inl (some (.inl (2147483649, 2147483649)), [(327684, (2147483664, 2147483664))])], 12)
theorem hct_X10_undo_d17 : z_ctH zTb ct_X10_undo_d17 := z_ct_ok [(20, 4, 4)] z_hds_ok [ct_X3_takeBack_d17] [] 10 2 (List.forall_mem_cons.mpr ⟨hct_X3_takeBack_d17, fun _ h => absurd h List.not_mem_nil⟩) (by decide +kernel)
def ct_X3_doAgain_n17 : zCt := (77, [.inr (.inr (20, 0))], [(327684, (2147483665, 2147483665)), (327685, (2147483665, 2147483665))], [], [.inl (some (.inl (2147483648, 2147483648)), [])], 2)
theorem hct_X3_doAgain_n17 : z_ctH zTb ct_X3_doAgain_n17 := z_ct_ok [(20, 4, 4)] z_hds_ok [] [] 0 2 (fun _ h => absurd h List.not_mem_nil) (by decide +kernel)
def ct_X10_redo_n17 : zCt := (161, [.inr (.inr (0, 0))], [(327684, (2147483665, 2147483665)), (327685, (2147483665, 2147483665))], [], [.inl (some (.inl (2147483648, 2147483648)), [])], 4)
theorem hct_X10_redo_n17 : z_ctH zTb ct_X10_redo_n17 := z_ct_ok [(20, 4, 4)] z_hds_ok [ct_X3_doAgain_n17] [] 2 2 (List.forall_mem_cons.mpr ⟨hct_X3_doAgain_n17, fun _ h => absurd h List.not_mem_nil⟩) (by decide +kernel)
def ct_X3_doAgain_y17 : zCt := (77, [.inr (.inr (20, 0))], [(327684, (2147483665, 2147483665)), (327685, (2147483666, 2147483668))], [(12, 0, 31), (20, 4, 4)], [.inl (some (.inl (2147483649, 2147483649)), [(327684, (2147483666, 2147483666))])], 10)
theorem hct_X3_doAgain_y17 : z_ctH zTb ct_X3_doAgain_y17 := z_ct_ok [(20, 4, 4)] z_hds_ok [ct_X6_at_21_0, ct_X6_at_23_0, ct_X3_apply_0] [] 8 2 (List.forall_mem_cons.mpr ⟨hct_X6_at_21_0, List.forall_mem_cons.mpr ⟨hct_X6_at_23_0, List.forall_mem_cons.mpr ⟨hct_X3_apply_0, fun _ h => absurd h List.not_mem_nil⟩⟩⟩) (by decide +kernel)
def ct_X10_redo_y17 : zCt := (161, [.inr (.inr (0, 0))], [(327684, (2147483665, 2147483665)), (327685, (2147483666, 2147483668))], [(12, 0, 31), (20, 4, 4)], [.inl (some (.inl (2147483649, 2147483649)), [(327684, (2147483666, 2147483666))])], 12)
theorem hct_X10_redo_y17 : z_ctH zTb ct_X10_redo_y17 := z_ct_ok [(20, 4, 4)] z_hds_ok [ct_X3_doAgain_y17] [] 10 2 (List.forall_mem_cons.mpr ⟨hct_X3_doAgain_y17, fun _ h => absurd h List.not_mem_nil⟩) (by decide +kernel)
def ct_X3_note_d18 : zCt := (74, [.inr (.inr (20, 0)), .inl (0, 4294967295), .inl (0, 4294967295), .inl (0, 4294967295)], [(327684, (2147483666, 2147483666))], [(20, 4, 5), (21, 0, 19), (22, 0, 19), (23, 0, 19)], [.inl (none, [(327685, (2147483667, 2147483667)), (327684, (2147483667, 2147483667))])], 3)
theorem hct_X3_note_d18 : z_ctH zTb ct_X3_note_d18 := z_ct_ok [(20, 4, 5)] z_hds_ok [ct_X6_put_21_0, ct_X6_put_22_0, ct_X6_put_23_0] [] 1 2 (List.forall_mem_cons.mpr ⟨hct_X6_put_21_0, List.forall_mem_cons.mpr ⟨hct_X6_put_22_0, List.forall_mem_cons.mpr ⟨hct_X6_put_23_0, fun _ h => absurd h List.not_mem_nil⟩⟩⟩) (by decide +kernel)
def ct_X3_noteLine_d18 : zCt := (72, [.inr (.inr (20, 0)), .inl (0, 4294967295), .inl (0, 4294967295), .inl (0, 4294967295)], [(327684, (2147483666, 2147483666))], [(20, 4, 5), (21, 0, 19), (22, 0, 19), (23, 0, 19)], [.inl (none, [(327685, (2147483667, 2147483667)), (327684, (2147483667, 2147483667))])], 5)
theorem hct_X3_noteLine_d18 : z_ctH zTb ct_X3_noteLine_d18 := z_ct_ok [(20, 4, 5)] z_hds_ok [ct_X3_note_d18] [] 3 2 (List.forall_mem_cons.mpr ⟨hct_X3_note_d18, fun _ h => absurd h List.not_mem_nil⟩) (by decide +kernel)
def ct_X3_noteFrame_d18 : zCt := (73, [.inr (.inr (20, 0)), .inl (0, 4294967295), .inl (0, 4294967295), .inl (0, 4294967295)], [(327684, (2147483666, 2147483666))], [(20, 4, 5), (21, 0, 19), (22, 0, 19), (23, 0, 19)], [.inl (none, [(327685, (2147483667, 2147483667)), (327684, (2147483667, 2147483667))])], 5)
theorem hct_X3_noteFrame_d18 : z_ctH zTb ct_X3_noteFrame_d18 := z_ct_ok [(20, 4, 5)] z_hds_ok [ct_X3_note_d18] [] 3 2 (List.forall_mem_cons.mpr ⟨hct_X3_note_d18, fun _ h => absurd h List.not_mem_nil⟩) (by decide +kernel)
def ct_X3_takeBack_d18 : zCt := (76, [.inr (.inr (20, 0))], [(327684, (2147483666, 2147483666))], [(12, 0, 31), (20, 4, 4)], [.inl (some (.inl (2147483649, 2147483649)), [(327684, (2147483665, 2147483665))])], 10)
theorem hct_X3_takeBack_d18 : z_ctH zTb ct_X3_takeBack_d18 := z_ct_ok [(20, 4, 4)] z_hds_ok [ct_X6_at_21_0, ct_X6_at_22_0, ct_X3_apply_0] [] 8 2 (List.forall_mem_cons.mpr ⟨hct_X6_at_21_0, List.forall_mem_cons.mpr ⟨hct_X6_at_22_0, List.forall_mem_cons.mpr ⟨hct_X3_apply_0, fun _ h => absurd h List.not_mem_nil⟩⟩⟩) (by decide +kernel)
def ct_X10_undo_d18 : zCt := (160, [.inr (.inr (0, 0))], [(327684, (2147483666, 2147483666))], [(12, 0, 31), (20, 4, 4)], [.inl (some (.inl (2147483649, 2147483649)), [(327684, (2147483665, 2147483665))])], 12)
theorem hct_X10_undo_d18 : z_ctH zTb ct_X10_undo_d18 := z_ct_ok [(20, 4, 4)] z_hds_ok [ct_X3_takeBack_d18] [] 10 2 (List.forall_mem_cons.mpr ⟨hct_X3_takeBack_d18, fun _ h => absurd h List.not_mem_nil⟩) (by decide +kernel)
def ct_X3_doAgain_n18 : zCt := (77, [.inr (.inr (20, 0))], [(327684, (2147483666, 2147483666)), (327685, (2147483666, 2147483666))], [], [.inl (some (.inl (2147483648, 2147483648)), [])], 2)
theorem hct_X3_doAgain_n18 : z_ctH zTb ct_X3_doAgain_n18 := z_ct_ok [(20, 4, 4)] z_hds_ok [] [] 0 2 (fun _ h => absurd h List.not_mem_nil) (by decide +kernel)
def ct_X10_redo_n18 : zCt := (161, [.inr (.inr (0, 0))], [(327684, (2147483666, 2147483666)), (327685, (2147483666, 2147483666))], [], [.inl (some (.inl (2147483648, 2147483648)), [])], 4)
theorem hct_X10_redo_n18 : z_ctH zTb ct_X10_redo_n18 := z_ct_ok [(20, 4, 4)] z_hds_ok [ct_X3_doAgain_n18] [] 2 2 (List.forall_mem_cons.mpr ⟨hct_X3_doAgain_n18, fun _ h => absurd h List.not_mem_nil⟩) (by decide +kernel)
def ct_X3_doAgain_y18 : zCt := (77, [.inr (.inr (20, 0))], [(327684, (2147483666, 2147483666)), (327685, (2147483667, 2147483668))], [(12, 0, 31), (20, 4, 4)], [.inl (some (.inl (2147483649, 2147483649)), [(327684, (2147483667, 2147483667))])], 10)
theorem hct_X3_doAgain_y18 : z_ctH zTb ct_X3_doAgain_y18 := z_ct_ok [(20, 4, 4)] z_hds_ok [ct_X6_at_21_0, ct_X6_at_23_0, ct_X3_apply_0] [] 8 2 (List.forall_mem_cons.mpr ⟨hct_X6_at_21_0, List.forall_mem_cons.mpr ⟨hct_X6_at_23_0, List.forall_mem_cons.mpr ⟨hct_X3_apply_0, fun _ h => absurd h List.not_mem_nil⟩⟩⟩) (by decide +kernel)
def ct_X10_redo_y18 : zCt := (161, [.inr (.inr (0, 0))], [(327684, (2147483666, 2147483666)), (327685, (2147483667, 2147483668))], [(12, 0, 31), (20, 4, 4)], [.inl (some (.inl (2147483649, 2147483649)), [(327684, (2147483667, 2147483667))])], 12)
theorem hct_X10_redo_y18 : z_ctH zTb ct_X10_redo_y18 := z_ct_ok [(20, 4, 4)] z_hds_ok [ct_X3_doAgain_y18] [] 10 2 (List.forall_mem_cons.mpr ⟨hct_X3_doAgain_y18, fun _ h => absurd h List.not_mem_nil⟩) (by decide +kernel)
def ct_X3_note_d19 : zCt := (74, [.inr (.inr (20, 0)), .inl (0, 4294967295), .inl (0, 4294967295), .inl (0, 4294967295)], [(327684, (2147483667, 2147483667))], [(20, 4, 5), (21, 0, 19), (22, 0, 19), (23, 0, 19)], [.inl (none, [(327685, (2147483668, 2147483668)), (327684, (2147483668, 2147483668))])], 3)
theorem hct_X3_note_d19 : z_ctH zTb ct_X3_note_d19 := z_ct_ok [(20, 4, 5)] z_hds_ok [ct_X6_put_21_0, ct_X6_put_22_0, ct_X6_put_23_0] [] 1 2 (List.forall_mem_cons.mpr ⟨hct_X6_put_21_0, List.forall_mem_cons.mpr ⟨hct_X6_put_22_0, List.forall_mem_cons.mpr ⟨hct_X6_put_23_0, fun _ h => absurd h List.not_mem_nil⟩⟩⟩) (by decide +kernel)
def ct_X3_noteLine_d19 : zCt := (72, [.inr (.inr (20, 0)), .inl (0, 4294967295), .inl (0, 4294967295), .inl (0, 4294967295)], [(327684, (2147483667, 2147483667))], [(20, 4, 5), (21, 0, 19), (22, 0, 19), (23, 0, 19)], [.inl (none, [(327685, (2147483668, 2147483668)), (327684, (2147483668, 2147483668))])], 5)
theorem hct_X3_noteLine_d19 : z_ctH zTb ct_X3_noteLine_d19 := z_ct_ok [(20, 4, 5)] z_hds_ok [ct_X3_note_d19] [] 3 2 (List.forall_mem_cons.mpr ⟨hct_X3_note_d19, fun _ h => absurd h List.not_mem_nil⟩) (by decide +kernel)
def ct_X3_noteFrame_d19 : zCt := (73, [.inr (.inr (20, 0)), .inl (0, 4294967295), .inl (0, 4294967295), .inl (0, 4294967295)], [(327684, (2147483667, 2147483667))], [(20, 4, 5), (21, 0, 19), (22, 0, 19), (23, 0, 19)], [.inl (none, [(327685, (2147483668, 2147483668)), (327684, (2147483668, 2147483668))])], 5)
theorem hct_X3_noteFrame_d19 : z_ctH zTb ct_X3_noteFrame_d19 := z_ct_ok [(20, 4, 5)] z_hds_ok [ct_X3_note_d19] [] 3 2 (List.forall_mem_cons.mpr ⟨hct_X3_note_d19, fun _ h => absurd h List.not_mem_nil⟩) (by decide +kernel)
def ct_X3_takeBack_d19 : zCt := (76, [.inr (.inr (20, 0))], [(327684, (2147483667, 2147483667))], [(12, 0, 31), (20, 4, 4)], [.inl (some (.inl (2147483649, 2147483649)), [(327684, (2147483666, 2147483666))])], 10)
theorem hct_X3_takeBack_d19 : z_ctH zTb ct_X3_takeBack_d19 := z_ct_ok [(20, 4, 4)] z_hds_ok [ct_X6_at_21_0, ct_X6_at_22_0, ct_X3_apply_0] [] 8 2 (List.forall_mem_cons.mpr ⟨hct_X6_at_21_0, List.forall_mem_cons.mpr ⟨hct_X6_at_22_0, List.forall_mem_cons.mpr ⟨hct_X3_apply_0, fun _ h => absurd h List.not_mem_nil⟩⟩⟩) (by decide +kernel)
def ct_X10_undo_d19 : zCt := (160, [.inr (.inr (0, 0))], [(327684, (2147483667, 2147483667))], [(12, 0, 31), (20, 4, 4)], [.inl (some (.inl (2147483649, 2147483649)), [(327684, (2147483666, 2147483666))])], 12)
theorem hct_X10_undo_d19 : z_ctH zTb ct_X10_undo_d19 := z_ct_ok [(20, 4, 4)] z_hds_ok [ct_X3_takeBack_d19] [] 10 2 (List.forall_mem_cons.mpr ⟨hct_X3_takeBack_d19, fun _ h => absurd h List.not_mem_nil⟩) (by decide +kernel)
def ct_X3_doAgain_n19 : zCt := (77, [.inr (.inr (20, 0))], [(327684, (2147483667, 2147483667)), (327685, (2147483667, 2147483667))], [], [.inl (some (.inl (2147483648, 2147483648)), [])], 2)
theorem hct_X3_doAgain_n19 : z_ctH zTb ct_X3_doAgain_n19 := z_ct_ok [(20, 4, 4)] z_hds_ok [] [] 0 2 (fun _ h => absurd h List.not_mem_nil) (by decide +kernel)
def ct_X10_redo_n19 : zCt := (161, [.inr (.inr (0, 0))], [(327684, (2147483667, 2147483667)), (327685, (2147483667, 2147483667))], [], [.inl (some (.inl (2147483648, 2147483648)), [])], 4)
theorem hct_X10_redo_n19 : z_ctH zTb ct_X10_redo_n19 := z_ct_ok [(20, 4, 4)] z_hds_ok [ct_X3_doAgain_n19] [] 2 2 (List.forall_mem_cons.mpr ⟨hct_X3_doAgain_n19, fun _ h => absurd h List.not_mem_nil⟩) (by decide +kernel)
def ct_X3_doAgain_y19 : zCt := (77, [.inr (.inr (20, 0))], [(327684, (2147483667, 2147483667)), (327685, (2147483668, 2147483668))], [(12, 0, 31), (20, 4, 4)], [.inl (some (.inl (2147483649, 2147483649)), [(327684, (2147483668, 2147483668))])], 10)
theorem hct_X3_doAgain_y19 : z_ctH zTb ct_X3_doAgain_y19 := z_ct_ok [(20, 4, 4)] z_hds_ok [ct_X6_at_21_0, ct_X6_at_23_0, ct_X3_apply_0] [] 8 2 (List.forall_mem_cons.mpr ⟨hct_X6_at_21_0, List.forall_mem_cons.mpr ⟨hct_X6_at_23_0, List.forall_mem_cons.mpr ⟨hct_X3_apply_0, fun _ h => absurd h List.not_mem_nil⟩⟩⟩) (by decide +kernel)
def ct_X10_redo_y19 : zCt := (161, [.inr (.inr (0, 0))], [(327684, (2147483667, 2147483667)), (327685, (2147483668, 2147483668))], [(12, 0, 31), (20, 4, 4)], [.inl (some (.inl (2147483649, 2147483649)), [(327684, (2147483668, 2147483668))])], 12)
theorem hct_X10_redo_y19 : z_ctH zTb ct_X10_redo_y19 := z_ct_ok [(20, 4, 4)] z_hds_ok [ct_X3_doAgain_y19] [] 10 2 (List.forall_mem_cons.mpr ⟨hct_X3_doAgain_y19, fun _ h => absurd h List.not_mem_nil⟩) (by decide +kernel)
def ct_X3_note_d20 : zCt := (74, [.inr (.inr (20, 0)), .inl (0, 4294967295), .inl (0, 4294967295), .inl (0, 4294967295)], [(327684, (2147483668, 2147483668))], [(20, 4, 5), (21, 0, 19), (22, 0, 19), (23, 0, 19)], [.inl (none, [(327685, (2147483668, 2147483668)), (327684, (2147483668, 2147483668))])], 5)
theorem hct_X3_note_d20 : z_ctH zTb ct_X3_note_d20 := z_ct_ok [(20, 4, 5)] z_hds_ok [ct_X6_put_21_0, ct_X6_put_22_0, ct_X6_put_23_0, ct_X3_dropOldest_0] [] 3 2 (List.forall_mem_cons.mpr ⟨hct_X6_put_21_0, List.forall_mem_cons.mpr ⟨hct_X6_put_22_0, List.forall_mem_cons.mpr ⟨hct_X6_put_23_0, List.forall_mem_cons.mpr ⟨hct_X3_dropOldest_0, fun _ h => absurd h List.not_mem_nil⟩⟩⟩⟩) (by decide +kernel)
def ct_X3_noteLine_d20 : zCt := (72, [.inr (.inr (20, 0)), .inl (0, 4294967295), .inl (0, 4294967295), .inl (0, 4294967295)], [(327684, (2147483668, 2147483668))], [(20, 4, 5), (21, 0, 19), (22, 0, 19), (23, 0, 19)], [.inl (none, [(327685, (2147483668, 2147483668)), (327684, (2147483668, 2147483668))])], 7)
theorem hct_X3_noteLine_d20 : z_ctH zTb ct_X3_noteLine_d20 := z_ct_ok [(20, 4, 5)] z_hds_ok [ct_X3_note_d20] [] 5 2 (List.forall_mem_cons.mpr ⟨hct_X3_note_d20, fun _ h => absurd h List.not_mem_nil⟩) (by decide +kernel)
def ct_X3_noteFrame_d20 : zCt := (73, [.inr (.inr (20, 0)), .inl (0, 4294967295), .inl (0, 4294967295), .inl (0, 4294967295)], [(327684, (2147483668, 2147483668))], [(20, 4, 5), (21, 0, 19), (22, 0, 19), (23, 0, 19)], [.inl (none, [(327685, (2147483668, 2147483668)), (327684, (2147483668, 2147483668))])], 7)
theorem hct_X3_noteFrame_d20 : z_ctH zTb ct_X3_noteFrame_d20 := z_ct_ok [(20, 4, 5)] z_hds_ok [ct_X3_note_d20] [] 5 2 (List.forall_mem_cons.mpr ⟨hct_X3_note_d20, fun _ h => absurd h List.not_mem_nil⟩) (by decide +kernel)
def ct_X3_takeBack_d20 : zCt := (76, [.inr (.inr (20, 0))], [(327684, (2147483668, 2147483668))], [(12, 0, 31), (20, 4, 4)], [.inl (some (.inl (2147483649, 2147483649)), [(327684, (2147483667, 2147483667))])], 10)
theorem hct_X3_takeBack_d20 : z_ctH zTb ct_X3_takeBack_d20 := z_ct_ok [(20, 4, 4)] z_hds_ok [ct_X6_at_21_0, ct_X6_at_22_0, ct_X3_apply_0] [] 8 2 (List.forall_mem_cons.mpr ⟨hct_X6_at_21_0, List.forall_mem_cons.mpr ⟨hct_X6_at_22_0, List.forall_mem_cons.mpr ⟨hct_X3_apply_0, fun _ h => absurd h List.not_mem_nil⟩⟩⟩) (by decide +kernel)
def ct_X10_undo_d20 : zCt := (160, [.inr (.inr (0, 0))], [(327684, (2147483668, 2147483668))], [(12, 0, 31), (20, 4, 4)], [.inl (some (.inl (2147483649, 2147483649)), [(327684, (2147483667, 2147483667))])], 12)
theorem hct_X10_undo_d20 : z_ctH zTb ct_X10_undo_d20 := z_ct_ok [(20, 4, 4)] z_hds_ok [ct_X3_takeBack_d20] [] 10 2 (List.forall_mem_cons.mpr ⟨hct_X3_takeBack_d20, fun _ h => absurd h List.not_mem_nil⟩) (by decide +kernel)
def ct_X3_doAgain_n20 : zCt := (77, [.inr (.inr (20, 0))], [(327684, (2147483668, 2147483668)), (327685, (2147483668, 2147483668))], [], [.inl (some (.inl (2147483648, 2147483648)), [])], 2)
theorem hct_X3_doAgain_n20 : z_ctH zTb ct_X3_doAgain_n20 := z_ct_ok [(20, 4, 4)] z_hds_ok [] [] 0 2 (fun _ h => absurd h List.not_mem_nil) (by decide +kernel)
def ct_X10_redo_n20 : zCt := (161, [.inr (.inr (0, 0))], [(327684, (2147483668, 2147483668)), (327685, (2147483668, 2147483668))], [], [.inl (some (.inl (2147483648, 2147483648)), [])], 4)
theorem hct_X10_redo_n20 : z_ctH zTb ct_X10_redo_n20 := z_ct_ok [(20, 4, 4)] z_hds_ok [ct_X3_doAgain_n20] [] 2 2 (List.forall_mem_cons.mpr ⟨hct_X3_doAgain_n20, fun _ h => absurd h List.not_mem_nil⟩) (by decide +kernel)
def ct_X7_begin_0 : zCt := (113, [.inr (.inr (24, 0))], [], [(25, 0, 7)], [.inl (none, [])], 3)
theorem hct_X7_begin_0 : z_ctH zTb ct_X7_begin_0 := z_ct_ok [] z_hds_ok [ct_X6_put__25_0, ct_X6_fill__25_0] [] 1 2 (List.forall_mem_cons.mpr ⟨hct_X6_put__25_0, List.forall_mem_cons.mpr ⟨hct_X6_fill__25_0, fun _ h => absurd h List.not_mem_nil⟩⟩) (by decide +kernel)
def ct_X7_multiplyOnce_0 : zCt := (115, [.inr (.inr (24, 0))], [], [(25, 0, 7), (26, 0, 7)], [.inl (none, [])], 5)
theorem hct_X7_multiplyOnce_0 : z_ctH zTb ct_X7_multiplyOnce_0 := z_ct_ok [] z_hds_ok [ct_X6_at__25_0, ct_X6_put__25_0, ct_X6_at__26_0, ct_X6_add__26_0, ct_X6_fill__26_0, ct_X6_at__27_0, ct_X2_times_0, ct_X2_order_0] [] 3 2 (List.forall_mem_cons.mpr ⟨hct_X6_at__25_0, List.forall_mem_cons.mpr ⟨hct_X6_put__25_0, List.forall_mem_cons.mpr ⟨hct_X6_at__26_0, List.forall_mem_cons.mpr ⟨hct_X6_add__26_0, List.forall_mem_cons.mpr ⟨hct_X6_fill__26_0, List.forall_mem_cons.mpr ⟨hct_X6_at__27_0, List.forall_mem_cons.mpr ⟨hct_X2_times_0, List.forall_mem_cons.mpr ⟨hct_X2_order_0, fun _ h => absurd h List.not_mem_nil⟩⟩⟩⟩⟩⟩⟩⟩) (by decide +kernel)
def ct_X7_multiply : zCt := (114, [.inr (.inr (24, 0)), .inl (2147483648, 2147483664)], [], [(25, 0, 7), (26, 0, 7)], [.inl (none, [])], 7)
theorem hct_X7_multiply : z_ctH zTb ct_X7_multiply := z_ct_ok [] z_hds_ok [ct_X7_multiplyOnce_0] [] 5 2 (List.forall_mem_cons.mpr ⟨hct_X7_multiplyOnce_0, fun _ h => absurd h List.not_mem_nil⟩) (by decide +kernel)
def ct_X7_takeSquare_0 : zCt := (116, [.inr (.inr (24, 0)), .inl (0, 4294967295)], [], [(27, 0, 7)], [.inl (none, [])], 7)
theorem hct_X7_takeSquare_0 : z_ctH zTb ct_X7_takeSquare_0 := z_ct_ok [] z_hds_ok [ct_X6_put__27_0, ct_X2_order_0, ct_X0_weightIn_0] [] 5 2 (List.forall_mem_cons.mpr ⟨hct_X6_put__27_0, List.forall_mem_cons.mpr ⟨hct_X2_order_0, List.forall_mem_cons.mpr ⟨hct_X0_weightIn_0, fun _ h => absurd h List.not_mem_nil⟩⟩⟩) (by decide +kernel)
def ct_X7_takeSame_0 : zCt := (117, [.inr (.inr (24, 0)), .inr (.inl none), .inr (.inl none)], [], [(27, 0, 7)], [.inl (none, [])], 4)
theorem hct_X7_takeSame_0 : z_ctH zTb ct_X7_takeSame_0 := z_ct_ok [] z_hds_ok [ct_X6_put__27_0, ct_X2_order_0] [] 2 2 (List.forall_mem_cons.mpr ⟨hct_X6_put__27_0, List.forall_mem_cons.mpr ⟨hct_X2_order_0, fun _ h => absurd h List.not_mem_nil⟩⟩) (by decide +kernel)
def ct_X7_together_25 : zCt := (118, [.inr (.inr (24, 0)), .inr (.inr (25, 0))], [], [], [.inl (some (.inr (.inl none)), [])], 4)
theorem hct_X7_together_25 : z_ctH zTb ct_X7_together_25 := z_ct_ok [] z_hds_ok [ct_X6_at__25_0, ct_X2_order_0] [] 2 2 (List.forall_mem_cons.mpr ⟨hct_X6_at__25_0, List.forall_mem_cons.mpr ⟨hct_X2_order_0, fun _ h => absurd h List.not_mem_nil⟩⟩) (by decide +kernel)
def ct_X7_together_27 : zCt := (118, [.inr (.inr (24, 0)), .inr (.inr (27, 0))], [], [], [.inl (some (.inr (.inl none)), [])], 4)
theorem hct_X7_together_27 : z_ctH zTb ct_X7_together_27 := z_ct_ok [] z_hds_ok [ct_X6_at__27_0, ct_X2_order_0] [] 2 2 (List.forall_mem_cons.mpr ⟨hct_X6_at__27_0, List.forall_mem_cons.mpr ⟨hct_X2_order_0, fun _ h => absurd h List.not_mem_nil⟩⟩) (by decide +kernel)
def ct_J6_bitCount_0f7a4 : zCt := (259, [.inl (0, 4294967295)], [], [], [.inl (some (.inl (2147483648, 2147483711)), [])], 1)
theorem hct_J6_bitCount_0f7a4 : z_ctH zTb ct_J6_bitCount_0f7a4 := z_ct_ok [] z_hds_ok [] [] 0 1 (fun _ h => absurd h List.not_mem_nil) (by decide +kernel)
def ct_X7_choices : zCt := (122, [.inl (0, 4294967295), .inl (0, 4294967295)], [], [], [.inl (some (.inr (.inl none)), [])], 3)
set_option maxRecDepth 10000 in
theorem hct_X7_choices : z_ctH zTb ct_X7_choices := by
  intro nS d as M hd hS hT hG
  obtain ⟨e, rfl⟩ := h_rk hd
  obtain ⟨x0, s1, rfl, -, hS⟩ := z_S_I hS
  obtain ⟨x1, s2, rfl, -, hS⟩ := z_S_I hS
  have h1 := z_S_N hS
  subst h1
  show aC nS (e + 2 + 1) 122 _ M _ _
  refine aC_mk rfl rfl ?_
  intro K hK hF
  have lp : ∀ (n : Nat) (x2 : Int64) (x4 : Int32), 4294967296 - z_b x4 = n → K 5 [some (vI x0), some (vI x1), some (vL x2), none, some (vI x4)] [] M := by
    intro n
    induction n using Nat.strongRecOn with
    | ind n ih =>
    intro x2 x4 hm
    refine hK _ _ _ _ (hK _ _ _ _ (hK _ _ _ _ (hK _ _ _ _ (?_))))
    refine hK _ _ _ _ ⟨fun h => ?_, fun h1 => ?_⟩
    · exact hK _ _ _ _ (hK _ _ _ _ ⟨_, _, List.mem_singleton.mpr rfl, trivial, h_M0 hT⟩)
    refine hK _ _ _ _ (hK _ _ _ _ (?_))
    refine hK _ _ _ _ ⟨_, h_pI hct_J6_bitCount_0f7a4 rfl rfl rfl (show (1 : Nat) ≤ e + 2 by omega) (h_I trivial) hT, rfl, fun v M2 g => ?_⟩
    obtain ⟨⟨y, rfl, -⟩, rfl⟩ := g
    refine hK _ _ _ _ (hK _ _ _ _ ⟨fun h => ?_, fun h => ?_⟩)
    · refine hK _ _ _ _ (hK _ _ _ _ (hK _ _ _ _ (hK _ _ _ _ (?_))))
      exact hK _ _ _ _ (ih _ (v_up hm h1) _ _ rfl)
    · refine hK _ _ _ _ (hK _ _ _ _ (hK _ _ _ _ (hK _ _ _ _ (hK _ _ _ _ (?_)))))
      exact hK _ _ _ _ (ih _ (v_up hm h1) _ _ rfl)
  refine hK _ _ _ _ (hK _ _ _ _ (hK _ _ _ _ (hK _ _ _ _ (?_))))
  exact lp _ _ _ rfl
def ct_X7_overShape_0 : zCt := (119, [.inr (.inr (24, 0))], [], [], [.inl (some (.inr (.inl none)), [])], 6)
theorem hct_X7_overShape_0 : z_ctH zTb ct_X7_overShape_0 := z_ct_ok [] z_hds_ok [ct_X6_at__25_0, ct_X2_commutators_0, ct_X2_order_0, ct_X0_isFlat_0, ct_X0_isClosed_0, ct_X7_together_25] [] 4 2 (List.forall_mem_cons.mpr ⟨hct_X6_at__25_0, List.forall_mem_cons.mpr ⟨hct_X2_commutators_0, List.forall_mem_cons.mpr ⟨hct_X2_order_0, List.forall_mem_cons.mpr ⟨hct_X0_isFlat_0, List.forall_mem_cons.mpr ⟨hct_X0_isClosed_0, List.forall_mem_cons.mpr ⟨hct_X7_together_25, fun _ h => absurd h List.not_mem_nil⟩⟩⟩⟩⟩⟩) (by decide +kernel)
def ct_X7_ofStates_0 : zCt := (120, [.inr (.inr (24, 0))], [], [(25, 0, 7), (26, 0, 7), (27, 0, 7)], [.inl (some (.inr (.inl none)), [])], 9)
theorem hct_X7_ofStates_0 : z_ctH zTb ct_X7_ofStates_0 := z_ct_ok [] z_hds_ok [ct_X0_wide_0, ct_X0_high_0, ct_X0_squareAt_0, ct_X7_begin_0, ct_X7_multiplyOnce_0, ct_X7_takeSquare_0, ct_X7_overShape_0] [] 7 2 (List.forall_mem_cons.mpr ⟨hct_X0_wide_0, List.forall_mem_cons.mpr ⟨hct_X0_high_0, List.forall_mem_cons.mpr ⟨hct_X0_squareAt_0, List.forall_mem_cons.mpr ⟨hct_X7_begin_0, List.forall_mem_cons.mpr ⟨hct_X7_multiplyOnce_0, List.forall_mem_cons.mpr ⟨hct_X7_takeSquare_0, List.forall_mem_cons.mpr ⟨hct_X7_overShape_0, fun _ h => absurd h List.not_mem_nil⟩⟩⟩⟩⟩⟩⟩) (by decide +kernel)
def ct_X7_statesTurned_0 : zCt := (121, [.inr (.inr (24, 0)), .inl (0, 4294967295)], [], [(25, 0, 7), (26, 0, 7), (27, 0, 7)], [.inl (some (.inr (.inl none)), [])], 9)
theorem hct_X7_statesTurned_0 : z_ctH zTb ct_X7_statesTurned_0 := z_ct_ok [] z_hds_ok [ct_X0_squares_0, ct_X0_holes_0, ct_X7_begin_0, ct_X7_multiply, ct_X7_takeSame_0, ct_X7_choices, ct_X7_overShape_0] [] 7 2 (List.forall_mem_cons.mpr ⟨hct_X0_squares_0, List.forall_mem_cons.mpr ⟨hct_X0_holes_0, List.forall_mem_cons.mpr ⟨hct_X7_begin_0, List.forall_mem_cons.mpr ⟨hct_X7_multiply, List.forall_mem_cons.mpr ⟨hct_X7_takeSame_0, List.forall_mem_cons.mpr ⟨hct_X7_choices, List.forall_mem_cons.mpr ⟨hct_X7_overShape_0, fun _ h => absurd h List.not_mem_nil⟩⟩⟩⟩⟩⟩⟩) (by decide +kernel)
def ct_X7_ofWalk_0 : zCt := (123, [.inr (.inr (24, 0)), .inr (.inr (17, 0)), .inl (0, 4294967295)], [], [(25, 0, 7), (26, 0, 7), (27, 0, 7)], [.inl (some (.inr (.inl none)), [])], 9)
theorem hct_X7_ofWalk_0 : z_ctH zTb ct_X7_ofWalk_0 := z_ct_ok [] z_hds_ok [ct_X6_at__25_0, ct_X2_against_0, ct_X2_kinOf_0, ct_X2_order_0, ct_X0_wide_0, ct_X0_high_0, ct_X0_squareAt_0, ct_X9_windsRound, ct_X7_begin_0, ct_X7_multiplyOnce_0, ct_X7_takeSquare_0, ct_X7_together_27] [] 7 2 (List.forall_mem_cons.mpr ⟨hct_X6_at__25_0, List.forall_mem_cons.mpr ⟨hct_X2_against_0, List.forall_mem_cons.mpr ⟨hct_X2_kinOf_0, List.forall_mem_cons.mpr ⟨hct_X2_order_0, List.forall_mem_cons.mpr ⟨hct_X0_wide_0, List.forall_mem_cons.mpr ⟨hct_X0_high_0, List.forall_mem_cons.mpr ⟨hct_X0_squareAt_0, List.forall_mem_cons.mpr ⟨hct_X9_windsRound, List.forall_mem_cons.mpr ⟨hct_X7_begin_0, List.forall_mem_cons.mpr ⟨hct_X7_multiplyOnce_0, List.forall_mem_cons.mpr ⟨hct_X7_takeSquare_0, List.forall_mem_cons.mpr ⟨hct_X7_together_27, fun _ h => absurd h List.not_mem_nil⟩⟩⟩⟩⟩⟩⟩⟩⟩⟩⟩⟩) (by decide +kernel)
def ct_X7_restsInAll_0 : zCt := (124, [.inr (.inr (24, 0))], [], [], [.inl (some (.inl (0, 4294967295)), [])], 6)
theorem hct_X7_restsInAll_0 : z_ctH zTb ct_X7_restsInAll_0 := z_ct_ok [] z_hds_ok [ct_X2_commutators_0, ct_X2_order_0, ct_X0_isFlat_0, ct_X0_isClosed_0] [] 4 2 (List.forall_mem_cons.mpr ⟨hct_X2_commutators_0, List.forall_mem_cons.mpr ⟨hct_X2_order_0, List.forall_mem_cons.mpr ⟨hct_X0_isFlat_0, List.forall_mem_cons.mpr ⟨hct_X0_isClosed_0, fun _ h => absurd h List.not_mem_nil⟩⟩⟩⟩) (by decide +kernel)
def ct_X7_commutingPairsOnce_0 : zCt := (126, [.inr (.inr (24, 0))], [], [], [.inl (some (.inl (2147483648, 2147483904)), [])], 8)
theorem hct_X7_commutingPairsOnce_0 : z_ctH zTb ct_X7_commutingPairsOnce_0 := z_ct_ok [] z_hds_ok [ct_X2_commute_0, ct_X2_order_0] [] 6 2 (List.forall_mem_cons.mpr ⟨hct_X2_commute_0, List.forall_mem_cons.mpr ⟨hct_X2_order_0, fun _ h => absurd h List.not_mem_nil⟩⟩) (by decide +kernel)
def ct_X7_restsOnce_0 : zCt := (125, [.inr (.inr (24, 0))], [], [], [.inl (some (.inl (0, 4294967295)), [])], 10)
theorem hct_X7_restsOnce_0 : z_ctH zTb ct_X7_restsOnce_0 := z_ct_ok [] z_hds_ok [ct_X2_kins_0, ct_X0_isFlat_0, ct_X0_isClosed_0, ct_X7_commutingPairsOnce_0] [] 8 2 (List.forall_mem_cons.mpr ⟨hct_X2_kins_0, List.forall_mem_cons.mpr ⟨hct_X0_isFlat_0, List.forall_mem_cons.mpr ⟨hct_X0_isClosed_0, List.forall_mem_cons.mpr ⟨hct_X7_commutingPairsOnce_0, fun _ h => absurd h List.not_mem_nil⟩⟩⟩⟩) (by decide +kernel)
def ct_X7_dualOf_0 : zCt := (128, [.inr (.inr (24, 0)), .inl (0, 4294967295)], [], [], [.inl (some (.inl (0, 4294967295)), [])], 5)
theorem hct_X7_dualOf_0 : z_ctH zTb ct_X7_dualOf_0 := z_ct_ok [] z_hds_ok [ct_X2_order_0, ct_X0_weight_0, ct_J6_bitCount_0f7a4] [] 3 2 (List.forall_mem_cons.mpr ⟨hct_X2_order_0, List.forall_mem_cons.mpr ⟨hct_X0_weight_0, List.forall_mem_cons.mpr ⟨hct_J6_bitCount_0f7a4, fun _ h => absurd h List.not_mem_nil⟩⟩⟩) (by decide +kernel)
def ct_X7_ofDuals_0 : zCt := (129, [.inr (.inr (24, 0))], [], [], [.inl (some (.inr (.inl none)), [])], 7)
theorem hct_X7_ofDuals_0 : z_ctH zTb ct_X7_ofDuals_0 := z_ct_ok [] z_hds_ok [ct_X2_order_0, ct_X0_wide_0, ct_X0_high_0, ct_X0_squareAt_0, ct_X0_isHole_0, ct_X7_dualOf_0] [] 5 2 (List.forall_mem_cons.mpr ⟨hct_X2_order_0, List.forall_mem_cons.mpr ⟨hct_X0_wide_0, List.forall_mem_cons.mpr ⟨hct_X0_high_0, List.forall_mem_cons.mpr ⟨hct_X0_squareAt_0, List.forall_mem_cons.mpr ⟨hct_X0_isHole_0, List.forall_mem_cons.mpr ⟨hct_X7_dualOf_0, fun _ h => absurd h List.not_mem_nil⟩⟩⟩⟩⟩⟩) (by decide +kernel)
def ct_X7_ofBody : zCt := (127, [.inr (.inr (24, 0)), .inl (2147483648, 2147483654), .inl (2147483648, 2147483650), .inl (2147483648, 2147483650)], [], [(25, 0, 7), (26, 0, 7), (27, 0, 7)], [.inl (some (.inr (.inl none)), [])], 9)
theorem hct_X7_ofBody : z_ctH zTb ct_X7_ofBody := z_ct_ok [] z_hds_ok [ct_X6_at__25_0, ct_X6_put__27_0, ct_X2_commutators_0, ct_X2_roots_0, ct_X2_order_0, ct_X0_weight_0, ct_X7_begin_0, ct_X7_multiply] [] 7 2 (List.forall_mem_cons.mpr ⟨hct_X6_at__25_0, List.forall_mem_cons.mpr ⟨hct_X6_put__27_0, List.forall_mem_cons.mpr ⟨hct_X2_commutators_0, List.forall_mem_cons.mpr ⟨hct_X2_roots_0, List.forall_mem_cons.mpr ⟨hct_X2_order_0, List.forall_mem_cons.mpr ⟨hct_X0_weight_0, List.forall_mem_cons.mpr ⟨hct_X7_begin_0, List.forall_mem_cons.mpr ⟨hct_X7_multiply, fun _ h => absurd h List.not_mem_nil⟩⟩⟩⟩⟩⟩⟩⟩) (by decide +kernel)
def ct_X4_turnOf_0 : zCt := (88, [.inr (.inr (28, 0)), .inl (0, 4294967295)], [], [], [.inl (some (.inl (0, 4294967295)), [])], 3)
theorem hct_X4_turnOf_0 : z_ctH zTb ct_X4_turnOf_0 := z_ct_ok [] z_hds_ok [ct_X6_at_31_0, ct_X6_at_32_0] [] 1 2 (List.forall_mem_cons.mpr ⟨hct_X6_at_31_0, List.forall_mem_cons.mpr ⟨hct_X6_at_32_0, fun _ h => absurd h List.not_mem_nil⟩⟩) (by decide +kernel)
def ct_X4_comesRound_0 : zCt := (87, [.inr (.inr (28, 0)), .inl (0, 4294967295)], [], [], [.inl (some (.inl (0, 4294967295)), [])], 5)
theorem hct_X4_comesRound_0 : z_ctH zTb ct_X4_comesRound_0 := z_ct_ok [] z_hds_ok [ct_X2_times_0, ct_X2_against_0, ct_X4_turnOf_0] [] 3 2 (List.forall_mem_cons.mpr ⟨hct_X2_times_0, List.forall_mem_cons.mpr ⟨hct_X2_against_0, List.forall_mem_cons.mpr ⟨hct_X4_turnOf_0, fun _ h => absurd h List.not_mem_nil⟩⟩⟩) (by decide +kernel)
def ct_X4_findLevels : zCt := (82, [.inr (.inr (28, 0))], [], [(28, 2, 2), (29, 0, 31), (30, 0, 31), (31, 0, 31)], [.inl (none, [(458754, (2147483648, 2147483680))])], 5)
theorem hct_X4_findLevels : z_ctH zTb ct_X4_findLevels := z_ct_ok [(28, 2, 2)] z_hds_ok [ct_X6_put_29_0, ct_X6_put_30_0, ct_X6_put_31_0, ct_X0_hasLine_0, ct_X0_isOfTree_0] [] 3 2 (List.forall_mem_cons.mpr ⟨hct_X6_put_29_0, List.forall_mem_cons.mpr ⟨hct_X6_put_30_0, List.forall_mem_cons.mpr ⟨hct_X6_put_31_0, List.forall_mem_cons.mpr ⟨hct_X0_hasLine_0, List.forall_mem_cons.mpr ⟨hct_X0_isOfTree_0, fun _ h => absurd h List.not_mem_nil⟩⟩⟩⟩⟩) (by decide +kernel)
def ct_X4_findSquare : zCt := (84, [.inr (.inr (28, 0)), .inl (2147483648, 2147483658)], [], [(32, 0, 15), (33, 0, 3), (34, 0, 31)], [.inl (none, [])], 9)
theorem hct_X4_findSquare : z_ctH zTb ct_X4_findSquare := z_ct_ok [] z_hds_ok [ct_X6_at_30_0, ct_X6_put_32_0, ct_X6_put_33_0, ct_X6_put_34_0, ct_X2_order_0, ct_X0_sideOf_0, ct_X0_weightIn_0] [] 7 2 (List.forall_mem_cons.mpr ⟨hct_X6_at_30_0, List.forall_mem_cons.mpr ⟨hct_X6_put_32_0, List.forall_mem_cons.mpr ⟨hct_X6_put_33_0, List.forall_mem_cons.mpr ⟨hct_X6_put_34_0, List.forall_mem_cons.mpr ⟨hct_X2_order_0, List.forall_mem_cons.mpr ⟨hct_X0_sideOf_0, List.forall_mem_cons.mpr ⟨hct_X0_weightIn_0, fun _ h => absurd h List.not_mem_nil⟩⟩⟩⟩⟩⟩⟩) (by decide +kernel)
def ct_X4_findSquare_a : zCt := (84, [.inr (.inr (28, 0)), .inl (0, 4294967295)], [], [(32, 0, 15), (33, 0, 3), (34, 0, 31)], [.inl (none, [])], 9)
theorem hct_X4_findSquare_a : z_ctH zTb ct_X4_findSquare_a := z_ct_ok [] z_hds_ok [ct_X6_at_30_0, ct_X6_put_32_0, ct_X6_put_33_0, ct_X6_put_34_0, ct_X2_order_0, ct_X0_sideOf_0, ct_X0_weightIn_0] [] 7 2 (List.forall_mem_cons.mpr ⟨hct_X6_at_30_0, List.forall_mem_cons.mpr ⟨hct_X6_put_32_0, List.forall_mem_cons.mpr ⟨hct_X6_put_33_0, List.forall_mem_cons.mpr ⟨hct_X6_put_34_0, List.forall_mem_cons.mpr ⟨hct_X2_order_0, List.forall_mem_cons.mpr ⟨hct_X0_sideOf_0, List.forall_mem_cons.mpr ⟨hct_X0_weightIn_0, fun _ h => absurd h List.not_mem_nil⟩⟩⟩⟩⟩⟩⟩) (by decide +kernel)
def ct_X4_findSquares : zCt := (83, [.inr (.inr (28, 0))], [], [(28, 3, 3), (32, 0, 15), (33, 0, 3), (34, 0, 31)], [.inl (none, [(458755, (2147483649, 2147483657))])], 11)
theorem hct_X4_findSquares : z_ctH zTb ct_X4_findSquares := z_ct_ok [(28, 3, 3)] z_hds_ok [ct_X0_wide_0, ct_X0_high_0, ct_X0_squareAt_0, ct_X4_findSquare_a] [] 9 2 (List.forall_mem_cons.mpr ⟨hct_X0_wide_0, List.forall_mem_cons.mpr ⟨hct_X0_high_0, List.forall_mem_cons.mpr ⟨hct_X0_squareAt_0, List.forall_mem_cons.mpr ⟨hct_X4_findSquare_a, fun _ h => absurd h List.not_mem_nil⟩⟩⟩⟩) (by decide +kernel)
def ct_X4_goOn : zCt := (85, [.inr (.inr (28, 0))], [], [(31, 0, 31)], [.inl (some (.inl (2147483648, 2147483679)), []), .inl (some (.inl (2147483647, 2147483647)), [])], 4)
theorem hct_X4_goOn : z_ctH zTb ct_X4_goOn := z_ct_ok [] z_hds_ok [ct_X6_at_29_0, ct_X6_at_31_0, ct_X6_put_31_0, ct_X2_order_0] [] 2 2 (List.forall_mem_cons.mpr ⟨hct_X6_at_29_0, List.forall_mem_cons.mpr ⟨hct_X6_at_31_0, List.forall_mem_cons.mpr ⟨hct_X6_put_31_0, List.forall_mem_cons.mpr ⟨hct_X2_order_0, fun _ h => absurd h List.not_mem_nil⟩⟩⟩⟩) (by decide +kernel)
def ct_X4_weighFrom : zCt := (86, [.inr (.inr (28, 0)), .inl (2147483648, 2147483679)], [], [(35, 0, 32)], [.inl (none, [])], 7)
theorem hct_X4_weighFrom : z_ctH zTb ct_X4_weighFrom := z_ct_ok [] z_hds_ok [ct_X6_at_33_0, ct_X6_at_34_0, ct_X6_at__35_0, ct_X6_put__35_0, ct_X4_comesRound_0] [] 5 2 (List.forall_mem_cons.mpr ⟨hct_X6_at_33_0, List.forall_mem_cons.mpr ⟨hct_X6_at_34_0, List.forall_mem_cons.mpr ⟨hct_X6_at__35_0, List.forall_mem_cons.mpr ⟨hct_X6_put__35_0, List.forall_mem_cons.mpr ⟨hct_X4_comesRound_0, fun _ h => absurd h List.not_mem_nil⟩⟩⟩⟩⟩) (by decide +kernel)
def ct_X4_ofStates : zCt := (81, [.inr (.inr (28, 0))], [], [(28, 2, 3), (29, 0, 31), (30, 0, 31), (31, 0, 31), (32, 0, 15), (33, 0, 3), (34, 0, 31), (35, 0, 32)], [.inl (some (.inr (.inl none)), [])], 12)
set_option maxRecDepth 10000 in
theorem hct_X4_ofStates : z_ctH zTb ct_X4_ofStates := by
  intro nS d as M hd hS hT hG
  obtain ⟨e, rfl⟩ := h_rk hd
  have h1 := h_S1 (by decide) hS
  subst h1
  show aC nS (e + 11 + 1) 81 _ M _ _
  refine aC_mk rfl rfl ?_
  intro K hK hF
  have lp : ∀ (n : Nat) (M1 : aM) (x1 : Int64) (x3 x4 : Int32), 4294967296 - z_b x4 = n → z_i (2147483647, 2147483679) x3 → z_M (zTb, [(28, 2, 3), (29, 0, 31), (30, 0, 31), (31, 0, 31), (32, 0, 15), (33, 0, 3), (34, 0, 31), (35, 0, 32)], []) M [] M1 → K 24 [some (vR 28 0), some (vL x1), none, some (vI x3), some (vI x4)] [] M1 := by
    intro n
    induction n using Nat.strongRecOn with
    | ind n ih =>
    intro M1 x1 x3 x4 hm hx hM
    have tail : K 66 [some (vR 28 0), some (vL x1), none, some (vI x3), some (vI x4)] [] M1 := hK _ _ _ _ (hK _ _ _ _ ⟨_, _, List.mem_singleton.mpr rfl, trivial, hM⟩)
    refine hK _ _ _ _ (hK _ _ _ _ (?_))
    refine hK _ _ _ _ ⟨fun h => tail, fun h1 => ?_⟩
    refine hK _ _ _ _ (hK _ _ _ _ (?_))
    refine hK _ _ _ _ ⟨fun h => tail, fun h2 => ?_⟩
    have hx2 : z_i (2147483648, 2147483679) x3 := by
      refine ⟨?_, hx.2⟩
      have h3 : ¬ z_b x3 = 2147483647 := fun z => h2 (z_b_inj (z.trans z_b_m1.symm))
      have h4 := hx.1
      dsimp only at h4 ⊢
      omega
    refine hK _ _ _ _ (hK _ _ _ _ (?_))
    refine hK _ _ _ _ ⟨_, h_pW hct_X4_weighFrom rfl rfl (show (7 : Nat) ≤ e + 11 by omega) (h_R (h_Iv hx2 trivial)) hM.1, rfl, fun v M2 g => ?_⟩
    obtain ⟨g1, g2⟩ := g
    have g1 := h_ovN g1
    subst g1
    have hM2 : z_M (zTb, [(28, 2, 3), (29, 0, 31), (30, 0, 31), (31, 0, 31), (32, 0, 15), (33, 0, 3), (34, 0, 31), (35, 0, 32)], []) M [] M2 := h_Mt hM g2 (by decide)
    refine hK _ _ _ _ (hK _ _ _ _ (hK _ _ _ _ (hK _ _ _ _ (hK _ _ _ _ (?_)))))
    refine hK _ _ _ _ ⟨_, h_pW hct_X6_at__35_0 rfl rfl (show (1 : Nat) ≤ e + 11 by omega) (h_R (h_I trivial)) hM2.1, rfl, fun v M3 g => ?_⟩
    obtain ⟨g1, g3⟩ := g
    obtain ⟨y, rfl⟩ := h_ovJ g1
    have hM3 : z_M (zTb, [(28, 2, 3), (29, 0, 31), (30, 0, 31), (31, 0, 31), (32, 0, 15), (33, 0, 3), (34, 0, 31), (35, 0, 32)], []) M [] M3 := h_Mt hM2 g3 (by decide)
    refine hK _ _ _ _ (hK _ _ _ _ (hK _ _ _ _ (?_)))
    refine hK _ _ _ _ ⟨_, h_p2 hct_X4_goOn rfl (show (4 : Nat) ≤ e + 11 by omega) (h_R trivial) hM3.1 h_MG0, rfl, fun v M4 g => ?_⟩
    obtain ⟨y, rfl, g4⟩ := g
    have hy : z_i (2147483647, 2147483679) y ∧ z_M (zTb, [(28, 2, 3), (29, 0, 31), (30, 0, 31), (31, 0, 31), (32, 0, 15), (33, 0, 3), (34, 0, 31), (35, 0, 32)], []) M [] M4 := by
      rcases g4 with ⟨q1, q2⟩ | ⟨q1, q2⟩
      · exact ⟨z_iI_ok (by decide) q1, h_Mt hM3 (h_Md q2) (by decide)⟩
      · exact ⟨z_iI_ok (by decide) q1, h_Mt hM3 (h_Md q2) (by decide)⟩
    refine hK _ _ _ _ (hK _ _ _ _ (hK _ _ _ _ (?_)))
    exact ih _ (v_up hm h1) _ _ _ _ rfl hy.1 hy.2
  refine hK _ _ _ _ (?_)
  refine hK _ _ _ _ ⟨_, h_pW hct_X4_findLevels rfl rfl (show (5 : Nat) ≤ e + 11 by omega) (h_R trivial) hT, rfl, fun v M2 g => ?_⟩
  obtain ⟨g1, g2⟩ := g
  have g1 := h_ovN g1
  subst g1
  have hM2 : z_M (zTb, [(28, 2, 3), (29, 0, 31), (30, 0, 31), (31, 0, 31), (32, 0, 15), (33, 0, 3), (34, 0, 31), (35, 0, 32)], []) M [] M2 := h_Mt (h_M0 hT) g2 (by decide)
  refine hK _ _ _ _ (?_)
  refine hK _ _ _ _ ⟨_, h_pW hct_X4_findSquares rfl rfl (show (11 : Nat) ≤ e + 11 by omega) (h_R trivial) hM2.1, rfl, fun v M3 g => ?_⟩
  obtain ⟨g1, g3⟩ := g
  have g1 := h_ovN g1
  subst g1
  have hM4 : z_M (zTb, [(28, 2, 3), (29, 0, 31), (30, 0, 31), (31, 0, 31), (32, 0, 15), (33, 0, 3), (34, 0, 31), (35, 0, 32)], []) M [] M3 := h_Mt hM2 g3 (by decide)
  refine hK _ _ _ _ (hK _ _ _ _ (hK _ _ _ _ (hK _ _ _ _ (?_))))
  refine hK _ _ _ _ ⟨_, h_pW hct_X6_put__35_0 rfl rfl (show (1 : Nat) ≤ e + 11 by omega) (h_R (h_I ⟨trivial, trivial⟩)) hM4.1, rfl, fun v M4 g => ?_⟩
  obtain ⟨g1, g4⟩ := g
  have g1 := h_ovN g1
  subst g1
  have hM5 : z_M (zTb, [(28, 2, 3), (29, 0, 31), (30, 0, 31), (31, 0, 31), (32, 0, 15), (33, 0, 3), (34, 0, 31), (35, 0, 32)], []) M [] M4 := h_Mt hM4 g4 (by decide)
  refine hK _ _ _ _ (hK _ _ _ _ (hK _ _ _ _ (hK _ _ _ _ (hK _ _ _ _ (hK _ _ _ _ (?_))))))
  exact lp _ _ _ _ _ rfl (by rw [show z_i (2147483647, 2147483679) 0 ↔ _ from Iff.rfl]; unfold z_i; rw [z_b0]; decide) hM5
def ct_X10_board_0 : zCt := (152, [.inr (.inr (0, 0))], [], [(1, 1, 1), (3, 1, 5), (4, 1, 6), (5, 0, 2), (6, 0, 63), (7, 0, 7), (8, 0, 7), (9, 0, 7), (10, 0, 7), (11, 0, 7), (12, 0, 31), (13, 0, 7), (14, 0, 15), (20, 4, 5)], [.inr (.inl (0, [(16385, (2147483648, 2147483648))])), .inr (.inl (1, [(16385, (2147483648, 2147483648))])), .inl (some (.inl (0, 4294967295)), [(16385, (2147483648, 2147483648))])], 16)
theorem hct_X10_board_0 : z_ctH zTb ct_X10_board_0 := z_ct_ok [] z_hds_ok [ct_X0_countText_1, ct_X0_texts_0, ct_X0_copyFrom_1_0, ct_X0_copyFrom_0_1, ct_X8_clearc, ct_X1_read, ct_X3_forget_0] [] 14 2 (List.forall_mem_cons.mpr ⟨hct_X0_countText_1, List.forall_mem_cons.mpr ⟨hct_X0_texts_0, List.forall_mem_cons.mpr ⟨hct_X0_copyFrom_1_0, List.forall_mem_cons.mpr ⟨hct_X0_copyFrom_0_1, List.forall_mem_cons.mpr ⟨hct_X8_clearc, List.forall_mem_cons.mpr ⟨hct_X1_read, List.forall_mem_cons.mpr ⟨hct_X3_forget_0, fun _ h => absurd h List.not_mem_nil⟩⟩⟩⟩⟩⟩⟩) (by decide +kernel)
def ct_X10_fault_0 : zCt := (153, [.inr (.inr (0, 0))], [], [], [.inl (some (.inl (0, 4294967295)), [])], 4)
theorem hct_X10_fault_0 : z_ctH zTb ct_X10_fault_0 := z_ct_ok [] z_hds_ok [ct_X5_wrong_0] [] 2 2 (List.forall_mem_cons.mpr ⟨hct_X5_wrong_0, fun _ h => absurd h List.not_mem_nil⟩) (by decide +kernel)
def ct_X10_by_0 : zCt := (154, [.inr (.inr (0, 0)), .inl (0, 4294967295), .inl (0, 4294967295)], [], [], [.inl (some (.inl (0, 4294967295)), []), .inr (.inl (2, []))], 8)
theorem hct_X10_by_0 : z_ctH zTb ct_X10_by_0 := z_ct_ok [] z_hds_ok [ct_X2_times_0, ct_X2_has_0, ct_X0_group_0] [] 6 2 (List.forall_mem_cons.mpr ⟨hct_X2_times_0, List.forall_mem_cons.mpr ⟨hct_X2_has_0, List.forall_mem_cons.mpr ⟨hct_X0_group_0, fun _ h => absurd h List.not_mem_nil⟩⟩⟩) (by decide +kernel)
def ct_X10_turn_0 : zCt := (155, [.inr (.inr (0, 0)), .inl (0, 4294967295), .inl (0, 4294967295)], [], [], [.inl (some (.inl (0, 4294967295)), []), .inr (.inl (3, [])), .inr (.inl (2, []))], 9)
theorem hct_X10_turn_0 : z_ctH zTb ct_X10_turn_0 := z_ct_ok [] z_hds_ok [ct_X2_against_0, ct_X2_timesToRest_0, ct_X2_kinOf_0, ct_X2_kinSize_0, ct_X2_commutators_0, ct_X2_roots_0, ct_X2_has_0, ct_X0_group_0, ct_X0_weight_0] [] 7 2 (List.forall_mem_cons.mpr ⟨hct_X2_against_0, List.forall_mem_cons.mpr ⟨hct_X2_timesToRest_0, List.forall_mem_cons.mpr ⟨hct_X2_kinOf_0, List.forall_mem_cons.mpr ⟨hct_X2_kinSize_0, List.forall_mem_cons.mpr ⟨hct_X2_commutators_0, List.forall_mem_cons.mpr ⟨hct_X2_roots_0, List.forall_mem_cons.mpr ⟨hct_X2_has_0, List.forall_mem_cons.mpr ⟨hct_X0_group_0, List.forall_mem_cons.mpr ⟨hct_X0_weight_0, fun _ h => absurd h List.not_mem_nil⟩⟩⟩⟩⟩⟩⟩⟩⟩) (by decide +kernel)
def ct_X10_line_0 : zCt := (156, [.inr (.inr (0, 0)), .inl (0, 4294967295), .inl (0, 4294967295), .inl (2147483648, 2147483649)], [], [], [.inr (.inl (2, [])), .inl (some (.inl (0, 4294967295)), [])], 8)
theorem hct_X10_line_0 : z_ctH zTb ct_X10_line_0 := z_ct_ok [] z_hds_ok [ct_X0_lineAt_0, ct_X0_turnOn_0] [] 6 2 (List.forall_mem_cons.mpr ⟨hct_X0_lineAt_0, List.forall_mem_cons.mpr ⟨hct_X0_turnOn_0, fun _ h => absurd h List.not_mem_nil⟩⟩) (by decide +kernel)
def ct_X10_set_0 : zCt := (157, [.inr (.inr (0, 0)), .inl (0, 4294967295), .inl (0, 4294967295), .inl (2147483648, 2147483649), .inl (0, 4294967295)], [], [(12, 0, 31), (20, 4, 5), (21, 0, 19), (22, 0, 19), (23, 0, 19)], [.inl (some (.inl (0, 4294967295)), []), .inr (.inl (2, []))], 9)
theorem hct_X10_set_0 : z_ctH zTb ct_X10_set_0 := z_ct_ok [] z_hds_ok [ct_X2_has_0, ct_X0_group_0, ct_X0_lineAt_0, ct_X0_turnOn_0, ct_X0_putTurn_0, ct_X3_noteLine_0] [] 7 2 (List.forall_mem_cons.mpr ⟨hct_X2_has_0, List.forall_mem_cons.mpr ⟨hct_X0_group_0, List.forall_mem_cons.mpr ⟨hct_X0_lineAt_0, List.forall_mem_cons.mpr ⟨hct_X0_turnOn_0, List.forall_mem_cons.mpr ⟨hct_X0_putTurn_0, List.forall_mem_cons.mpr ⟨hct_X3_noteLine_0, fun _ h => absurd h List.not_mem_nil⟩⟩⟩⟩⟩⟩) (by decide +kernel)
def ct_X10_round_0 : zCt := (158, [.inr (.inr (0, 0)), .inl (0, 4294967295), .inl (0, 4294967295)], [], [], [.inr (.inl (2, [])), .inl (some (.inl (0, 4294967295)), [])], 11)
theorem hct_X10_round_0 : z_ctH zTb ct_X10_round_0 := z_ct_ok [] z_hds_ok [ct_X0_squareAt_0, ct_X0_turnRound_0] [] 9 2 (List.forall_mem_cons.mpr ⟨hct_X0_squareAt_0, List.forall_mem_cons.mpr ⟨hct_X0_turnRound_0, fun _ h => absurd h List.not_mem_nil⟩⟩) (by decide +kernel)
def ct_X10_frame_0 : zCt := (159, [.inr (.inr (0, 0)), .inl (0, 4294967295), .inl (0, 4294967295), .inl (0, 4294967295)], [], [(12, 0, 31), (20, 4, 5), (21, 0, 19), (22, 0, 19), (23, 0, 19)], [.inl (some (.inl (2147483648, 2147483680)), []), .inr (.inl (2, []))], 9)
theorem hct_X10_frame_0 : z_ctH zTb ct_X10_frame_0 := z_ct_ok [] z_hds_ok [ct_X2_against_0, ct_X2_has_0, ct_X0_group_0, ct_X0_cornerAt_0, ct_X0_reframe_0, ct_X3_noteFrame_0] [] 7 2 (List.forall_mem_cons.mpr ⟨hct_X2_against_0, List.forall_mem_cons.mpr ⟨hct_X2_has_0, List.forall_mem_cons.mpr ⟨hct_X0_group_0, List.forall_mem_cons.mpr ⟨hct_X0_cornerAt_0, List.forall_mem_cons.mpr ⟨hct_X0_reframe_0, List.forall_mem_cons.mpr ⟨hct_X3_noteFrame_0, fun _ h => absurd h List.not_mem_nil⟩⟩⟩⟩⟩⟩) (by decide +kernel)
def ct_X10_undo_0 : zCt := (160, [.inr (.inr (0, 0))], [], [(12, 0, 31), (20, 4, 4)], [.inl (some (.inl (2147483648, 2147483649)), [])], 12)
theorem hct_X10_undo_0 : z_ctH zTb ct_X10_undo_0 := z_ct_ok [] z_hds_ok [ct_X3_takeBack_0] [] 10 2 (List.forall_mem_cons.mpr ⟨hct_X3_takeBack_0, fun _ h => absurd h List.not_mem_nil⟩) (by decide +kernel)
def ct_X10_redo_0 : zCt := (161, [.inr (.inr (0, 0))], [], [(12, 0, 31), (20, 4, 4)], [.inl (some (.inl (2147483648, 2147483649)), [])], 12)
theorem hct_X10_redo_0 : z_ctH zTb ct_X10_redo_0 := z_ct_ok [] z_hds_ok [ct_X3_doAgain_0] [] 10 2 (List.forall_mem_cons.mpr ⟨hct_X3_doAgain_0, fun _ h => absurd h List.not_mem_nil⟩) (by decide +kernel)
def ct_X10_walk_0 : zCt := (162, [.inr (.inr (0, 0)), .inl (0, 4294967295)], [], [(1, 1, 1), (3, 1, 5), (17, 2, 6), (18, 0, 15), (19, 0, 15)], [.inr (.inl (0, [(16385, (2147483648, 2147483648))])), .inl (some (.inl (0, 4294967295)), [(16385, (2147483648, 2147483648))]), .inr (.inl (3, [(16385, (2147483648, 2147483648))]))], 16)
theorem hct_X10_walk_0 : z_ctH zTb ct_X10_walk_0 := z_ct_ok [] z_hds_ok [ct_X8_clearc, ct_X9_comesTo_0, ct_X9_length_0, ct_X9_isClosed_0, ct_X9_read_0] [] 14 2 (List.forall_mem_cons.mpr ⟨hct_X8_clearc, List.forall_mem_cons.mpr ⟨hct_X9_comesTo_0, List.forall_mem_cons.mpr ⟨hct_X9_length_0, List.forall_mem_cons.mpr ⟨hct_X9_isClosed_0, List.forall_mem_cons.mpr ⟨hct_X9_read_0, fun _ h => absurd h List.not_mem_nil⟩⟩⟩⟩⟩) (by decide +kernel)
def ct_X10_worth_0 : zCt := (163, [.inr (.inr (0, 0))], [], [], [.inl (some (.inr (.inl none)), [])], 13)
theorem hct_X10_worth_0 : z_ctH zTb ct_X10_worth_0 := z_ct_ok [] z_hds_ok [ct_X0_worthOfTurns_0] [] 11 2 (List.forall_mem_cons.mpr ⟨hct_X0_worthOfTurns_0, fun _ h => absurd h List.not_mem_nil⟩) (by decide +kernel)
def ct_X10_turned_0 : zCt := (164, [.inr (.inr (0, 0))], [], [], [.inl (some (.inl (2147483648, 2147483657)), [])], 13)
theorem hct_X10_turned_0 : z_ctH zTb ct_X10_turned_0 := z_ct_ok [] z_hds_ok [ct_X0_turnedSquares_0] [] 11 2 (List.forall_mem_cons.mpr ⟨hct_X0_turnedSquares_0, fun _ h => absurd h List.not_mem_nil⟩) (by decide +kernel)
def ct_X10_alike_0 : zCt := (165, [.inr (.inr (0, 0))], [], [(15, 0, 15)], [.inr (.inl (4, [])), .inl (some (.inl (2147483648, 2147483649)), [])], 12)
theorem hct_X10_alike_0 : z_ctH zTb ct_X10_alike_0 := z_ct_ok [] z_hds_ok [ct_X0_isReframed] [] 10 2 (List.forall_mem_cons.mpr ⟨hct_X0_isReframed, fun _ h => absurd h List.not_mem_nil⟩) (by decide +kernel)
def ct_X10_sum_0 : zCt := (166, [.inr (.inr (0, 0))], [], [(25, 0, 7), (26, 0, 7), (27, 0, 7)], [.inl (some (.inr (.inl none)), [])], 11)
theorem hct_X10_sum_0 : z_ctH zTb ct_X10_sum_0 := z_ct_ok [] z_hds_ok [ct_X7_ofStates_0] [] 9 2 (List.forall_mem_cons.mpr ⟨hct_X7_ofStates_0, fun _ h => absurd h List.not_mem_nil⟩) (by decide +kernel)
def ct_X10_listed_0 : zCt := (167, [.inr (.inr (0, 0))], [], [(28, 2, 3), (29, 0, 31), (30, 0, 31), (31, 0, 31), (32, 0, 15), (33, 0, 3), (34, 0, 31), (35, 0, 32)], [.inr (.inl (4, [])), .inl (some (.inr (.inl none)), [])], 14)
theorem hct_X10_listed_0 : z_ctH zTb ct_X10_listed_0 := z_ct_ok [] z_hds_ok [ct_X0_squares_0, ct_X4_ofStates] [] 12 2 (List.forall_mem_cons.mpr ⟨hct_X0_squares_0, List.forall_mem_cons.mpr ⟨hct_X4_ofStates, fun _ h => absurd h List.not_mem_nil⟩⟩) (by decide +kernel)
def ct_X10_states_0 : zCt := (168, [.inr (.inr (0, 0)), .inl (0, 4294967295)], [], [(25, 0, 7), (26, 0, 7), (27, 0, 7)], [.inl (some (.inr (.inl none)), [])], 11)
theorem hct_X10_states_0 : z_ctH zTb ct_X10_states_0 := z_ct_ok [] z_hds_ok [ct_X7_statesTurned_0] [] 9 2 (List.forall_mem_cons.mpr ⟨hct_X7_statesTurned_0, fun _ h => absurd h List.not_mem_nil⟩) (by decide +kernel)
def ct_X10_mean_0 : zCt := (169, [.inr (.inr (0, 0)), .inl (0, 4294967295)], [], [(1, 1, 1), (3, 1, 5), (17, 2, 6), (18, 0, 15), (19, 0, 15), (25, 0, 7), (26, 0, 7), (27, 0, 7)], [.inr (.inl (0, [(16385, (2147483648, 2147483648))])), .inl (some (.inr (.inl none)), [(16385, (2147483648, 2147483648))]), .inr (.inl (4, [(16385, (2147483648, 2147483648))])), .inr (.inl (2, [(16385, (2147483648, 2147483648))]))], 16)
theorem hct_X10_mean_0 : z_ctH zTb ct_X10_mean_0 := z_ct_ok [] z_hds_ok [ct_X2_hasKin_0, ct_X0_group_0, ct_X0_isFlat_0, ct_X8_clearc, ct_X9_read_0, ct_X9_isSimple_0, ct_X9_squaresWithin_0, ct_X7_ofWalk_0] [] 14 2 (List.forall_mem_cons.mpr ⟨hct_X2_hasKin_0, List.forall_mem_cons.mpr ⟨hct_X0_group_0, List.forall_mem_cons.mpr ⟨hct_X0_isFlat_0, List.forall_mem_cons.mpr ⟨hct_X8_clearc, List.forall_mem_cons.mpr ⟨hct_X9_read_0, List.forall_mem_cons.mpr ⟨hct_X9_isSimple_0, List.forall_mem_cons.mpr ⟨hct_X9_squaresWithin_0, List.forall_mem_cons.mpr ⟨hct_X7_ofWalk_0, fun _ h => absurd h List.not_mem_nil⟩⟩⟩⟩⟩⟩⟩⟩) (by decide +kernel)
def ct_X10_rests_0 : zCt := (170, [.inr (.inr (0, 0)), .inl (2147483648, 2147483649)], [], [], [.inl (some (.inl (0, 4294967295)), [])], 12)
theorem hct_X10_rests_0 : z_ctH zTb ct_X10_rests_0 := z_ct_ok [] z_hds_ok [ct_X7_restsInAll_0, ct_X7_restsOnce_0] [] 10 2 (List.forall_mem_cons.mpr ⟨hct_X7_restsInAll_0, List.forall_mem_cons.mpr ⟨hct_X7_restsOnce_0, fun _ h => absurd h List.not_mem_nil⟩⟩) (by decide +kernel)
def ct_X10_body_0 : zCt := (171, [.inr (.inr (0, 0)), .inl (0, 4294967295), .inl (0, 4294967295), .inl (0, 4294967295)], [], [(25, 0, 7), (26, 0, 7), (27, 0, 7)], [.inr (.inl (0, [])), .inl (some (.inr (.inl none)), [])], 11)
theorem hct_X10_body_0 : z_ctH zTb ct_X10_body_0 := z_ct_ok [] z_hds_ok [ct_X7_ofBody] [] 9 2 (List.forall_mem_cons.mpr ⟨hct_X7_ofBody, fun _ h => absurd h List.not_mem_nil⟩) (by decide +kernel)
def ct_X10_dual_0 : zCt := (172, [.inr (.inr (0, 0)), .inl (0, 4294967295)], [], [], [.inl (some (.inl (0, 4294967295)), []), .inr (.inl (4, [])), .inr (.inl (2, []))], 8)
theorem hct_X10_dual_0 : z_ctH zTb ct_X10_dual_0 := z_ct_ok [] z_hds_ok [ct_X2_has_0, ct_X2_isOfHalves_0, ct_X0_group_0, ct_X7_dualOf_0] [] 6 2 (List.forall_mem_cons.mpr ⟨hct_X2_has_0, List.forall_mem_cons.mpr ⟨hct_X2_isOfHalves_0, List.forall_mem_cons.mpr ⟨hct_X0_group_0, List.forall_mem_cons.mpr ⟨hct_X7_dualOf_0, fun _ h => absurd h List.not_mem_nil⟩⟩⟩⟩) (by decide +kernel)
def ct_X10_dualSum_0 : zCt := (173, [.inr (.inr (0, 0))], [], [], [.inl (some (.inr (.inl none)), []), .inr (.inl (4, []))], 9)
theorem hct_X10_dualSum_0 : z_ctH zTb ct_X10_dualSum_0 := z_ct_ok [] z_hds_ok [ct_X2_isOfHalves_0, ct_X0_group_0, ct_X0_isClosed_0, ct_X7_ofDuals_0] [] 7 2 (List.forall_mem_cons.mpr ⟨hct_X2_isOfHalves_0, List.forall_mem_cons.mpr ⟨hct_X0_group_0, List.forall_mem_cons.mpr ⟨hct_X0_isClosed_0, List.forall_mem_cons.mpr ⟨hct_X7_ofDuals_0, fun _ h => absurd h List.not_mem_nil⟩⟩⟩⟩) (by decide +kernel)
def ct_X10_draw_0 : zCt := (174, [.inr (.inr (0, 0)), .inl (0, 4294967295)], [], [(12, 0, 31), (20, 4, 5)], [.inr (.inl (4, [])), .inl (some (.inr (.inl none)), [])], 13)
theorem hct_X10_draw_0 : z_ctH zTb ct_X10_draw_0 := z_ct_ok [] z_hds_ok [ct_X0_isFlat_0, ct_X0_weightSum_0, ct_X0_worthOfTurns_0, ct_X0_drawTurns_0, ct_X3_forget_0] [] 11 2 (List.forall_mem_cons.mpr ⟨hct_X0_isFlat_0, List.forall_mem_cons.mpr ⟨hct_X0_weightSum_0, List.forall_mem_cons.mpr ⟨hct_X0_worthOfTurns_0, List.forall_mem_cons.mpr ⟨hct_X0_drawTurns_0, List.forall_mem_cons.mpr ⟨hct_X3_forget_0, fun _ h => absurd h List.not_mem_nil⟩⟩⟩⟩⟩) (by decide +kernel)
def ct_X10_image_0 : zCt := (175, [.inr (.inr (0, 0))], [], [(0, 5, 5), (4, 1, 6), (5, 0, 2), (6, 0, 63), (7, 0, 7), (8, 0, 7), (9, 0, 7), (10, 0, 7), (11, 0, 7), (12, 0, 31), (13, 0, 7), (14, 0, 15)], [.inl (none, [])], 11)
theorem hct_X10_image_0 : z_ctH zTb ct_X10_image_0 := z_ct_ok [] z_hds_ok [ct_X0_copyFrom_2_0] [] 9 2 (List.forall_mem_cons.mpr ⟨hct_X0_copyFrom_2_0, fun _ h => absurd h List.not_mem_nil⟩) (by decide +kernel)
def ct_X10_back_0 : zCt := (176, [.inr (.inr (0, 0))], [], [(4, 1, 6), (5, 0, 2), (6, 0, 63), (7, 0, 7), (8, 0, 7), (9, 0, 7), (10, 0, 7), (11, 0, 7), (12, 0, 31), (13, 0, 7), (14, 0, 15), (20, 4, 5)], [.inl (some (.inl (2147483648, 2147483649)), [])], 11)
theorem hct_X10_back_0 : z_ctH zTb ct_X10_back_0 := z_ct_ok [] z_hds_ok [ct_X0_copyFrom_0_2, ct_X3_forget_0] [] 9 2 (List.forall_mem_cons.mpr ⟨hct_X0_copyFrom_0_2, List.forall_mem_cons.mpr ⟨hct_X3_forget_0, fun _ h => absurd h List.not_mem_nil⟩⟩) (by decide +kernel)
def ct_X10_count_0 : zCt := (177, [.inr (.inr (0, 0)), .inl (0, 4294967295)], [], [], [.inl (some (.inl (0, 4294967295)), [])], 6)
theorem hct_X10_count_0 : z_ctH zTb ct_X10_count_0 := z_ct_ok [] z_hds_ok [ct_X2_commutators_0, ct_X2_kind_0, ct_X2_order_0, ct_X2_kins_0, ct_X0_group_0, ct_X0_wide_0, ct_X0_high_0, ct_X0_shape_0, ct_X0_texts_0, ct_X0_corners_0, ct_X0_lines_0, ct_X0_holes_0, ct_X3_undoable_0, ct_X3_redoable_0] [] 4 2 (List.forall_mem_cons.mpr ⟨hct_X2_commutators_0, List.forall_mem_cons.mpr ⟨hct_X2_kind_0, List.forall_mem_cons.mpr ⟨hct_X2_order_0, List.forall_mem_cons.mpr ⟨hct_X2_kins_0, List.forall_mem_cons.mpr ⟨hct_X0_group_0, List.forall_mem_cons.mpr ⟨hct_X0_wide_0, List.forall_mem_cons.mpr ⟨hct_X0_high_0, List.forall_mem_cons.mpr ⟨hct_X0_shape_0, List.forall_mem_cons.mpr ⟨hct_X0_texts_0, List.forall_mem_cons.mpr ⟨hct_X0_corners_0, List.forall_mem_cons.mpr ⟨hct_X0_lines_0, List.forall_mem_cons.mpr ⟨hct_X0_holes_0, List.forall_mem_cons.mpr ⟨hct_X3_undoable_0, List.forall_mem_cons.mpr ⟨hct_X3_redoable_0, fun _ h => absurd h List.not_mem_nil⟩⟩⟩⟩⟩⟩⟩⟩⟩⟩⟩⟩⟩⟩) (by decide +kernel)
