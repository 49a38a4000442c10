def ct_times3 : zCt := (180, [.inr (.inr (36, 0)), .inl (2147483648, 2147483655), .inl (2147483648, 2147483655)], [(606209, (2147483651, 2147483651))], [], [.inl (some (.inl (2147483648, 2147483655)), [])], 1)
theorem hct_times3 : z_ctH zTb ct_times3 := z_ct_ok [] z_hds_ok [] [(true, 1, [(2147483648, 2147483648), (2147483649, 2147483649), (2147483650, 2147483650), (2147483651, 2147483651), (2147483652, 2147483652), (2147483653, 2147483653), (2147483654, 2147483654), (2147483655, 2147483655)]), (true, 2, [(2147483648, 2147483648), (2147483649, 2147483649), (2147483650, 2147483650), (2147483651, 2147483651), (2147483652, 2147483652), (2147483653, 2147483653), (2147483654, 2147483654), (2147483655, 2147483655)])] 0 1 (fun _ h => absurd h List.not_mem_nil) (by decide +kernel)
def ct_times0 : zCt := (180, [.inr (.inr (36, 0)), .inl (2147483648, 2147483663), .inl (2147483648, 2147483663)], [(606209, (2147483648, 2147483650))], [], [.inl (some (.inl (2147483648, 2147483655)), [])], 1)
theorem hct_times0 : z_ctH zTb ct_times0 := z_ct_ok [] z_hds_ok [] [(false, 606209, [(2147483648, 2147483648), (2147483649, 2147483649), (2147483650, 2147483650)]), (false, 606210, [(2147483650, 2147483650), (2147483651, 2147483651), (2147483652, 2147483652), (2147483653, 2147483653), (2147483654, 2147483654), (2147483655, 2147483655), (2147483656, 2147483656)])] 0 1 (fun _ h => absurd h List.not_mem_nil) (by decide +kernel)
def ct_against3 : zCt := (181, [.inr (.inr (36, 0)), .inl (2147483648, 2147483655)], [(606209, (2147483651, 2147483651))], [], [.inl (some (.inl (2147483648, 2147483655)), [])], 2)
theorem hct_against3 : z_ctH zTb ct_against3 := z_ct_ok [] z_hds_ok [] [(true, 1, [(2147483648, 2147483648), (2147483649, 2147483649), (2147483650, 2147483650), (2147483651, 2147483651), (2147483652, 2147483652), (2147483653, 2147483653), (2147483654, 2147483654), (2147483655, 2147483655)])] 0 2 (fun _ h => absurd h List.not_mem_nil) (by decide +kernel)
def ct_against0 : zCt := (181, [.inr (.inr (36, 0)), .inl (2147483648, 2147483656)], [(606209, (2147483648, 2147483650))], [], [.inl (some (.inl (2147483648, 2147483656)), [])], 2)
theorem hct_against0 : z_ctH zTb ct_against0 := z_ct_ok [] z_hds_ok [] [(false, 606209, [(2147483648, 2147483648), (2147483649, 2147483649), (2147483650, 2147483650)]), (false, 606210, [(2147483650, 2147483650), (2147483651, 2147483651), (2147483652, 2147483652), (2147483653, 2147483653), (2147483654, 2147483654), (2147483655, 2147483655), (2147483656, 2147483656)]), (true, 1, [(2147483648, 2147483648), (2147483649, 2147483649), (2147483650, 2147483650), (2147483651, 2147483651), (2147483652, 2147483652), (2147483653, 2147483653), (2147483654, 2147483654), (2147483655, 2147483655), (2147483656, 2147483656)])] 0 2 (fun _ h => absurd h List.not_mem_nil) (by decide +kernel)
def ct_isKin : zCt := (182, [.inr (.inr (36, 0)), .inl (2147483648, 2147483655), .inl (2147483648, 2147483655)], [], [], [.inl (some (.inl (2147483648, 2147483649)), [])], 3)
theorem hct_isKin : z_ctH zTb ct_isKin := z_ct_ok [] z_hds_ok [ct_times3, ct_times0, ct_against3, ct_against0] [(false, 606209, [(2147483648, 2147483650), (2147483651, 2147483651)])] 2 1 (List.forall_mem_cons.mpr ⟨hct_times3, List.forall_mem_cons.mpr ⟨hct_times0, List.forall_mem_cons.mpr ⟨hct_against3, List.forall_mem_cons.mpr ⟨hct_against0, fun _ h => absurd h List.not_mem_nil⟩⟩⟩⟩) (by decide +kernel)
def ct_commutators : zCt := (186, [.inr (.inr (36, 0)), .inl (2147483648, 2147483655)], [], [], [.inl (some (.inl (2147483648, 2147483712)), [])], 3)
theorem hct_commutators : z_ctH zTb ct_commutators := z_ct_ok [] z_hds_ok [ct_times3, ct_times0, ct_against3, ct_against0] [(false, 606209, [(2147483648, 2147483650), (2147483651, 2147483651)])] 2 1 (List.forall_mem_cons.mpr ⟨hct_times3, List.forall_mem_cons.mpr ⟨hct_times0, List.forall_mem_cons.mpr ⟨hct_against3, List.forall_mem_cons.mpr ⟨hct_against0, fun _ h => absurd h List.not_mem_nil⟩⟩⟩⟩) (by decide +kernel)
def ct_roots : zCt := (187, [.inr (.inr (36, 0)), .inl (2147483648, 2147483655)], [], [], [.inl (some (.inl (2147483648, 2147483656)), [])], 2)
theorem hct_roots : z_ctH zTb ct_roots := z_ct_ok [] z_hds_ok [ct_times3, ct_times0] [(false, 606209, [(2147483648, 2147483650), (2147483651, 2147483651)])] 1 1 (List.forall_mem_cons.mpr ⟨hct_times3, List.forall_mem_cons.mpr ⟨hct_times0, fun _ h => absurd h List.not_mem_nil⟩⟩) (by decide +kernel)
def ct_isHole : zCt := (193, [.inr (.inr (36, 0)), .inl (0, 4294967295), .inl (0, 4294967295)], [], [], [.inl (some (.inl (2147483648, 2147483649)), [])], 1)
theorem hct_isHole : z_ctH zTb ct_isHole := z_ct_ok [] z_hds_ok [] [] 0 1 (fun _ h => absurd h List.not_mem_nil) (by decide +kernel)
def ct_columns : zCt := (189, [.inr (.inr (36, 0))], [], [], [.inl (some (.inl (2147483649, 2147483652)), [])], 1)
theorem hct_columns : z_ctH zTb ct_columns := z_ct_ok [] z_hds_ok [] [] 0 1 (fun _ h => absurd h List.not_mem_nil) (by decide +kernel)
def ct_rowsOf : zCt := (190, [.inr (.inr (36, 0))], [], [], [.inl (some (.inl (2147483649, 2147483652)), [])], 1)
theorem hct_rowsOf : z_ctH zTb ct_rowsOf := z_ct_ok [] z_hds_ok [] [] 0 1 (fun _ h => absurd h List.not_mem_nil) (by decide +kernel)
def ct_lineMany : zCt := (195, [.inr (.inr (36, 0))], [], [], [.inl (some (.inl (2147483650, 2147483672)), [])], 2)
theorem hct_lineMany : z_ctH zTb ct_lineMany := z_ct_ok [] z_hds_ok [ct_columns, ct_rowsOf] [(false, 606211, [(2147483649, 2147483649), (2147483650, 2147483650), (2147483651, 2147483651)]), (false, 606212, [(2147483649, 2147483649), (2147483650, 2147483650), (2147483651, 2147483651)]), (false, 606213, [(2147483648, 2147483648), (2147483649, 2147483649), (2147483650, 2147483650)])] 1 1 (List.forall_mem_cons.mpr ⟨hct_columns, List.forall_mem_cons.mpr ⟨hct_rowsOf, fun _ h => absurd h List.not_mem_nil⟩⟩) (by decide +kernel)
def ct_lineOf : zCt := (194, [.inr (.inr (36, 0)), .inl (0, 4294967295), .inl (0, 4294967295), .inl (2147483648, 2147483649)], [], [], [.inl (some (.inl (2147483647, 2147483647)), []), .inl (some (.inl (2147483648, 2147483671)), [])], 3)
theorem hct_lineOf : z_ctH zTb ct_lineOf := hz_lineOf
def ct_cornerOf : zCt := (196, [.inr (.inr (36, 0)), .inl (2147483648, 2147483651), .inl (2147483648, 2147483651)], [], [], [.inl (some (.inl (2147483648, 2147483663)), [])], 2)
theorem hct_cornerOf : z_ctH zTb ct_cornerOf := z_ct_ok [] z_hds_ok [ct_columns, ct_rowsOf] [] 1 1 (List.forall_mem_cons.mpr ⟨hct_columns, List.forall_mem_cons.mpr ⟨hct_rowsOf, fun _ h => absurd h List.not_mem_nil⟩⟩) (by decide +kernel)
def ct_cornerOf9 : zCt := (196, [.inr (.inr (36, 0)), .inl (0, 4294967295), .inl (0, 4294967295)], [], [], [.inl (some (.inl (0, 4294967295)), [])], 2)
theorem hct_cornerOf9 : z_ctH zTb ct_cornerOf9 := z_ct_ok [] z_hds_ok [ct_columns, ct_rowsOf] [] 1 1 (List.forall_mem_cons.mpr ⟨hct_columns, List.forall_mem_cons.mpr ⟨hct_rowsOf, fun _ h => absurd h List.not_mem_nil⟩⟩) (by decide +kernel)
def ct_endOf : zCt := (197, [.inr (.inr (36, 0)), .inl (2147483648, 2147483671), .inl (2147483648, 2147483649)], [], [], [.inl (some (.inl (2147483648, 2147483663)), [])], 3)
theorem hct_endOf : z_ctH zTb ct_endOf := hz_endOf
def ct_held : zCt := (198, [.inr (.inr (36, 0)), .inl (0, 4294967295), .inl (0, 4294967295), .inl (2147483648, 2147483649)], [], [], [.inl (some (.inl (2147483648, 2147483655)), [])], 4)
theorem hct_held : z_ctH zTb ct_held := z_ct_ok [] z_hds_ok [ct_lineOf] [] 3 1 (List.forall_mem_cons.mpr ⟨hct_lineOf, fun _ h => absurd h List.not_mem_nil⟩) (by decide +kernel)
def ct_roundOf : zCt := (199, [.inr (.inr (36, 0)), .inl (2147483648, 2147483650), .inl (2147483648, 2147483650)], [], [], [.inl (some (.inl (2147483648, 2147483655)), [])], 5)
theorem hct_roundOf : z_ctH zTb ct_roundOf := z_ct_ok [] z_hds_ok [ct_times3, ct_times0, ct_against3, ct_against0, ct_held] [(false, 606209, [(2147483648, 2147483650), (2147483651, 2147483651)])] 4 1 (List.forall_mem_cons.mpr ⟨hct_times3, List.forall_mem_cons.mpr ⟨hct_times0, List.forall_mem_cons.mpr ⟨hct_against3, List.forall_mem_cons.mpr ⟨hct_against0, List.forall_mem_cons.mpr ⟨hct_held, fun _ h => absurd h List.not_mem_nil⟩⟩⟩⟩⟩) (by decide +kernel)
def ct_worthNow : zCt := (227, [.inr (.inr (36, 0))], [], [], [.inl (some (.inr (.inl none)), [])], 6)
theorem hct_worthNow : z_ctH zTb ct_worthNow := z_ct_ok [] z_hds_ok [ct_isHole, ct_roundOf] [(false, 606209, [(2147483648, 2147483650), (2147483651, 2147483651)])] 5 1 (List.forall_mem_cons.mpr ⟨hct_isHole, List.forall_mem_cons.mpr ⟨hct_roundOf, fun _ h => absurd h List.not_mem_nil⟩⟩) (by decide +kernel)
def ct_turnedNow : zCt := (229, [.inr (.inr (36, 0))], [], [], [.inl (some (.inl (2147483648, 2147483657)), [])], 6)
theorem hct_turnedNow : z_ctH zTb ct_turnedNow := z_ct_ok [] z_hds_ok [ct_isHole, ct_roundOf] [(false, 606209, [(2147483648, 2147483650), (2147483651, 2147483651)])] 5 1 (List.forall_mem_cons.mpr ⟨hct_isHole, List.forall_mem_cons.mpr ⟨hct_roundOf, fun _ h => absurd h List.not_mem_nil⟩⟩) (by decide +kernel)
def ct_weightOf : zCt := (233, [.inr (.inr (36, 0)), .inl (2147483648, 2147483650), .inl (2147483648, 2147483650), .inl (2147483648, 2147483655)], [], [], [.inl (some (.inl (2147483648, 2147483657)), [])], 2)
theorem hct_weightOf : z_ctH zTb ct_weightOf := z_ct_ok [] z_hds_ok [ct_isHole] [] 1 1 (List.forall_mem_cons.mpr ⟨hct_isHole, fun _ h => absurd h List.not_mem_nil⟩) (by decide +kernel)
def ct_folds0 : zCt := (234, [.inr (.inr (36, 0))], [], [(43, 0, 79), (44, 0, 79)], [.inl (none, [])], 1)
theorem hct_folds0 : z_ctH zTb ct_folds0 := z_ct_ok [] z_hds_ok [] [] 0 1 (fun _ h => absurd h List.not_mem_nil) (by decide +kernel)
def ct_foldsSquare : zCt := (235, [.inr (.inr (36, 0)), .inl (2147483648, 2147483650), .inl (2147483648, 2147483650), .inl (2147483648, 2147483649)], [], [(43, 0, 79), (44, 0, 79)], [.inl (none, [])], 4)
theorem i_ln0 {M : aM} (hT : z_MT (zTb, [], []) M) {j : Nat} (h1 : 18 ≤ j) (h2 : j ≤ 43) : z_i (2147483648, 2147483655) (M.1 37 0 j) := hT (37, 18, 43, (2147483648, 2147483655)) (by decide +kernel) 0 j (by decide) h1 h2
theorem i_kd0 {M : aM} (hT : z_MT (zTb, [], []) M) : z_b (M.1 37 0 1) = 2147483651 ∨ z_i (2147483648, 2147483650) (M.1 37 0 1) := by
  have h := h_TR (T := zTb) (k := 37) (i := 0) (j := 1) hT
  have h1 : 2147483648 ≤ z_b (M.1 37 0 1) := h.1
  have h2 : z_b (M.1 37 0 1) ≤ 2147483651 := h.2
  by_cases e : z_b (M.1 37 0 1) = 2147483651
  · exact Or.inl e
  · exact Or.inr ⟨h1, by show _ ≤ 2147483650; omega⟩
theorem h_G10 {M : aM} {k j : Nat} {v : zI} {n : Nat} (h1 : j < 4096) (h2 : z_ky k 0 j = n) (h : z_i v (M.1 k 0 j)) : z_MG [(n, v)] M := by
  refine List.forall_mem_cons.mpr ⟨fun k' i' j' q1 q2 q3 => ?_, h_MG0⟩
  obtain ⟨f1, f2, f3⟩ := z_ky_lt (k' := k) (i' := 0) (j' := j) q1 q2 (by decide) h1 (q3.trans h2.symm)
  subst f1
  subst f2
  subst f3
  exact h
theorem h_e0 {n : Nat} {x : Int32} (h : z_b x = n) : z_i (n, n) x := ⟨Nat.le_of_eq h.symm, Nat.le_of_eq h⟩
theorem h_pC0 {c : zCt} (hc : z_ctH zTb c) {u : zI} (h2 : c.2.2.2.1 = []) (h3 : c.2.2.2.2.1 = [.inl (some (.inl u), [])]) {nS d : Nat} {as : List aV} {M : aM} (hd : c.2.2.2.2.2 ≤ d) (hS : z_S c.2.1 as) (hT : z_MT (zTb, [], []) M) (hG : z_MG c.2.2.1 M) : aC nS d c.1 as M (fun v M' => (∃ x, v = some (vI x) ∧ z_i u x) ∧ M = M') (fun _ _ => False) := by
  refine aC_post (hc nS d as M hd hS hT hG) (fun v M' hv => ?_) (fun x M' hx => ?_)
  · rw [h3] at hv
    obtain ⟨v', g', h4, h5, h6⟩ := hv
    have h4 := List.mem_singleton.mp h4
    cases h4
    obtain ⟨x, hx, hx2⟩ := h_ovI h5
    have h7 := h6.2.1
    dsimp only at h7
    rw [h2] at h7
    exact ⟨⟨x, hx, hx2⟩, (h_MW h7).symm⟩
  · rw [h3] at hx
    obtain ⟨g', h4, h6⟩ := hx
    have h4 := List.mem_singleton.mp h4
    cases h4
theorem q_tb {nS d : Nat} {M : aM} {a b : Int32} (hd : 1 ≤ d) (hT : z_MT (zTb, [], []) M) (ha : z_i (2147483648, 2147483655) a) (hb : z_i (2147483648, 2147483655) b) : aC nS d 180 [vR 36 0, vI a, vI b] M (fun v M' => (∃ x, v = some (vI x) ∧ z_i (2147483648, 2147483655) x) ∧ M = M') (fun _ _ => False) := by
  rcases i_kd0 hT with h | h
  · exact h_pC0 hct_times3 rfl rfl (Nat.le_trans (by decide) hd) (h_R (h_Iv ha (h_Iv hb trivial))) hT (h_G10 (k := 37) (j := 1) (by decide) rfl (h_e0 h))
  · exact h_pC0 hct_times0 rfl rfl (Nat.le_trans (by decide) hd) (h_R (h_Iv (z_iI_ok (by decide) ha) (h_Iv (z_iI_ok (by decide) hb) trivial))) hT (h_G10 (k := 37) (j := 1) (by decide) rfl h)
theorem q_ab {nS d : Nat} {M : aM} {a : Int32} (hd : 2 ≤ d) (hT : z_MT (zTb, [], []) M) (ha : z_i (2147483648, 2147483655) a) : aC nS d 181 [vR 36 0, vI a] M (fun v M' => (∃ x, v = some (vI x) ∧ ∀ c : Int32, z_i (2147483648, 2147483655) c → aC nS d 180 [vR 36 0, vI c, vI x] M (fun v M' => (∃ x, v = some (vI x) ∧ z_i (2147483648, 2147483655) x) ∧ M = M') (fun _ _ => False)) ∧ M = M') (fun _ _ => False) := by
  rcases i_kd0 hT with h | h
  · exact aC_post (h_pC0 hct_against3 rfl rfl (Nat.le_trans (by decide) hd) (h_R (h_Iv ha trivial)) hT (h_G10 (k := 37) (j := 1) (by decide) rfl (h_e0 h))) (fun v M' z => ⟨by obtain ⟨⟨x, e, h9⟩, -⟩ := z; exact ⟨x, e, fun c hc => q_tb (Nat.le_trans (by decide) hd) hT hc h9⟩, z.2⟩) (fun _ _ z => z)
  · exact aC_post (h_pC0 hct_against0 rfl rfl (Nat.le_trans (by decide) hd) (h_R (h_Iv (z_iI_ok (by decide) ha) trivial)) hT (h_G10 (k := 37) (j := 1) (by decide) rfl h)) (fun v M' z => ⟨by obtain ⟨⟨x, e, h9⟩, -⟩ := z; exact ⟨x, e, fun c hc => h_pC0 hct_times0 rfl rfl (Nat.le_trans (by decide) hd) (h_R (h_Iv (z_iI_ok (by decide) hc) (h_Iv (z_iI_ok (by decide) h9) trivial))) hT (h_G10 (k := 37) (j := 1) (by decide) rfl h)⟩, z.2⟩) (fun _ _ z => z)
theorem x_t0f : (10 : Int32) - 0 = Int32.ofNat 10 := by decide
theorem x_t1f : (10 : Int32) - 1 = Int32.ofNat 9 := by decide
theorem hz_foldsSquare : z_ctH zTb (235, [.inr (.inr (36, 0)), .inl (2147483648, 2147483650), .inl (2147483648, 2147483650), .inl (2147483648, 2147483649)], [], [(43, 0, 79), (44, 0, 79)], [.inl (none, [])], 4) := by
  intro nS d as M hd hS hT hg
  obtain ⟨x, y, c, rfl, hx, hy, hc⟩ := h_S4 (by decide) hS
  obtain ⟨o, o8, eo⟩ := x_rng (m := 8) (by decide) (z_iI_ok (v := (2147483648, 8 + 2147483648)) (by decide) (h_TR (T := zTb) (k := 37) (i := 0) (j := 2) hT))
  obtain ⟨d, rfl⟩ := h_rk (r := 4) hd
  refine aC_mk rfl rfl ?_
  intro K hK _
  have put : ∀ {M1 : aM} {k j : Nat} {v : Int64}, z_M (zTb, [(43, 0, 79), (44, 0, 79)], []) M [] M1 → (k = 43 ∨ k = 44) → j < 80 → z_M (zTb, [(43, 0, 79), (44, 0, 79)], []) M [] (a_pL M1 k 0 j v) := by
    intro M1 k j v h hk hj
    rcases hk with rfl | rfl
    · exact z_M_pL (a := 0) (b := 79) (j := j) h (by decide) (by omega) (by omega)
    · exact z_M_pL (a := 0) (b := 79) (j := j) h (by decide) (by omega) (by omega)
  have od : ∀ {M1 : aM}, z_M (zTb, [(43, 0, 79), (44, 0, 79)], []) M [] M1 → M1.1 37 0 2 = Int32.ofNat o := fun h => (h.2.1 37 0 2 rfl).1.trans eo
  have lt : ∀ {a b : Nat}, a < 1000 → b < 1000 → ¬ Int32.ofNat b ≤ Int32.ofNat a → a < b := fun ha hb h => x_nge rfl rfl (by omega) (by omega) h
  have ge : ∀ {a b : Nat}, a < 1000 → b < 1000 → Int32.ofNat b ≤ Int32.ofNat a → b ≤ a := fun ha hb h => x_ge rfl rfl (by omega) (by omega) h
  -- the row is taken over
  have l4 : ∀ (m j : Nat) (l5 l6 l7 l8 : Option aV) (M1 : aM), j + m = 80 → z_M (zTb, [(43, 0, 79), (44, 0, 79)], []) M [] M1 → K 187 [some (vR 36 0), some (vI x), some (vI y), some (vI c), some (vI (Int32.ofNat j)), l5, l6, l7, l8] [] M1 := by
    intro m
    induction m with
    | zero =>
      intro j l5 l6 l7 l8 M1 hj hM
      refine hK _ _ _ _ (hK _ _ _ _ (hK _ _ _ _ (⟨fun q => ?_, fun q => ?_⟩)))
      · exact hK _ _ _ _ (⟨none, [], List.mem_cons_self, trivial, hM⟩)
      · exact absurd (lt (b := 80) (by omega) (by decide) q) (by omega)
    | succ m ih =>
      intro j l5 l6 l7 l8 M1 hj hM
      refine hK _ _ _ _ (hK _ _ _ _ (hK _ _ _ _ (⟨fun q => ?_, fun q => ?_⟩)))
      · exact absurd (ge (b := 80) (by omega) (by decide) q) (by omega)
      · refine hK _ _ _ _ (hK _ _ _ _ (hK _ _ _ _ (hK _ _ _ _ (hK _ _ _ _ (hK _ _ _ _ (?_))))))
        refine hK _ _ _ _ ⟨x_vp rfl (show j < 80 by omega) (by decide), ?_⟩
        refine hK _ _ _ _ ⟨x_vp rfl (show j < 80 by omega) (by decide), ?_⟩
        rw [x_cl rfl (by omega)]
        refine hK _ _ _ _ (hK _ _ _ _ (?_))
        rw [hI_s]
        exact ih (j + 1) _ _ _ _ _ (by omega) (put hM (Or.inl rfl) (by omega))
  -- turn by turn
  have la : ∀ (m a : Nat) (l5 l6 l7 l8 : Option aV) (M1 : aM), a + m = o → z_M (zTb, [(43, 0, 79), (44, 0, 79)], []) M [] M1 → K 27 [some (vR 36 0), some (vI x), some (vI y), some (vI c), some (vI (Int32.ofNat a)), l5, l6, l7, l8] [] M1 := by
    intro m
    induction m with
    | zero =>
      intro a l5 l6 l7 l8 M1 ha hM
      refine hK _ _ _ _ (hK _ _ _ _ (hK _ _ _ _ (hK _ _ _ _ (hK _ _ _ _ (⟨x_vp (a := 2) rfl (by decide) (by decide), ?_⟩)))))
      rw [x_cl (j := 2) (a := 2) rfl (by decide), od hM]
      refine hK _ _ _ _ (⟨fun q => ?_, fun q => ?_⟩)
      · refine hK _ _ _ _ (hK _ _ _ _ (?_))
        exact l4 80 0 _ _ _ _ _ rfl hM
      · exact absurd (lt (by omega) (by omega) q) (by omega)
    | succ m iha =>
      intro a l5 l6 l7 l8 M1 ha hM
      refine hK _ _ _ _ (hK _ _ _ _ (hK _ _ _ _ (hK _ _ _ _ (hK _ _ _ _ (⟨x_vp (a := 2) rfl (by decide) (by decide), ?_⟩)))))
      rw [x_cl (j := 2) (a := 2) rfl (by decide), od hM]
      refine hK _ _ _ _ (⟨fun q => ?_, fun q => ?_⟩)
      · exact absurd (ge (by omega) (by omega) q) (by omega)
      clear q
      have lt2 : ∀ (m t : Nat) (l6 l7 l8 : Option aV) (M1 : aM), t + m = o → z_M (zTb, [(43, 0, 79), (44, 0, 79)], []) M [] M1 → K 41 [some (vR 36 0), some (vI x), some (vI y), some (vI c), some (vI (Int32.ofNat a)), some (vI (Int32.ofNat t)), l6, l7, l8] [] M1 := by
        intro m
        induction m with
        | zero =>
          intro t l6 l7 l8 M1 ht hM
          refine hK _ _ _ _ (hK _ _ _ _ (hK _ _ _ _ (hK _ _ _ _ (hK _ _ _ _ (⟨x_vp (a := 2) rfl (by decide) (by decide), ?_⟩)))))
          rw [x_cl (j := 2) (a := 2) rfl (by decide), od hM]
          refine hK _ _ _ _ (⟨fun q => ?_, fun q => ?_⟩)
          · refine hK _ _ _ _ (hK _ _ _ _ (?_))
            rw [hI_s]
            exact iha (a + 1) _ _ _ _ _ (by omega) hM
          · exact absurd (lt (by omega) (by omega) q) (by omega)
        | succ m iht =>
          intro t l6 l7 l8 M1 ht hM
          refine hK _ _ _ _ (hK _ _ _ _ (hK _ _ _ _ (hK _ _ _ _ (hK _ _ _ _ (⟨x_vp (a := 2) rfl (by decide) (by decide), ?_⟩)))))
          rw [x_cl (j := 2) (a := 2) rfl (by decide), od hM]
          refine hK _ _ _ _ (⟨fun q => ?_, fun q => ?_⟩)
          · exact absurd (ge (by omega) (by omega) q) (by omega)
          clear q
          have ia : z_i (2147483648, 7 + 2147483648) (Int32.ofNat a) := x_rng' (m := 7) (by decide) (show a ≤ 7 by omega) rfl
          have it : z_i (2147483648, 7 + 2147483648) (Int32.ofNat t) := x_rng' (m := 7) (by decide) (show t ≤ 7 by omega) rfl
          refine hK _ _ _ _ (hK _ _ _ _ (hK _ _ _ _ (hK _ _ _ _ (hK _ _ _ _ (⟨_, q_tb (by omega) hM.1 ia it, rfl, fun v59 M59 g59 => ?_⟩)))))
          obtain ⟨⟨u0, rfl, hu⟩, rfl⟩ := g59
          obtain ⟨u, hu, rfl⟩ := x_rng (m := 7) (by decide) hu
          -- place by place
          have lk : ∀ (w : Nat) (wv : Int32), w ≤ 1 → wv = Int32.ofNat w → ∀ (m k : Nat) (M1 : aM), k + m = 10 - w → z_M (zTb, [(43, 0, 79), (44, 0, 79)], []) M [] M1 → K 93 [some (vR 36 0), some (vI x), some (vI y), some (vI c), some (vI (Int32.ofNat a)), some (vI (Int32.ofNat t)), some (vI (Int32.ofNat (10 * u))), some (vI wv), some (vI (Int32.ofNat k))] [] M1 := by
            intro w wv hw hwv m
            subst hwv
            have b10 : ∀ (k : Nat) (M1 : aM), (10 - w ≤ k → K 172 [some (vR 36 0), some (vI x), some (vI y), some (vI c), some (vI (Int32.ofNat a)), some (vI (Int32.ofNat t)), some (vI (Int32.ofNat (10 * u))), some (vI (Int32.ofNat w)), some (vI (Int32.ofNat k))] [] M1) → (k < 10 - w → K 111 [some (vR 36 0), some (vI x), some (vI y), some (vI c), some (vI (Int32.ofNat a)), some (vI (Int32.ofNat t)), some (vI (Int32.ofNat (10 * u))), some (vI (Int32.ofNat w)), some (vI (Int32.ofNat k))] [] M1) → k ≤ 10 → K 93 [some (vR 36 0), some (vI x), some (vI y), some (vI c), some (vI (Int32.ofNat a)), some (vI (Int32.ofNat t)), some (vI (Int32.ofNat (10 * u))), some (vI (Int32.ofNat w)), some (vI (Int32.ofNat k))] [] M1 := by
              intro k M1 h1 h2 hk
              rcases (show w = 0 ∨ w = 1 by omega) with rfl | rfl
              · refine hK _ _ _ _ (hK _ _ _ _ (hK _ _ _ _ (hK _ _ _ _ (⟨fun z => ?_, fun z => ?_⟩))))
                · refine hK _ _ _ _ (hK _ _ _ _ (hK _ _ _ _ (⟨fun q => ?_, fun q => ?_⟩)))
                  · exact h1 (ge (a := k) (b := 10) (by omega) (by decide) (x_t0f ▸ q))
                  · exact h2 (lt (a := k) (b := 10) (by omega) (by decide) (x_t0f ▸ q))
                · exact absurd rfl z
              · refine hK _ _ _ _ (hK _ _ _ _ (hK _ _ _ _ (hK _ _ _ _ (⟨fun z => ?_, fun z => ?_⟩))))
                · exact absurd z (by decide)
                · refine hK _ _ _ _ (hK _ _ _ _ (hK _ _ _ _ (hK _ _ _ _ (⟨fun q => ?_, fun q => ?_⟩))))
                  · exact h1 (ge (a := k) (b := 9) (by omega) (by decide) (x_t1f ▸ q))
                  · exact h2 (lt (a := k) (b := 9) (by omega) (by decide) (x_t1f ▸ q))
            induction m with
            | zero =>
              intro k M1 hk hM
              refine b10 k M1 (fun _ => ?_) (fun h => absurd h (by omega)) (by omega)
              refine hK _ _ _ _ (hK _ _ _ _ (?_))
              rw [hI_s]
              exact iht (t + 1) _ _ _ _ (by omega) hM
            | succ m ihk =>
              intro k M1 hk hM
              refine b10 k M1 (fun h => absurd h (by omega)) (fun _ => ?_) (by omega)
              -- what is added
              have ad : ∀ (s1 : Int64) (v : Int32) , K 162 [some (vR 36 0), some (vI x), some (vI y), some (vI c), some (vI (Int32.ofNat a)), some (vI (Int32.ofNat t)), some (vI (Int32.ofNat (10 * u))), some (vI (Int32.ofNat w)), some (vI (Int32.ofNat k))] [vI v, vL (M1.2 43 0 (a * 10 + k)), vL s1, vI (Int32.ofNat (u * 10 + k + w)), vR 44 0] M1 := by
                intro s1 v
                refine hK _ _ _ _ (hK _ _ _ _ (hK _ _ _ _ (hK _ _ _ _ (⟨x_vp rfl (show u * 10 + k + w < 80 by omega) (by decide), ?_⟩))))
                rw [x_cl rfl (by omega)]
                refine hK _ _ _ _ (hK _ _ _ _ (?_))
                rw [hI_s]
                exact ihk (k + 1) _ (by omega) (put hM (Or.inr rfl) (by omega))
              have nx : K 130 [some (vR 36 0), some (vI x), some (vI y), some (vI c), some (vI (Int32.ofNat a)), some (vI (Int32.ofNat t)), some (vI (Int32.ofNat (10 * u))), some (vI (Int32.ofNat w)), some (vI (Int32.ofNat k))] [vI (Int32.ofNat w), vI (Int32.ofNat (10 * u) + Int32.ofNat k), vR 44 0] M1 := by
                have e1 : Int32.ofNat (10 * u) + Int32.ofNat k + Int32.ofNat w = Int32.ofNat (u * 10 + k + w) := by
                  rw [hI_ad, hI_ad, Nat.mul_comm]
                have e2 : (10 : Int32) * Int32.ofNat a + Int32.ofNat k = Int32.ofNat (a * 10 + k) := by
                  rw [show (10 : Int32) * Int32.ofNat a = Int32.ofNat (10 * a) from x_mul (a := 10) (by decide) (by omega), hI_ad, Nat.mul_comm]
                refine hK _ _ _ _ (hK _ _ _ _ (hK _ _ _ _ (⟨x_vp e1 (show u * 10 + k + w < 80 by omega) (by decide), ?_⟩)))
                rw [x_cl e1 (by omega)]
                refine hK _ _ _ _ (hK _ _ _ _ (hK _ _ _ _ (hK _ _ _ _ (hK _ _ _ _ (hK _ _ _ _ (hK _ _ _ _ (hK _ _ _ _ (⟨x_vp e2 (show a * 10 + k < 80 by omega) (by decide), ?_⟩))))))))
                rw [x_cl e2 (by omega), e1]
                refine hK _ _ _ _ (hK _ _ _ _ (⟨fun _ => ?_, fun _ => ?_⟩))
                · refine hK _ _ _ _ (hK _ _ _ _ (hK _ _ _ _ (hK _ _ _ _ (hK _ _ _ _ (⟨_, h_pI hct_weightOf rfl rfl rfl (show 2 ≤ d + 3 by omega) (h_R (h_Iv hx (h_Iv hy (h_Iv it trivial)))) hM.1, rfl, fun v159 M159 g159 => ?_⟩)))))
                  obtain ⟨⟨wt, rfl, -⟩, rfl⟩ := g159
                  exact ad _ _
                · refine hK _ _ _ _ (hK _ _ _ _ (?_))
                  exact ad _ _
              refine hK _ _ _ _ (hK _ _ _ _ (hK _ _ _ _ (hK _ _ _ _ (hK _ _ _ _ (hK _ _ _ _ (hK _ _ _ _ (⟨fun z => ?_, fun z => ?_⟩)))))))
              · refine hK _ _ _ _ (?_)
                rw [show w = 0 from x_eq (x := w) (y := 0) rfl rfl (by omega) (by decide) z] at nx ⊢
                exact nx
              · refine hK _ _ _ _ (hK _ _ _ _ (?_))
                have hw1 : w = 1 := by
                  have : ¬ w = 0 := fun e => z (by rw [e]; rfl)
                  omega
                rw [hw1] at nx ⊢
                exact nx
          have mul : (10 : Int32) * Int32.ofNat u = Int32.ofNat (10 * u) := x_mul (a := 10) (by decide) (by omega)
          have one : ∀ (w : Nat) (wv : Int32), w ≤ 1 → wv = Int32.ofNat w → K 88 [some (vR 36 0), some (vI x), some (vI y), some (vI c), some (vI (Int32.ofNat a)), some (vI (Int32.ofNat t)), some (vI (Int32.ofNat (10 * u))), l7, l8] [vI wv] M1 := by
            intro w wv hw hwv
            refine hK _ _ _ _ (hK _ _ _ _ (hK _ _ _ _ (?_)))
            exact lk w wv hw hwv (10 - w) 0 M1 (by omega) hM
          refine hK _ _ _ _ (hK _ _ _ _ (?_))
          rw [mul]
          refine hK _ _ _ _ (hK _ _ _ _ (⟨fun _ => ?_, fun _ => ?_⟩))
          · refine hK _ _ _ _ (?_)
            exact one 0 0 (by decide) rfl
          · refine hK _ _ _ _ (hK _ _ _ _ (⟨fun _ => ?_, fun _ => ?_⟩))
            · refine hK _ _ _ _ (?_)
              exact one 0 0 (by decide) rfl
            · refine hK _ _ _ _ (hK _ _ _ _ (hK _ _ _ _ (hK _ _ _ _ (⟨_, h_pI hct_isHole rfl rfl rfl (show 1 ≤ d + 3 by omega) (h_R (h_I (h_I trivial))) hM.1, rfl, fun v77 M77 g77 => ?_⟩))))
              obtain ⟨⟨hh, rfl, -⟩, rfl⟩ := g77
              refine hK _ _ _ _ (⟨fun _ => ?_, fun _ => ?_⟩)
              · refine hK _ _ _ _ (?_)
                exact one 0 0 (by decide) rfl
              · refine hK _ _ _ _ (hK _ _ _ _ (?_))
                exact one 1 1 (by decide) rfl
      refine hK _ _ _ _ (hK _ _ _ _ (?_))
      exact lt2 o 0 _ _ _ _ (by omega) hM
  -- the row is emptied
  have l0 : ∀ (m j : Nat) (M1 : aM), j + m = 80 → z_M (zTb, [(43, 0, 79), (44, 0, 79)], []) M [] M1 → K 3 [some (vR 36 0), some (vI x), some (vI y), some (vI c), some (vI (Int32.ofNat j)), none, none, none, none] [] M1 := by
    intro m
    induction m with
    | zero =>
      intro j M1 hj hM
      refine hK _ _ _ _ (hK _ _ _ _ (hK _ _ _ _ (⟨fun q => ?_, fun q => ?_⟩)))
      · refine hK _ _ _ _ (hK _ _ _ _ (?_))
        exact la o 0 _ _ _ _ _ (by omega) hM
      · exact absurd (lt (b := 80) (by omega) (by decide) q) (by omega)
    | succ m ih =>
      intro j M1 hj hM
      refine hK _ _ _ _ (hK _ _ _ _ (hK _ _ _ _ (⟨fun q => ?_, fun q => ?_⟩)))
      · exact absurd (ge (b := 80) (by omega) (by decide) q) (by omega)
      · refine hK _ _ _ _ (hK _ _ _ _ (hK _ _ _ _ (hK _ _ _ _ (?_))))
        refine hK _ _ _ _ ⟨x_vp rfl (show j < 80 by omega) (by decide), ?_⟩
        rw [x_cl rfl (by omega)]
        refine hK _ _ _ _ (hK _ _ _ _ (?_))
        rw [hI_s]
        exact ih (j + 1) _ (by omega) (put hM (Or.inr rfl) (by omega))
  refine hK _ _ _ _ (hK _ _ _ _ (?_))
  exact l0 80 0 M rfl (h_M0 hT)
theorem hct_foldsSquare : z_ctH zTb ct_foldsSquare := hz_foldsSquare
def ct_foldsAll : zCt := (236, [.inr (.inr (36, 0)), .inl (2147483648, 2147483649)], [], [(43, 0, 79), (44, 0, 79)], [.inl (none, [])], 5)
theorem hct_foldsAll : z_ctH zTb ct_foldsAll := z_ct_ok [] z_hds_ok [ct_folds0, ct_foldsSquare] [] 4 1 (List.forall_mem_cons.mpr ⟨hct_folds0, List.forall_mem_cons.mpr ⟨hct_foldsSquare, fun _ h => absurd h List.not_mem_nil⟩⟩) (by decide +kernel)
def ct_byShape : zCt := (237, [.inr (.inr (36, 0)), .inl (2147483648, 2147483657)], [], [], [.inl (some (.inr (.inl none)), [])], 4)
theorem hct_byShape : z_ctH zTb ct_byShape := z_ct_ok [] z_hds_ok [ct_commutators] [] 3 1 (List.forall_mem_cons.mpr ⟨hct_commutators, fun _ h => absurd h List.not_mem_nil⟩) (by decide +kernel)
def ct_foldsPart : zCt := (249, [.inr (.inr (36, 0)), .inl (2147483648, 2147483650)], [], [(43, 0, 79), (44, 0, 79)], [.inl (none, [])], 4)
theorem hct_foldsPart : z_ctH zTb ct_foldsPart := z_ct_ok [] z_hds_ok [ct_times3, ct_times0, ct_commutators, ct_roots] [(false, 606209, [(2147483648, 2147483650), (2147483651, 2147483651)])] 3 1 (List.forall_mem_cons.mpr ⟨hct_times3, List.forall_mem_cons.mpr ⟨hct_times0, List.forall_mem_cons.mpr ⟨hct_commutators, List.forall_mem_cons.mpr ⟨hct_roots, fun _ h => absurd h List.not_mem_nil⟩⟩⟩⟩) (by decide +kernel)
def ct_rests0 : zCt := (207, [.inr (.inr (36, 0))], [], [(37, 20, 43)], [.inl (none, [])], 1)
theorem hct_rests0 : z_ctH zTb ct_rests0 := z_ct_ok [] z_hds_ok [] [] 0 1 (fun _ h => absurd h List.not_mem_nil) (by decide +kernel)
def ct_isClosed : zCt := (225, [.inr (.inr (36, 0))], [], [], [.inl (some (.inl (2147483648, 2147483649)), [])], 3)
theorem hct_isClosed : z_ctH zTb ct_isClosed := z_ct_ok [] z_hds_ok [ct_cornerOf9] [] 2 1 (List.forall_mem_cons.mpr ⟨hct_cornerOf9, fun _ h => absurd h List.not_mem_nil⟩) (by decide +kernel)
def ct_isRing : zCt := (243, [.inr (.inr (36, 0))], [], [], [.inl (some (.inl (2147483648, 2147483649)), [])], 4)
set_option maxRecDepth 10000 in
theorem hct_isRing : z_ctH zTb ct_isRing := by
  intro nS d as M hd hS hT hG
  obtain ⟨e, rfl⟩ := h_rk hd
  have h1 := h_S1 (by decide) hS
  subst h1
  show aC nS (e + 3 + 1) 243 _ M _ _
  refine aC_mk rfl rfl ?_
  intro K hK hF
  have s1 : 2147483648 ≤ z_b (M.1 36 0 16) := (h_TR (T := zTb) (k := 36) (i := 0) (j := 16) hT).1
  have s2 : z_b (M.1 36 0 16) ≤ 2147483756 := (h_TR (T := zTb) (k := 36) (i := 0) (j := 16) hT).2
  obtain ⟨N, hN, hNe⟩ : ∃ N, N ≤ 108 ∧ M.1 36 0 16 = Int32.ofNat N := ⟨z_b (M.1 36 0 16) - 2147483648, by omega, z_b_inj (by rw [z_b_ofNat (by omega)]; omega)⟩
  have hNb : z_b (M.1 36 0 16) = N + 2147483648 := by rw [hNe, z_b_ofNat (by omega)]
  have vp : ∀ a : Nat, a < 109 → vp_in (Int32.ofNat a) 109 := fun a h => z_vp.mpr (by rw [z_b_ofNat (by omega)]; omega)
  have r0 : ∀ L : aL, K 64 L [] M := fun L => hK _ _ _ _ (hK _ _ _ _ ⟨Or.inl rfl, _, _, List.mem_singleton.mpr rfl, h_bo (Or.inl rfl), h_M0 hT⟩)
  have r15 : ∀ L : aL, K 15 L [] M := fun L => hK _ _ _ _ (hK _ _ _ _ ⟨Or.inl rfl, _, _, List.mem_singleton.mpr rfl, h_bo (Or.inl rfl), h_M0 hT⟩)
  have inn : ∀ (m j i : Nat), j + m = i → i < N → K 72 [some (vR 36 0), some (vI (Int32.ofNat i)), some (vI (Int32.ofNat i))] [] M → K 29 [some (vR 36 0), some (vI (Int32.ofNat i)), some (vI (Int32.ofNat j))] [] M := by
    intro m
    induction m with
    | zero =>
      intro j i hj hi hn
      have e9 : j = i := by omega
      rw [e9]
      refine hK _ _ _ _ (hK _ _ _ _ (?_))
      exact hK _ _ _ _ ⟨fun _ => hn, fun h => absurd (Int32.le_refl _) h⟩
    | succ m ih =>
      intro j i hj hi hn
      refine hK _ _ _ _ (hK _ _ _ _ (?_))
      refine hK _ _ _ _ ⟨fun h => ?_, fun h => ?_⟩
      · exfalso
        have := (hI_le (by omega) (by omega)).mp h
        omega
      have nx : K 66 [some (vR 36 0), some (vI (Int32.ofNat i)), some (vI (Int32.ofNat j))] [] M := by
        refine hK _ _ _ _ (hK _ _ _ _ ?_)
        rw [hI_s]
        exact ih (j + 1) i (by omega) hi hn
      refine hK _ _ _ _ (hK _ _ _ _ (hK _ _ _ _ (?_)))
      refine hK _ _ _ _ ⟨vp i (by omega), ?_⟩
      refine hK _ _ _ _ (hK _ _ _ _ (hK _ _ _ _ (?_)))
      refine hK _ _ _ _ ⟨vp j (by omega), ?_⟩
      refine hK _ _ _ _ ⟨fun _ => nx, fun _ => ?_⟩
      refine hK _ _ _ _ (hK _ _ _ _ (hK _ _ _ _ (?_)))
      refine hK _ _ _ _ ⟨vp i (by omega), ?_⟩
      refine hK _ _ _ _ (hK _ _ _ _ (hK _ _ _ _ (?_)))
      refine hK _ _ _ _ ⟨vp j (by omega), ?_⟩
      exact hK _ _ _ _ ⟨fun _ => nx, fun _ => r0 _⟩
  have out : ∀ (m i : Nat) (x2 : Option aV), i + m = N → K 19 [some (vR 36 0), some (vI (Int32.ofNat i)), x2] [] M := by
    intro m
    induction m with
    | zero =>
      intro i x2 hi
      have e9 : i = N := by omega
      refine hK _ _ _ _ (hK _ _ _ _ (hK _ _ _ _ (?_)))
      refine hK _ _ _ _ ⟨fun h => ?_, fun h => ?_⟩
      · exact hK _ _ _ _ (hK _ _ _ _ ⟨Or.inr rfl, _, _, List.mem_singleton.mpr rfl, h_bo (Or.inr rfl), h_M0 hT⟩)
      · exfalso
        apply h
        show M.1 36 0 16 ≤ Int32.ofNat i
        rw [hNe, e9]
        exact Int32.le_refl _
    | succ m ih =>
      intro i x2 hi
      refine hK _ _ _ _ (hK _ _ _ _ (hK _ _ _ _ (?_)))
      refine hK _ _ _ _ ⟨fun h => ?_, fun h => ?_⟩
      · exfalso
        have h3 : M.1 36 0 16 ≤ Int32.ofNat i := h
        have := z_b_le.mp h3
        rw [hNb, z_b_ofNat (by omega)] at this
        omega
      refine hK _ _ _ _ (hK _ _ _ _ (?_))
      refine inn i 0 i (by omega) (by omega) ?_
      refine hK _ _ _ _ (hK _ _ _ _ ?_)
      rw [hI_s]
      exact ih (i + 1) _ (by omega)
  refine hK _ _ _ _ (hK _ _ _ _ (hK _ _ _ _ (?_)))
  refine hK _ _ _ _ ⟨fun _ => r15 _, fun _ => ?_⟩
  refine hK _ _ _ _ ?_
  refine hK _ _ _ _ ⟨_, h_pI hct_isClosed rfl rfl rfl (show (3 : Nat) ≤ e + 3 by omega) (h_R trivial) hT, rfl, fun v M2 g => ?_⟩
  obtain ⟨⟨y, rfl, -⟩, rfl⟩ := g
  refine hK _ _ _ _ ⟨fun _ => ?_, fun _ => r15 _⟩
  refine hK _ _ _ _ (hK _ _ _ _ (?_))
  exact out N 0 none (by omega)
def ct_isWithin : zCt := (244, [.inr (.inr (36, 0)), .inl (0, 4294967295), .inl (0, 4294967295)], [], [], [.inl (some (.inl (2147483648, 2147483649)), [])], 1)
theorem hct_isWithin : z_ctH zTb ct_isWithin := z_ct_ok [] z_hds_ok [] [] 0 1 (fun _ h => absurd h List.not_mem_nil) (by decide +kernel)
def ct_isClockwise : zCt := (245, [.inr (.inr (36, 0))], [], [], [.inl (some (.inl (2147483648, 2147483649)), [])], 1)
theorem hct_isClockwise : z_ctH zTb ct_isClockwise := z_ct_ok [] z_hds_ok [] [] 0 1 (fun _ h => absurd h List.not_mem_nil) (by decide +kernel)
def ct_begins : zCt := (210, [.inr (.inr (36, 0))], [], [(36, 6, 9)], [.inl (none, [(589832, (2147483648, 2147483648)), (589830, (2147483648, 2147483648)), (589831, (2147483648, 2147484048)), (589833, (2147483647, 2147483647))])], 1)
theorem hct_begins : z_ctH zTb ct_begins := z_ct_ok [(36, 6, 9)] z_hds_ok [] [] 0 1 (fun _ h => absurd h List.not_mem_nil) (by decide +kernel)
def ct_skip : zCt := (202, [.inr (.inr (36, 0))], [], [(36, 8, 8)], [.inl (none, [(589832, (2147483648, 2147484048))])], 1)
theorem hct_skip : z_ctH zTb ct_skip := z_ct_ok [(36, 8, 8)] z_hds_ok [] [] 0 1 (fun _ h => absurd h List.not_mem_nil) (by decide +kernel)
def ct_isSign : zCt := (203, [.inr (.inr (36, 0)), .inl (0, 4294967295)], [], [(36, 8, 8)], [.inl (some (.inl (2147483648, 2147483648)), [(589832, (2147483648, 2147484048))]), .inl (some (.inl (2147483649, 2147483649)), [(589832, (2147483648, 2147484047))])], 2)
theorem hct_isSign : z_ctH zTb ct_isSign := z_ct_ok [(36, 8, 8)] z_hds_ok [ct_skip] [] 1 1 (List.forall_mem_cons.mpr ⟨hct_skip, fun _ h => absurd h List.not_mem_nil⟩) (by decide +kernel)
def ct_wrong1 : zCt := (205, [.inr (.inr (36, 0)), .inl (2147483648, 2147484048)], [(589833, (2147483647, 2147483647))], [(36, 9, 9)], [.inl (none, [(589833, (2147483648, 2147484048))])], 1)
theorem hct_wrong1 : z_ctH zTb ct_wrong1 := z_ct_ok [(36, 9, 9)] z_hds_ok [] [] 0 1 (fun _ h => absurd h List.not_mem_nil) (by decide +kernel)
def ct_wrong0 : zCt := (205, [.inr (.inr (36, 0)), .inl (2147483648, 2147484048)], [(589833, (2147483648, 2147484048))], [(36, 9, 9)], [.inl (none, [(589833, (2147483648, 2147484048))])], 1)
theorem hct_wrong0 : z_ctH zTb ct_wrong0 := z_ct_ok [(36, 9, 9)] z_hds_ok [] [] 0 1 (fun _ h => absurd h List.not_mem_nil) (by decide +kernel)
def ct_figures0 : zCt := (206, [.inr (.inr (36, 0)), .inl (0, 4294967295), .inl (0, 4294967295)], [(589833, (2147483648, 2147484048))], [(36, 8, 8), (36, 9, 9), (36, 10, 10)], [.inl (some (.inl (2147483648, 2147483648)), [(589833, (2147483648, 2147484048))])], 1)
theorem hct_figures0 : z_ctH zTb ct_figures0 := z_ct_ok [(36, 8, 8), (36, 9, 9), (36, 10, 10)] z_hds_ok [] [] 0 1 (fun _ h => absurd h List.not_mem_nil) (by decide +kernel)
def ct_figures_0_3 : zCt := (206, [.inr (.inr (36, 0)), .inl (2147483648, 2147483648), .inl (2147483651, 2147483651)], [(589833, (2147483647, 2147483647))], [(36, 8, 8), (36, 9, 9), (36, 10, 10)], [.inl (some (.inl (0, 4294967295)), [(589834, (2147483648, 2147484048)), (589832, (2147483648, 2147484048)), (589833, (2147483648, 2147484048))]), .inl (some (.inl (2147483648, 2147483651)), [(589834, (2147483648, 2147484048)), (589832, (2147483648, 2147484048)), (589833, (2147483647, 2147483647))])], 3)
theorem hct_figures_0_3 : z_ctH zTb ct_figures_0_3 := hz_figures
def ct_figures_2_8 : zCt := (206, [.inr (.inr (36, 0)), .inl (2147483650, 2147483650), .inl (2147483656, 2147483656)], [(589833, (2147483647, 2147483647))], [(36, 8, 8), (36, 9, 9), (36, 10, 10)], [.inl (some (.inl (0, 4294967295)), [(589834, (2147483648, 2147484048)), (589832, (2147483648, 2147484048)), (589833, (2147483648, 2147484048))]), .inl (some (.inl (2147483650, 2147483656)), [(589834, (2147483648, 2147484048)), (589832, (2147483648, 2147484048)), (589833, (2147483647, 2147483647))])], 3)
theorem hct_figures_2_8 : z_ctH zTb ct_figures_2_8 := hz_figures
def ct_figures_1_3 : zCt := (206, [.inr (.inr (36, 0)), .inl (2147483649, 2147483649), .inl (2147483651, 2147483651)], [(589833, (2147483647, 2147483647))], [(36, 8, 8), (36, 9, 9), (36, 10, 10)], [.inl (some (.inl (0, 4294967295)), [(589834, (2147483648, 2147484048)), (589832, (2147483648, 2147484048)), (589833, (2147483648, 2147484048))]), .inl (some (.inl (2147483649, 2147483651)), [(589834, (2147483648, 2147484048)), (589832, (2147483648, 2147484048)), (589833, (2147483647, 2147483647))])], 3)
theorem hct_figures_1_3 : z_ctH zTb ct_figures_1_3 := hz_figures
def ct_figures_0_2 : zCt := (206, [.inr (.inr (36, 0)), .inl (2147483648, 2147483648), .inl (2147483650, 2147483650)], [(589833, (2147483647, 2147483647))], [(36, 8, 8), (36, 9, 9), (36, 10, 10)], [.inl (some (.inl (0, 4294967295)), [(589834, (2147483648, 2147484048)), (589832, (2147483648, 2147484048)), (589833, (2147483648, 2147484048))]), .inl (some (.inl (2147483648, 2147483650)), [(589834, (2147483648, 2147484048)), (589832, (2147483648, 2147484048)), (589833, (2147483647, 2147483647))])], 3)
theorem hct_figures_0_2 : z_ctH zTb ct_figures_0_2 := hz_figures
def ct_figures_0_9 : zCt := (206, [.inr (.inr (36, 0)), .inl (2147483648, 2147483648), .inl (2147483657, 2147483657)], [(589833, (2147483647, 2147483647))], [(36, 8, 8), (36, 9, 9), (36, 10, 10)], [.inl (some (.inl (0, 4294967295)), [(589834, (2147483648, 2147484048)), (589832, (2147483648, 2147484048)), (589833, (2147483648, 2147484048))]), .inl (some (.inl (2147483648, 2147483657)), [(589834, (2147483648, 2147484048)), (589832, (2147483648, 2147484048)), (589833, (2147483647, 2147483647))])], 3)
theorem hct_figures_0_9 : z_ctH zTb ct_figures_0_9 := hz_figures
def ct_figures_1_9 : zCt := (206, [.inr (.inr (36, 0)), .inl (2147483649, 2147483649), .inl (2147483657, 2147483657)], [(589833, (2147483647, 2147483647))], [(36, 8, 8), (36, 9, 9), (36, 10, 10)], [.inl (some (.inl (0, 4294967295)), [(589834, (2147483648, 2147484048)), (589832, (2147483648, 2147484048)), (589833, (2147483648, 2147484048))]), .inl (some (.inl (2147483649, 2147483657)), [(589834, (2147483648, 2147484048)), (589832, (2147483648, 2147484048)), (589833, (2147483647, 2147483647))])], 3)
theorem hct_figures_1_9 : z_ctH zTb ct_figures_1_9 := hz_figures
def ct_isInx : zCt := (178, [.inl (0, 4294967295), .inl (0, 4294967295), .inl (0, 4294967295)], [], [], [.inl (some (.inl (2147483648, 2147483649)), [])], 1)
theorem hct_isInx : z_ctH zTb ct_isInx := z_ct_ok [] z_hds_ok [] [] 0 1 (fun _ h => absurd h List.not_mem_nil) (by decide +kernel)
def ct_has_112 : zCt := (204, [.inr (.inr (36, 0)), .inr (.inr (112, 0))], [], [(36, 8, 8)], [.inl (some (.inl (2147483648, 2147483648)), [(589832, (2147483648, 2147484048))]), .inl (some (.inl (2147483649, 2147483649)), [(589832, (2147483648, 2147484048))])], 8)
set_option maxRecDepth 10000 in
theorem h_has {nS e : Nat} {M : aM} {ks : Nat} {bs : List Nat} (hk : a_stx ks = some bs) (hl : bs.length < 1000) (hT : z_MT (zTb, [], []) M) : aC nS (e + 7 + 1) 204 [vR 36 0, vR ks 0] M (z_po (zTb, [(36, 8, 8)], []) M [.inl (some (.inl (2147483648, 2147483648)), [(589832, (2147483648, 2147484048))]), .inl (some (.inl (2147483649, 2147483649)), [(589832, (2147483648, 2147484048))])]) (z_px (zTb, [(36, 8, 8)], []) M [.inl (some (.inl (2147483648, 2147483648)), [(589832, (2147483648, 2147484048))]), .inl (some (.inl (2147483649, 2147483649)), [(589832, (2147483648, 2147484048))])]) := by
  refine aC_mk rfl rfl ?_
  intro K hK hF
  refine hK _ _ _ _ ?_
  refine hK _ _ _ _ ⟨_, h_pW hct_skip rfl rfl (show (1 : Nat) ≤ e + 7 by omega) (h_R trivial) hT, rfl, fun v M1 g => ?_⟩
  obtain ⟨g1, hM⟩ := g
  have g1 := h_ovN g1
  subst g1
  have ha : z_i (2147483648, 2147484048) (M1.1 36 0 8) := h_TR (T := zTb) (k := 36) (i := 0) (j := 8) hM.1
  have he : z_i (2147483648, 2147484048) (M1.1 36 0 7) := h_TR (T := zTb) (k := 36) (i := 0) (j := 7) hM.1
  obtain ⟨ha1, ha2⟩ := ha
  obtain ⟨he1, he2⟩ := he
  dsimp only at ha1 ha2 he1 he2
  have out0 : z_po (zTb, [(36, 8, 8)], []) M [.inl (some (.inl (2147483648, 2147483648)), [(589832, (2147483648, 2147484048))]), .inl (some (.inl (2147483649, 2147483649)), [(589832, (2147483648, 2147484048))])] (some (vI 0)) M1 := ⟨_, _, List.mem_cons_self, ⟨Nat.le_of_eq z_b0.symm, Nat.le_of_eq z_b0⟩, hM.1, hM.2.1, fun e9 h9 k' i' j' q1 q2 q3 => by
    have h9 := List.mem_singleton.mp h9
    subst h9
    obtain ⟨f1, f2, f3⟩ := z_ky_lt (k' := 36) (i' := 0) (j' := 8) q1 q2 (by decide) (by decide) q3
    subst f1
    subst f2
    subst f3
    exact ⟨ha1, ha2⟩⟩
  have lp : ∀ (n : Nat) (x2 : Int32), 4294967296 - z_b x2 = n → 2147483648 ≤ z_b x2 → z_b x2 ≤ 2147484048 → K 9 [some (vR 36 0), some (vR ks 0), some (vI x2), none] [] M1 := by
    intro n
    induction n using Nat.strongRecOn with
    | ind n ih =>
    intro x2 hm hx1 hx2
    have tail : K 39 [some (vR 36 0), some (vR ks 0), some (vI x2), none] [] M1 := by
      refine hK _ _ _ _ (hK _ _ _ _ (hK _ _ _ _ (hK _ _ _ _ (hK _ _ _ _ (?_)))))
      refine hK _ _ _ _ (w_sln rfl hk ⟨b_6 (d := e) rfl, ?_⟩)
      refine hK _ _ _ _ ⟨fun h5 => ?_, fun h5 => hK _ _ _ _ (hK _ _ _ _ ⟨Or.inl rfl, out0⟩)⟩
      have h6 := z_b_eq.mp h5
      rw [z_b_sub, z_b_ofNat (by omega)] at h6
      have lp2 : ∀ m i : Nat, bs.length - i = m → i ≤ bs.length → K 56 [some (vR 36 0), some (vR ks 0), some (vI x2), some (vI (Int32.ofNat i))] [] M1 := by
        intro m
        induction m with
        | zero =>
          intro i hi hil
          have e1 : i = bs.length := by omega
          subst e1
          refine hK _ _ _ _ (hK _ _ _ _ (?_))
          refine hK _ _ _ _ (w_sln rfl hk ⟨b_6 (d := e) rfl, ?_⟩)
          refine hK _ _ _ _ ⟨fun h1 => ?_, fun h1 => absurd (Int32.le_refl _) h1⟩
          have hM3 : z_M (zTb, [(36, 8, 8)], []) M [] (a_pI M1 36 0 8 x2) := h_Mp hM (v := (2147483648, 2147484048)) (by decide) ⟨hx1, hx2⟩
          refine hK _ _ _ _ (hK _ _ _ _ (hK _ _ _ _ (hK _ _ _ _ (hK _ _ _ _ ⟨Or.inr rfl, _, _, List.mem_cons_of_mem _ (List.mem_singleton.mpr rfl), ⟨Nat.le_of_eq z_l1.symm, Nat.le_of_eq z_l1⟩, hM3.1, hM3.2.1, fun e9 h9 k' i' j' q1 q2 q3 => ?_⟩))))
          have h9 := List.mem_singleton.mp h9
          subst h9
          obtain ⟨f1, f2, f3⟩ := z_ky_lt (k' := 36) (i' := 0) (j' := 8) q1 q2 (by decide) (by decide) q3
          subst f1
          subst f2
          subst f3
          rw [h_pIs]
          exact ⟨hx1, hx2⟩
        | succ m ihm =>
          intro i hi hil
          refine hK _ _ _ _ (hK _ _ _ _ (?_))
          refine hK _ _ _ _ (w_sln rfl hk ⟨b_6 (d := e) rfl, ?_⟩)
          refine hK _ _ _ _ ⟨fun h1 => ?_, fun h1 => ?_⟩
          · exfalso
            have := z_b_le.mp h1
            rw [z_b_ofNat (by omega), z_b_ofNat (by omega)] at this
            omega
          refine hK _ _ _ _ (hK _ _ _ _ (hK _ _ _ _ (hK _ _ _ _ (hK _ _ _ _ (hK _ _ _ _ (?_))))))
          refine hK _ _ _ _ ⟨z_vp.mpr ?_, ?_⟩
          · rw [z_b_add, z_b_ofNat (by omega)]
            omega
          refine hK _ _ _ _ (hK _ _ _ _ (?_))
          refine hK _ _ _ _ (w_sch rfl hk ⟨b_6 (d := e) rfl, z_vp.mpr ⟨?_, ?_⟩, ?_⟩)
          · rw [z_b_ofNat (by omega)]
            omega
          · rw [z_b_ofNat (by omega)]
            omega
          refine hK _ _ _ _ ⟨fun h1 => ?_, fun h1 => hK _ _ _ _ (hK _ _ _ _ ⟨Or.inl rfl, out0⟩)⟩
          refine hK _ _ _ _ (hK _ _ _ _ ?_)
          have h3 := ihm (i + 1) (by omega) (by omega)
          rw [← hI_s] at h3
          exact h3
      refine hK _ _ _ _ (hK _ _ _ _ ?_)
      exact lp2 _ 0 rfl (Nat.zero_le _)
    refine hK _ _ _ _ (hK _ _ _ _ (hK _ _ _ _ (?_)))
    refine hK _ _ _ _ ⟨fun h => tail, fun h1 => ?_⟩
    have h2 : z_b x2 < z_b (M1.1 36 0 7) := z_b_ltt.mp (Int32.not_le.mp h1)
    refine hK _ _ _ _ (hK _ _ _ _ (hK _ _ _ _ (?_)))
    refine hK _ _ _ _ ⟨z_vp.mpr ⟨hx1, by omega⟩, ?_⟩
    refine hK _ _ _ _ (hK _ _ _ _ (?_))
    refine hK _ _ _ _ ⟨_, h_pI hct_isInx rfl rfl rfl (show (1 : Nat) ≤ e + 7 by omega) (h_I (h_I (h_I trivial))) hM.1, rfl, fun v M2 g => ?_⟩
    obtain ⟨⟨y, rfl, -⟩, rfl⟩ := g
    refine hK _ _ _ _ ⟨fun h => tail, fun h => ?_⟩
    refine hK _ _ _ _ (hK _ _ _ _ ?_)
    have e2 : z_b (x2 + 1) = z_b x2 + 1 := by
      rw [z_b_add, z_l1]
      omega
    exact ih _ (v_up hm h1) _ rfl (by omega) (by omega)
  refine hK _ _ _ _ (hK _ _ _ _ (hK _ _ _ _ (?_)))
  exact lp _ _ rfl ha1 ha2
theorem hct_has_112 : z_ctH zTb ct_has_112 := by
  intro nS d as M hd hS hT hG
  obtain ⟨e, rfl⟩ := h_rk hd
  obtain ⟨i1, s1, rfl, h1, hS⟩ := z_S_R hS
  obtain ⟨i2, s2, rfl, h2, hS⟩ := z_S_R hS
  have h3 := z_S_N hS
  subst h3
  have h1 := h1.resolve_left (by decide)
  have h2 := h2.resolve_left (by decide)
  subst h1
  subst h2
  exact h_has (e := e) rfl (by decide) hT
def ct_has_113 : zCt := (204, [.inr (.inr (36, 0)), .inr (.inr (113, 0))], [], [(36, 8, 8)], [.inl (some (.inl (2147483648, 2147483648)), [(589832, (2147483648, 2147484048))]), .inl (some (.inl (2147483649, 2147483649)), [(589832, (2147483648, 2147484048))])], 8)
theorem hct_has_113 : z_ctH zTb ct_has_113 := by
  intro nS d as M hd hS hT hG
  obtain ⟨e, rfl⟩ := h_rk hd
  obtain ⟨i1, s1, rfl, h1, hS⟩ := z_S_R hS
  obtain ⟨i2, s2, rfl, h2, hS⟩ := z_S_R hS
  have h3 := z_S_N hS
  subst h3
  have h1 := h1.resolve_left (by decide)
  have h2 := h2.resolve_left (by decide)
  subst h1
  subst h2
  exact h_has (e := e) rfl (by decide) hT
def ct_has_114 : zCt := (204, [.inr (.inr (36, 0)), .inr (.inr (114, 0))], [], [(36, 8, 8)], [.inl (some (.inl (2147483648, 2147483648)), [(589832, (2147483648, 2147484048))]), .inl (some (.inl (2147483649, 2147483649)), [(589832, (2147483648, 2147484048))])], 8)
theorem hct_has_114 : z_ctH zTb ct_has_114 := by
  intro nS d as M hd hS hT hG
  obtain ⟨e, rfl⟩ := h_rk hd
  obtain ⟨i1, s1, rfl, h1, hS⟩ := z_S_R hS
  obtain ⟨i2, s2, rfl, h2, hS⟩ := z_S_R hS
  have h3 := z_S_N hS
  subst h3
  have h1 := h1.resolve_left (by decide)
  have h2 := h2.resolve_left (by decide)
  subst h1
  subst h2
  exact h_has (e := e) rfl (by decide) hT
def ct_has_115 : zCt := (204, [.inr (.inr (36, 0)), .inr (.inr (115, 0))], [], [(36, 8, 8)], [.inl (some (.inl (2147483648, 2147483648)), [(589832, (2147483648, 2147484048))]), .inl (some (.inl (2147483649, 2147483649)), [(589832, (2147483648, 2147484048))])], 8)
theorem hct_has_115 : z_ctH zTb ct_has_115 := by
  intro nS d as M hd hS hT hG
  obtain ⟨e, rfl⟩ := h_rk hd
  obtain ⟨i1, s1, rfl, h1, hS⟩ := z_S_R hS
  obtain ⟨i2, s2, rfl, h2, hS⟩ := z_S_R hS
  have h3 := z_S_N hS
  subst h3
  have h1 := h1.resolve_left (by decide)
  have h2 := h2.resolve_left (by decide)
  subst h1
  subst h2
  exact h_has (e := e) rfl (by decide) hT
def ct_has_116 : zCt := (204, [.inr (.inr (36, 0)), .inr (.inr (116, 0))], [], [(36, 8, 8)], [.inl (some (.inl (2147483648, 2147483648)), [(589832, (2147483648, 2147484048))]), .inl (some (.inl (2147483649, 2147483649)), [(589832, (2147483648, 2147484048))])], 8)
theorem hct_has_116 : z_ctH zTb ct_has_116 := by
  intro nS d as M hd hS hT hG
  obtain ⟨e, rfl⟩ := h_rk hd
  obtain ⟨i1, s1, rfl, h1, hS⟩ := z_S_R hS
  obtain ⟨i2, s2, rfl, h2, hS⟩ := z_S_R hS
  have h3 := z_S_N hS
  subst h3
  have h1 := h1.resolve_left (by decide)
  have h2 := h2.resolve_left (by decide)
  subst h1
  subst h2
  exact h_has (e := e) rfl (by decide) hT
def ct_has_117 : zCt := (204, [.inr (.inr (36, 0)), .inr (.inr (117, 0))], [], [(36, 8, 8)], [.inl (some (.inl (2147483648, 2147483648)), [(589832, (2147483648, 2147484048))]), .inl (some (.inl (2147483649, 2147483649)), [(589832, (2147483648, 2147484048))])], 8)
theorem hct_has_117 : z_ctH zTb ct_has_117 := by
  intro nS d as M hd hS hT hG
  obtain ⟨e, rfl⟩ := h_rk hd
  obtain ⟨i1, s1, rfl, h1, hS⟩ := z_S_R hS
  obtain ⟨i2, s2, rfl, h2, hS⟩ := z_S_R hS
  have h3 := z_S_N hS
  subst h3
  have h1 := h1.resolve_left (by decide)
  have h2 := h2.resolve_left (by decide)
  subst h1
  subst h2
  exact h_has (e := e) rfl (by decide) hT
def ct_has_118 : zCt := (204, [.inr (.inr (36, 0)), .inr (.inr (118, 0))], [], [(36, 8, 8)], [.inl (some (.inl (2147483648, 2147483648)), [(589832, (2147483648, 2147484048))]), .inl (some (.inl (2147483649, 2147483649)), [(589832, (2147483648, 2147484048))])], 8)
theorem hct_has_118 : z_ctH zTb ct_has_118 := by
  intro nS d as M hd hS hT hG
  obtain ⟨e, rfl⟩ := h_rk hd
  obtain ⟨i1, s1, rfl, h1, hS⟩ := z_S_R hS
  obtain ⟨i2, s2, rfl, h2, hS⟩ := z_S_R hS
  have h3 := z_S_N hS
  subst h3
  have h1 := h1.resolve_left (by decide)
  have h2 := h2.resolve_left (by decide)
  subst h1
  subst h2
  exact h_has (e := e) rfl (by decide) hT
def ct_has_119 : zCt := (204, [.inr (.inr (36, 0)), .inr (.inr (119, 0))], [], [(36, 8, 8)], [.inl (some (.inl (2147483648, 2147483648)), [(589832, (2147483648, 2147484048))]), .inl (some (.inl (2147483649, 2147483649)), [(589832, (2147483648, 2147484048))])], 8)
theorem hct_has_119 : z_ctH zTb ct_has_119 := by
  intro nS d as M hd hS hT hG
  obtain ⟨e, rfl⟩ := h_rk hd
  obtain ⟨i1, s1, rfl, h1, hS⟩ := z_S_R hS
  obtain ⟨i2, s2, rfl, h2, hS⟩ := z_S_R hS
  have h3 := z_S_N hS
  subst h3
  have h1 := h1.resolve_left (by decide)
  have h2 := h2.resolve_left (by decide)
  subst h1
  subst h2
  exact h_has (e := e) rfl (by decide) hT
def ct_has_120 : zCt := (204, [.inr (.inr (36, 0)), .inr (.inr (120, 0))], [], [(36, 8, 8)], [.inl (some (.inl (2147483648, 2147483648)), [(589832, (2147483648, 2147484048))]), .inl (some (.inl (2147483649, 2147483649)), [(589832, (2147483648, 2147484048))])], 8)
theorem hct_has_120 : z_ctH zTb ct_has_120 := by
  intro nS d as M hd hS hT hG
  obtain ⟨e, rfl⟩ := h_rk hd
  obtain ⟨i1, s1, rfl, h1, hS⟩ := z_S_R hS
  obtain ⟨i2, s2, rfl, h2, hS⟩ := z_S_R hS
  have h3 := z_S_N hS
  subst h3
  have h1 := h1.resolve_left (by decide)
  have h2 := h2.resolve_left (by decide)
  subst h1
  subst h2
  exact h_has (e := e) rfl (by decide) hT
def ct_has_121 : zCt := (204, [.inr (.inr (36, 0)), .inr (.inr (121, 0))], [], [(36, 8, 8)], [.inl (some (.inl (2147483648, 2147483648)), [(589832, (2147483648, 2147484048))]), .inl (some (.inl (2147483649, 2147483649)), [(589832, (2147483648, 2147484048))])], 8)
theorem hct_has_121 : z_ctH zTb ct_has_121 := by
  intro nS d as M hd hS hT hG
  obtain ⟨e, rfl⟩ := h_rk hd
  obtain ⟨i1, s1, rfl, h1, hS⟩ := z_S_R hS
  obtain ⟨i2, s2, rfl, h2, hS⟩ := z_S_R hS
  have h3 := z_S_N hS
  subst h3
  have h1 := h1.resolve_left (by decide)
  have h2 := h2.resolve_left (by decide)
  subst h1
  subst h2
  exact h_has (e := e) rfl (by decide) hT
def ct_figures_t2 : zCt := (206, [.inr (.inr (36, 0)), .inl (2147483648, 2147483648), .inl (2147483649, 2147483649)], [(589833, (2147483647, 2147483647))], [(36, 8, 8), (36, 9, 9), (36, 10, 10)], [.inl (some (.inl (0, 4294967295)), [(589834, (2147483648, 2147484048)), (589832, (2147483648, 2147484048)), (589833, (2147483648, 2147484048))]), .inl (some (.inl (2147483648, 2147483649)), [(589834, (2147483648, 2147484048)), (589832, (2147483648, 2147484048)), (589833, (2147483647, 2147483647))])], 3)
theorem hct_figures_t2 : z_ctH zTb ct_figures_t2 := hz_figures
def ct_figures_t3 : zCt := (206, [.inr (.inr (36, 0)), .inl (2147483648, 2147483648), .inl (2147483650, 2147483650)], [(589833, (2147483647, 2147483647))], [(36, 8, 8), (36, 9, 9), (36, 10, 10)], [.inl (some (.inl (0, 4294967295)), [(589834, (2147483648, 2147484048)), (589832, (2147483648, 2147484048)), (589833, (2147483648, 2147484048))]), .inl (some (.inl (2147483648, 2147483650)), [(589834, (2147483648, 2147484048)), (589832, (2147483648, 2147484048)), (589833, (2147483647, 2147483647))])], 3)
theorem hct_figures_t3 : z_ctH zTb ct_figures_t3 := hz_figures
def ct_figures_t4 : zCt := (206, [.inr (.inr (36, 0)), .inl (2147483648, 2147483648), .inl (2147483651, 2147483651)], [(589833, (2147483647, 2147483647))], [(36, 8, 8), (36, 9, 9), (36, 10, 10)], [.inl (some (.inl (0, 4294967295)), [(589834, (2147483648, 2147484048)), (589832, (2147483648, 2147484048)), (589833, (2147483648, 2147484048))]), .inl (some (.inl (2147483648, 2147483651)), [(589834, (2147483648, 2147484048)), (589832, (2147483648, 2147484048)), (589833, (2147483647, 2147483647))])], 3)
theorem hct_figures_t4 : z_ctH zTb ct_figures_t4 := hz_figures
def ct_figures_t5 : zCt := (206, [.inr (.inr (36, 0)), .inl (2147483648, 2147483648), .inl (2147483652, 2147483652)], [(589833, (2147483647, 2147483647))], [(36, 8, 8), (36, 9, 9), (36, 10, 10)], [.inl (some (.inl (0, 4294967295)), [(589834, (2147483648, 2147484048)), (589832, (2147483648, 2147484048)), (589833, (2147483648, 2147484048))]), .inl (some (.inl (2147483648, 2147483652)), [(589834, (2147483648, 2147484048)), (589832, (2147483648, 2147484048)), (589833, (2147483647, 2147483647))])], 3)
theorem hct_figures_t5 : z_ctH zTb ct_figures_t5 := hz_figures
def ct_figures_t6 : zCt := (206, [.inr (.inr (36, 0)), .inl (2147483648, 2147483648), .inl (2147483653, 2147483653)], [(589833, (2147483647, 2147483647))], [(36, 8, 8), (36, 9, 9), (36, 10, 10)], [.inl (some (.inl (0, 4294967295)), [(589834, (2147483648, 2147484048)), (589832, (2147483648, 2147484048)), (589833, (2147483648, 2147484048))]), .inl (some (.inl (2147483648, 2147483653)), [(589834, (2147483648, 2147484048)), (589832, (2147483648, 2147484048)), (589833, (2147483647, 2147483647))])], 3)
theorem hct_figures_t6 : z_ctH zTb ct_figures_t6 := hz_figures
def ct_figures_t7 : zCt := (206, [.inr (.inr (36, 0)), .inl (2147483648, 2147483648), .inl (2147483654, 2147483654)], [(589833, (2147483647, 2147483647))], [(36, 8, 8), (36, 9, 9), (36, 10, 10)], [.inl (some (.inl (0, 4294967295)), [(589834, (2147483648, 2147484048)), (589832, (2147483648, 2147484048)), (589833, (2147483648, 2147484048))]), .inl (some (.inl (2147483648, 2147483654)), [(589834, (2147483648, 2147484048)), (589832, (2147483648, 2147484048)), (589833, (2147483647, 2147483647))])], 3)
theorem hct_figures_t7 : z_ctH zTb ct_figures_t7 := hz_figures
def ct_figures_t8 : zCt := (206, [.inr (.inr (36, 0)), .inl (2147483648, 2147483648), .inl (2147483655, 2147483655)], [(589833, (2147483647, 2147483647))], [(36, 8, 8), (36, 9, 9), (36, 10, 10)], [.inl (some (.inl (0, 4294967295)), [(589834, (2147483648, 2147484048)), (589832, (2147483648, 2147484048)), (589833, (2147483648, 2147484048))]), .inl (some (.inl (2147483648, 2147483655)), [(589834, (2147483648, 2147484048)), (589832, (2147483648, 2147484048)), (589833, (2147483647, 2147483647))])], 3)
theorem hct_figures_t8 : z_ctH zTb ct_figures_t8 := hz_figures
def ct_lineTold : zCt := (208, [.inr (.inr (36, 0)), .inl (2147483648, 2147483649)], [(589833, (2147483647, 2147483647))], [(36, 8, 8), (36, 9, 9), (36, 10, 10), (37, 18, 43)], [.inl (none, [(589834, (2147483648, 2147484048)), (589832, (2147483648, 2147484048)), (589833, (2147483647, 2147483647))]), .inl (none, [(589833, (2147483648, 2147484048))])], 4)
theorem hct_lineTold : z_ctH zTb ct_lineTold := z_ct_ok [(36, 8, 8), (36, 9, 9), (36, 10, 10)] z_hds_ok [ct_lineOf, ct_wrong1, ct_figures0, ct_figures_0_3, ct_figures_0_2, ct_figures_t2, ct_figures_t5, ct_figures_t6, ct_figures_t7, ct_figures_t8] [(false, 606210, [(2147483650, 2147483650), (2147483651, 2147483651), (2147483652, 2147483652), (2147483653, 2147483653), (2147483654, 2147483654), (2147483655, 2147483655), (2147483656, 2147483656)])] 3 1 (List.forall_mem_cons.mpr ⟨hct_lineOf, List.forall_mem_cons.mpr ⟨hct_wrong1, List.forall_mem_cons.mpr ⟨hct_figures0, List.forall_mem_cons.mpr ⟨hct_figures_0_3, List.forall_mem_cons.mpr ⟨hct_figures_0_2, List.forall_mem_cons.mpr ⟨hct_figures_t2, List.forall_mem_cons.mpr ⟨hct_figures_t5, List.forall_mem_cons.mpr ⟨hct_figures_t6, List.forall_mem_cons.mpr ⟨hct_figures_t7, List.forall_mem_cons.mpr ⟨hct_figures_t8, fun _ h => absurd h List.not_mem_nil⟩⟩⟩⟩⟩⟩⟩⟩⟩⟩) (by decide +kernel)
def ct_isSquare : zCt := (192, [.inr (.inr (36, 0)), .inl (0, 4294967295), .inl (0, 4294967295)], [], [], [.inl (some (.inl (2147483648, 2147483649)), [])], 2)
theorem hct_isSquare : z_ctH zTb ct_isSquare := z_ct_ok [] z_hds_ok [] [] 0 2 (fun _ h => absurd h List.not_mem_nil) (by decide +kernel)
def ct_boardLine_0_2 : zCt := (209, [.inr (.inr (36, 0))], [(589833, (2147483647, 2147483647)), (606209, (2147483648, 2147483648)), (606210, (2147483650, 2147483650))], [(36, 8, 8), (36, 9, 9), (36, 10, 10), (37, 1, 6), (37, 10, 17), (37, 18, 43)], [.inl (none, [(606210, (2147483656, 2147483656)), (606209, (2147483651, 2147483651)), (589834, (2147483648, 2147484048)), (589832, (2147483648, 2147484048)), (589833, (2147483647, 2147483647))]), .inl (none, [(606209, (2147483648, 2147483648)), (606210, (2147483650, 2147483650)), (589833, (2147483648, 2147484048))]), .inl (none, [(606210, (2147483652, 2147483652)), (606209, (2147483651, 2147483651)), (589834, (2147483648, 2147484048)), (589832, (2147483648, 2147484048)), (589833, (2147483647, 2147483647))]), .inl (none, [(606210, (2147483650, 2147483650)), (606209, (2147483651, 2147483651)), (589834, (2147483648, 2147484048)), (589832, (2147483648, 2147484048)), (589833, (2147483647, 2147483647))]), .inl (none, [(606210, (2147483656, 2147483656)), (606209, (2147483650, 2147483650)), (589834, (2147483648, 2147484048)), (589832, (2147483648, 2147484048)), (589833, (2147483647, 2147483647))]), .inl (none, [(606210, (2147483656, 2147483656)), (606209, (2147483649, 2147483649)), (589834, (2147483648, 2147484048)), (589832, (2147483648, 2147484048)), (589833, (2147483647, 2147483647))]), .inl (none, [(606210, (2147483654, 2147483654)), (606209, (2147483649, 2147483649)), (589834, (2147483648, 2147484048)), (589832, (2147483648, 2147484048)), (589833, (2147483647, 2147483647))]), .inl (none, [(606210, (2147483652, 2147483652)), (606209, (2147483649, 2147483649)), (589834, (2147483648, 2147484048)), (589832, (2147483648, 2147484048)), (589833, (2147483647, 2147483647))]), .inl (none, [(606210, (2147483656, 2147483656)), (606209, (2147483648, 2147483648)), (589834, (2147483648, 2147484048)), (589832, (2147483648, 2147484048)), (589833, (2147483647, 2147483647))]), .inl (none, [(606210, (2147483655, 2147483655)), (606209, (2147483648, 2147483648)), (589834, (2147483648, 2147484048)), (589832, (2147483648, 2147484048)), (589833, (2147483647, 2147483647))]), .inl (none, [(606210, (2147483654, 2147483654)), (606209, (2147483648, 2147483648)), (589834, (2147483648, 2147484048)), (589832, (2147483648, 2147484048)), (589833, (2147483647, 2147483647))]), .inl (none, [(606210, (2147483653, 2147483653)), (606209, (2147483648, 2147483648)), (589834, (2147483648, 2147484048)), (589832, (2147483648, 2147484048)), (589833, (2147483647, 2147483647))]), .inl (none, [(606210, (2147483652, 2147483652)), (606209, (2147483648, 2147483648)), (589834, (2147483648, 2147484048)), (589832, (2147483648, 2147484048)), (589833, (2147483647, 2147483647))]), .inl (none, [(606210, (2147483651, 2147483651)), (606209, (2147483648, 2147483648)), (589834, (2147483648, 2147484048)), (589832, (2147483648, 2147484048)), (589833, (2147483647, 2147483647))]), .inl (none, [(606209, (2147483648, 2147483648)), (606210, (2147483650, 2147483650)), (589834, (2147483648, 2147484048)), (589832, (2147483648, 2147484048)), (589833, (2147483647, 2147483647))])], 10)
theorem hct_boardLine_0_2 : z_ctH zTb ct_boardLine_0_2 := z_ct_ok [(36, 8, 8), (36, 9, 9), (36, 10, 10), (37, 1, 2)] z_hds_ok [ct_isKin, ct_rests0, ct_wrong1, ct_figures0, ct_figures_0_3, ct_figures_2_8, ct_figures_1_3, ct_figures_0_2, ct_figures_0_9, ct_has_112, ct_has_113, ct_has_114, ct_has_115, ct_has_116, ct_has_117, ct_has_118, ct_figures_t2, ct_lineTold, ct_isSquare] [] 8 2 (List.forall_mem_cons.mpr ⟨hct_isKin, List.forall_mem_cons.mpr ⟨hct_rests0, List.forall_mem_cons.mpr ⟨hct_wrong1, List.forall_mem_cons.mpr ⟨hct_figures0, List.forall_mem_cons.mpr ⟨hct_figures_0_3, List.forall_mem_cons.mpr ⟨hct_figures_2_8, List.forall_mem_cons.mpr ⟨hct_figures_1_3, List.forall_mem_cons.mpr ⟨hct_figures_0_2, List.forall_mem_cons.mpr ⟨hct_figures_0_9, List.forall_mem_cons.mpr ⟨hct_has_112, List.forall_mem_cons.mpr ⟨hct_has_113, List.forall_mem_cons.mpr ⟨hct_has_114, List.forall_mem_cons.mpr ⟨hct_has_115, List.forall_mem_cons.mpr ⟨hct_has_116, List.forall_mem_cons.mpr ⟨hct_has_117, List.forall_mem_cons.mpr ⟨hct_has_118, List.forall_mem_cons.mpr ⟨hct_figures_t2, List.forall_mem_cons.mpr ⟨hct_lineTold, List.forall_mem_cons.mpr ⟨hct_isSquare, fun _ h => absurd h List.not_mem_nil⟩⟩⟩⟩⟩⟩⟩⟩⟩⟩⟩⟩⟩⟩⟩⟩⟩⟩⟩) (by decide +kernel)
def ct_boardLine_0_3 : zCt := (209, [.inr (.inr (36, 0))], [(589833, (2147483647, 2147483647)), (606209, (2147483648, 2147483648)), (606210, (2147483651, 2147483651))], [(36, 8, 8), (36, 9, 9), (36, 10, 10), (37, 1, 6), (37, 10, 17), (37, 18, 43)], [.inl (none, [(606210, (2147483656, 2147483656)), (606209, (2147483651, 2147483651)), (589834, (2147483648, 2147484048)), (589832, (2147483648, 2147484048)), (589833, (2147483647, 2147483647))]), .inl (none, [(606209, (2147483648, 2147483648)), (606210, (2147483651, 2147483651)), (589833, (2147483648, 2147484048))]), .inl (none, [(606210, (2147483652, 2147483652)), (606209, (2147483651, 2147483651)), (589834, (2147483648, 2147484048)), (589832, (2147483648, 2147484048)), (589833, (2147483647, 2147483647))]), .inl (none, [(606210, (2147483650, 2147483650)), (606209, (2147483651, 2147483651)), (589834, (2147483648, 2147484048)), (589832, (2147483648, 2147484048)), (589833, (2147483647, 2147483647))]), .inl (none, [(606210, (2147483656, 2147483656)), (606209, (2147483650, 2147483650)), (589834, (2147483648, 2147484048)), (589832, (2147483648, 2147484048)), (589833, (2147483647, 2147483647))]), .inl (none, [(606210, (2147483656, 2147483656)), (606209, (2147483649, 2147483649)), (589834, (2147483648, 2147484048)), (589832, (2147483648, 2147484048)), (589833, (2147483647, 2147483647))]), .inl (none, [(606210, (2147483654, 2147483654)), (606209, (2147483649, 2147483649)), (589834, (2147483648, 2147484048)), (589832, (2147483648, 2147484048)), (589833, (2147483647, 2147483647))]), .inl (none, [(606210, (2147483652, 2147483652)), (606209, (2147483649, 2147483649)), (589834, (2147483648, 2147484048)), (589832, (2147483648, 2147484048)), (589833, (2147483647, 2147483647))]), .inl (none, [(606210, (2147483656, 2147483656)), (606209, (2147483648, 2147483648)), (589834, (2147483648, 2147484048)), (589832, (2147483648, 2147484048)), (589833, (2147483647, 2147483647))]), .inl (none, [(606210, (2147483655, 2147483655)), (606209, (2147483648, 2147483648)), (589834, (2147483648, 2147484048)), (589832, (2147483648, 2147484048)), (589833, (2147483647, 2147483647))]), .inl (none, [(606210, (2147483654, 2147483654)), (606209, (2147483648, 2147483648)), (589834, (2147483648, 2147484048)), (589832, (2147483648, 2147484048)), (589833, (2147483647, 2147483647))]), .inl (none, [(606210, (2147483653, 2147483653)), (606209, (2147483648, 2147483648)), (589834, (2147483648, 2147484048)), (589832, (2147483648, 2147484048)), (589833, (2147483647, 2147483647))]), .inl (none, [(606210, (2147483652, 2147483652)), (606209, (2147483648, 2147483648)), (589834, (2147483648, 2147484048)), (589832, (2147483648, 2147484048)), (589833, (2147483647, 2147483647))]), .inl (none, [(606209, (2147483648, 2147483648)), (606210, (2147483651, 2147483651)), (589834, (2147483648, 2147484048)), (589832, (2147483648, 2147484048)), (589833, (2147483647, 2147483647))]), .inl (none, [(606210, (2147483650, 2147483650)), (606209, (2147483648, 2147483648)), (589834, (2147483648, 2147484048)), (589832, (2147483648, 2147484048)), (589833, (2147483647, 2147483647))])], 10)
theorem hct_boardLine_0_3 : z_ctH zTb ct_boardLine_0_3 := z_ct_ok [(36, 8, 8), (36, 9, 9), (36, 10, 10), (37, 1, 2)] z_hds_ok [ct_isKin, ct_rests0, ct_wrong1, ct_figures0, ct_figures_0_3, ct_figures_2_8, ct_figures_1_3, ct_figures_0_2, ct_figures_0_9, ct_has_112, ct_has_113, ct_has_114, ct_has_115, ct_has_116, ct_has_117, ct_has_118, ct_lineTold, ct_isSquare] [] 8 2 (List.forall_mem_cons.mpr ⟨hct_isKin, List.forall_mem_cons.mpr ⟨hct_rests0, List.forall_mem_cons.mpr ⟨hct_wrong1, List.forall_mem_cons.mpr ⟨hct_figures0, List.forall_mem_cons.mpr ⟨hct_figures_0_3, List.forall_mem_cons.mpr ⟨hct_figures_2_8, List.forall_mem_cons.mpr ⟨hct_figures_1_3, List.forall_mem_cons.mpr ⟨hct_figures_0_2, List.forall_mem_cons.mpr ⟨hct_figures_0_9, List.forall_mem_cons.mpr ⟨hct_has_112, List.forall_mem_cons.mpr ⟨hct_has_113, List.forall_mem_cons.mpr ⟨hct_has_114, List.forall_mem_cons.mpr ⟨hct_has_115, List.forall_mem_cons.mpr ⟨hct_has_116, List.forall_mem_cons.mpr ⟨hct_has_117, List.forall_mem_cons.mpr ⟨hct_has_118, List.forall_mem_cons.mpr ⟨hct_lineTold, List.forall_mem_cons.mpr ⟨hct_isSquare, fun _ h => absurd h List.not_mem_nil⟩⟩⟩⟩⟩⟩⟩⟩⟩⟩⟩⟩⟩⟩⟩⟩⟩⟩) (by decide +kernel)
def ct_boardLine_0_4 : zCt := (209, [.inr (.inr (36, 0))], [(589833, (2147483647, 2147483647)), (606209, (2147483648, 2147483648)), (606210, (2147483652, 2147483652))], [(36, 8, 8), (36, 9, 9), (36, 10, 10), (37, 1, 6), (37, 10, 17), (37, 18, 43)], [.inl (none, [(606210, (2147483656, 2147483656)), (606209, (2147483651, 2147483651)), (589834, (2147483648, 2147484048)), (589832, (2147483648, 2147484048)), (589833, (2147483647, 2147483647))]), .inl (none, [(606209, (2147483648, 2147483648)), (606210, (2147483652, 2147483652)), (589833, (2147483648, 2147484048))]), .inl (none, [(606210, (2147483652, 2147483652)), (606209, (2147483651, 2147483651)), (589834, (2147483648, 2147484048)), (589832, (2147483648, 2147484048)), (589833, (2147483647, 2147483647))]), .inl (none, [(606210, (2147483650, 2147483650)), (606209, (2147483651, 2147483651)), (589834, (2147483648, 2147484048)), (589832, (2147483648, 2147484048)), (589833, (2147483647, 2147483647))]), .inl (none, [(606210, (2147483656, 2147483656)), (606209, (2147483650, 2147483650)), (589834, (2147483648, 2147484048)), (589832, (2147483648, 2147484048)), (589833, (2147483647, 2147483647))]), .inl (none, [(606210, (2147483656, 2147483656)), (606209, (2147483649, 2147483649)), (589834, (2147483648, 2147484048)), (589832, (2147483648, 2147484048)), (589833, (2147483647, 2147483647))]), .inl (none, [(606210, (2147483654, 2147483654)), (606209, (2147483649, 2147483649)), (589834, (2147483648, 2147484048)), (589832, (2147483648, 2147484048)), (589833, (2147483647, 2147483647))]), .inl (none, [(606210, (2147483652, 2147483652)), (606209, (2147483649, 2147483649)), (589834, (2147483648, 2147484048)), (589832, (2147483648, 2147484048)), (589833, (2147483647, 2147483647))]), .inl (none, [(606210, (2147483656, 2147483656)), (606209, (2147483648, 2147483648)), (589834, (2147483648, 2147484048)), (589832, (2147483648, 2147484048)), (589833, (2147483647, 2147483647))]), .inl (none, [(606210, (2147483655, 2147483655)), (606209, (2147483648, 2147483648)), (589834, (2147483648, 2147484048)), (589832, (2147483648, 2147484048)), (589833, (2147483647, 2147483647))]), .inl (none, [(606210, (2147483654, 2147483654)), (606209, (2147483648, 2147483648)), (589834, (2147483648, 2147484048)), (589832, (2147483648, 2147484048)), (589833, (2147483647, 2147483647))]), .inl (none, [(606210, (2147483653, 2147483653)), (606209, (2147483648, 2147483648)), (589834, (2147483648, 2147484048)), (589832, (2147483648, 2147484048)), (589833, (2147483647, 2147483647))]), .inl (none, [(606209, (2147483648, 2147483648)), (606210, (2147483652, 2147483652)), (589834, (2147483648, 2147484048)), (589832, (2147483648, 2147484048)), (589833, (2147483647, 2147483647))]), .inl (none, [(606210, (2147483651, 2147483651)), (606209, (2147483648, 2147483648)), (589834, (2147483648, 2147484048)), (589832, (2147483648, 2147484048)), (589833, (2147483647, 2147483647))]), .inl (none, [(606210, (2147483650, 2147483650)), (606209, (2147483648, 2147483648)), (589834, (2147483648, 2147484048)), (589832, (2147483648, 2147484048)), (589833, (2147483647, 2147483647))])], 10)
theorem hct_boardLine_0_4 : z_ctH zTb ct_boardLine_0_4 := z_ct_ok [(36, 8, 8), (36, 9, 9), (36, 10, 10), (37, 1, 2)] z_hds_ok [ct_isKin, ct_rests0, ct_wrong1, ct_figures0, ct_figures_0_3, ct_figures_2_8, ct_figures_1_3, ct_figures_0_2, ct_figures_0_9, ct_has_112, ct_has_113, ct_has_114, ct_has_115, ct_has_116, ct_has_117, ct_has_118, ct_lineTold, ct_isSquare] [] 8 2 (List.forall_mem_cons.mpr ⟨hct_isKin, List.forall_mem_cons.mpr ⟨hct_rests0, List.forall_mem_cons.mpr ⟨hct_wrong1, List.forall_mem_cons.mpr ⟨hct_figures0, List.forall_mem_cons.mpr ⟨hct_figures_0_3, List.forall_mem_cons.mpr ⟨hct_figures_2_8, List.forall_mem_cons.mpr ⟨hct_figures_1_3, List.forall_mem_cons.mpr ⟨hct_figures_0_2, List.forall_mem_cons.mpr ⟨hct_figures_0_9, List.forall_mem_cons.mpr ⟨hct_has_112, List.forall_mem_cons.mpr ⟨hct_has_113, List.forall_mem_cons.mpr ⟨hct_has_114, List.forall_mem_cons.mpr ⟨hct_has_115, List.forall_mem_cons.mpr ⟨hct_has_116, List.forall_mem_cons.mpr ⟨hct_has_117, List.forall_mem_cons.mpr ⟨hct_has_118, List.forall_mem_cons.mpr ⟨hct_lineTold, List.forall_mem_cons.mpr ⟨hct_isSquare, fun _ h => absurd h List.not_mem_nil⟩⟩⟩⟩⟩⟩⟩⟩⟩⟩⟩⟩⟩⟩⟩⟩⟩⟩) (by decide +kernel)
def ct_boardLine_0_5 : zCt := (209, [.inr (.inr (36, 0))], [(589833, (2147483647, 2147483647)), (606209, (2147483648, 2147483648)), (606210, (2147483653, 2147483653))], [(36, 8, 8), (36, 9, 9), (36, 10, 10), (37, 1, 6), (37, 10, 17), (37, 18, 43)], [.inl (none, [(606210, (2147483656, 2147483656)), (606209, (2147483651, 2147483651)), (589834, (2147483648, 2147484048)), (589832, (2147483648, 2147484048)), (589833, (2147483647, 2147483647))]), .inl (none, [(606209, (2147483648, 2147483648)), (606210, (2147483653, 2147483653)), (589833, (2147483648, 2147484048))]), .inl (none, [(606210, (2147483652, 2147483652)), (606209, (2147483651, 2147483651)), (589834, (2147483648, 2147484048)), (589832, (2147483648, 2147484048)), (589833, (2147483647, 2147483647))]), .inl (none, [(606210, (2147483650, 2147483650)), (606209, (2147483651, 2147483651)), (589834, (2147483648, 2147484048)), (589832, (2147483648, 2147484048)), (589833, (2147483647, 2147483647))]), .inl (none, [(606210, (2147483656, 2147483656)), (606209, (2147483650, 2147483650)), (589834, (2147483648, 2147484048)), (589832, (2147483648, 2147484048)), (589833, (2147483647, 2147483647))]), .inl (none, [(606210, (2147483656, 2147483656)), (606209, (2147483649, 2147483649)), (589834, (2147483648, 2147484048)), (589832, (2147483648, 2147484048)), (589833, (2147483647, 2147483647))]), .inl (none, [(606210, (2147483654, 2147483654)), (606209, (2147483649, 2147483649)), (589834, (2147483648, 2147484048)), (589832, (2147483648, 2147484048)), (589833, (2147483647, 2147483647))]), .inl (none, [(606210, (2147483652, 2147483652)), (606209, (2147483649, 2147483649)), (589834, (2147483648, 2147484048)), (589832, (2147483648, 2147484048)), (589833, (2147483647, 2147483647))]), .inl (none, [(606210, (2147483656, 2147483656)), (606209, (2147483648, 2147483648)), (589834, (2147483648, 2147484048)), (589832, (2147483648, 2147484048)), (589833, (2147483647, 2147483647))]), .inl (none, [(606210, (2147483655, 2147483655)), (606209, (2147483648, 2147483648)), (589834, (2147483648, 2147484048)), (589832, (2147483648, 2147484048)), (589833, (2147483647, 2147483647))]), .inl (none, [(606210, (2147483654, 2147483654)), (606209, (2147483648, 2147483648)), (589834, (2147483648, 2147484048)), (589832, (2147483648, 2147484048)), (589833, (2147483647, 2147483647))]), .inl (none, [(606209, (2147483648, 2147483648)), (606210, (2147483653, 2147483653)), (589834, (2147483648, 2147484048)), (589832, (2147483648, 2147484048)), (589833, (2147483647, 2147483647))]), .inl (none, [(606210, (2147483652, 2147483652)), (606209, (2147483648, 2147483648)), (589834, (2147483648, 2147484048)), (589832, (2147483648, 2147484048)), (589833, (2147483647, 2147483647))]), .inl (none, [(606210, (2147483651, 2147483651)), (606209, (2147483648, 2147483648)), (589834, (2147483648, 2147484048)), (589832, (2147483648, 2147484048)), (589833, (2147483647, 2147483647))]), .inl (none, [(606210, (2147483650, 2147483650)), (606209, (2147483648, 2147483648)), (589834, (2147483648, 2147484048)), (589832, (2147483648, 2147484048)), (589833, (2147483647, 2147483647))])], 10)
theorem hct_boardLine_0_5 : z_ctH zTb ct_boardLine_0_5 := z_ct_ok [(36, 8, 8), (36, 9, 9), (36, 10, 10), (37, 1, 2)] z_hds_ok [ct_isKin, ct_rests0, ct_wrong1, ct_figures0, ct_figures_0_3, ct_figures_2_8, ct_figures_1_3, ct_figures_0_2, ct_figures_0_9, ct_has_112, ct_has_113, ct_has_114, ct_has_115, ct_has_116, ct_has_117, ct_has_118, ct_figures_t5, ct_lineTold, ct_isSquare] [] 8 2 (List.forall_mem_cons.mpr ⟨hct_isKin, List.forall_mem_cons.mpr ⟨hct_rests0, List.forall_mem_cons.mpr ⟨hct_wrong1, List.forall_mem_cons.mpr ⟨hct_figures0, List.forall_mem_cons.mpr ⟨hct_figures_0_3, List.forall_mem_cons.mpr ⟨hct_figures_2_8, List.forall_mem_cons.mpr ⟨hct_figures_1_3, List.forall_mem_cons.mpr ⟨hct_figures_0_2, List.forall_mem_cons.mpr ⟨hct_figures_0_9, List.forall_mem_cons.mpr ⟨hct_has_112, List.forall_mem_cons.mpr ⟨hct_has_113, List.forall_mem_cons.mpr ⟨hct_has_114, List.forall_mem_cons.mpr ⟨hct_has_115, List.forall_mem_cons.mpr ⟨hct_has_116, List.forall_mem_cons.mpr ⟨hct_has_117, List.forall_mem_cons.mpr ⟨hct_has_118, List.forall_mem_cons.mpr ⟨hct_figures_t5, List.forall_mem_cons.mpr ⟨hct_lineTold, List.forall_mem_cons.mpr ⟨hct_isSquare, fun _ h => absurd h List.not_mem_nil⟩⟩⟩⟩⟩⟩⟩⟩⟩⟩⟩⟩⟩⟩⟩⟩⟩⟩⟩) (by decide +kernel)
def ct_boardLine_0_6 : zCt := (209, [.inr (.inr (36, 0))], [(589833, (2147483647, 2147483647)), (606209, (2147483648, 2147483648)), (606210, (2147483654, 2147483654))], [(36, 8, 8), (36, 9, 9), (36, 10, 10), (37, 1, 6), (37, 10, 17), (37, 18, 43)], [.inl (none, [(606210, (2147483656, 2147483656)), (606209, (2147483651, 2147483651)), (589834, (2147483648, 2147484048)), (589832, (2147483648, 2147484048)), (589833, (2147483647, 2147483647))]), .inl (none, [(606209, (2147483648, 2147483648)), (606210, (2147483654, 2147483654)), (589833, (2147483648, 2147484048))]), .inl (none, [(606210, (2147483652, 2147483652)), (606209, (2147483651, 2147483651)), (589834, (2147483648, 2147484048)), (589832, (2147483648, 2147484048)), (589833, (2147483647, 2147483647))]), .inl (none, [(606210, (2147483650, 2147483650)), (606209, (2147483651, 2147483651)), (589834, (2147483648, 2147484048)), (589832, (2147483648, 2147484048)), (589833, (2147483647, 2147483647))]), .inl (none, [(606210, (2147483656, 2147483656)), (606209, (2147483650, 2147483650)), (589834, (2147483648, 2147484048)), (589832, (2147483648, 2147484048)), (589833, (2147483647, 2147483647))]), .inl (none, [(606210, (2147483656, 2147483656)), (606209, (2147483649, 2147483649)), (589834, (2147483648, 2147484048)), (589832, (2147483648, 2147484048)), (589833, (2147483647, 2147483647))]), .inl (none, [(606210, (2147483654, 2147483654)), (606209, (2147483649, 2147483649)), (589834, (2147483648, 2147484048)), (589832, (2147483648, 2147484048)), (589833, (2147483647, 2147483647))]), .inl (none, [(606210, (2147483652, 2147483652)), (606209, (2147483649, 2147483649)), (589834, (2147483648, 2147484048)), (589832, (2147483648, 2147484048)), (589833, (2147483647, 2147483647))]), .inl (none, [(606210, (2147483656, 2147483656)), (606209, (2147483648, 2147483648)), (589834, (2147483648, 2147484048)), (589832, (2147483648, 2147484048)), (589833, (2147483647, 2147483647))]), .inl (none, [(606210, (2147483655, 2147483655)), (606209, (2147483648, 2147483648)), (589834, (2147483648, 2147484048)), (589832, (2147483648, 2147484048)), (589833, (2147483647, 2147483647))]), .inl (none, [(606209, (2147483648, 2147483648)), (606210, (2147483654, 2147483654)), (589834, (2147483648, 2147484048)), (589832, (2147483648, 2147484048)), (589833, (2147483647, 2147483647))]), .inl (none, [(606210, (2147483653, 2147483653)), (606209, (2147483648, 2147483648)), (589834, (2147483648, 2147484048)), (589832, (2147483648, 2147484048)), (589833, (2147483647, 2147483647))]), .inl (none, [(606210, (2147483652, 2147483652)), (606209, (2147483648, 2147483648)), (589834, (2147483648, 2147484048)), (589832, (2147483648, 2147484048)), (589833, (2147483647, 2147483647))]), .inl (none, [(606210, (2147483651, 2147483651)), (606209, (2147483648, 2147483648)), (589834, (2147483648, 2147484048)), (589832, (2147483648, 2147484048)), (589833, (2147483647, 2147483647))]), .inl (none, [(606210, (2147483650, 2147483650)), (606209, (2147483648, 2147483648)), (589834, (2147483648, 2147484048)), (589832, (2147483648, 2147484048)), (589833, (2147483647, 2147483647))])], 10)
theorem hct_boardLine_0_6 : z_ctH zTb ct_boardLine_0_6 := z_ct_ok [(36, 8, 8), (36, 9, 9), (36, 10, 10), (37, 1, 2)] z_hds_ok [ct_isKin, ct_rests0, ct_wrong1, ct_figures0, ct_figures_0_3, ct_figures_2_8, ct_figures_1_3, ct_figures_0_2, ct_figures_0_9, ct_has_112, ct_has_113, ct_has_114, ct_has_115, ct_has_116, ct_has_117, ct_has_118, ct_figures_t6, ct_lineTold, ct_isSquare] [] 8 2 (List.forall_mem_cons.mpr ⟨hct_isKin, List.forall_mem_cons.mpr ⟨hct_rests0, List.forall_mem_cons.mpr ⟨hct_wrong1, List.forall_mem_cons.mpr ⟨hct_figures0, List.forall_mem_cons.mpr ⟨hct_figures_0_3, List.forall_mem_cons.mpr ⟨hct_figures_2_8, List.forall_mem_cons.mpr ⟨hct_figures_1_3, List.forall_mem_cons.mpr ⟨hct_figures_0_2, List.forall_mem_cons.mpr ⟨hct_figures_0_9, List.forall_mem_cons.mpr ⟨hct_has_112, List.forall_mem_cons.mpr ⟨hct_has_113, List.forall_mem_cons.mpr ⟨hct_has_114, List.forall_mem_cons.mpr ⟨hct_has_115, List.forall_mem_cons.mpr ⟨hct_has_116, List.forall_mem_cons.mpr ⟨hct_has_117, List.forall_mem_cons.mpr ⟨hct_has_118, List.forall_mem_cons.mpr ⟨hct_figures_t6, List.forall_mem_cons.mpr ⟨hct_lineTold, List.forall_mem_cons.mpr ⟨hct_isSquare, fun _ h => absurd h List.not_mem_nil⟩⟩⟩⟩⟩⟩⟩⟩⟩⟩⟩⟩⟩⟩⟩⟩⟩⟩⟩) (by decide +kernel)
def ct_boardLine_0_7 : zCt := (209, [.inr (.inr (36, 0))], [(589833, (2147483647, 2147483647)), (606209, (2147483648, 2147483648)), (606210, (2147483655, 2147483655))], [(36, 8, 8), (36, 9, 9), (36, 10, 10), (37, 1, 6), (37, 10, 17), (37, 18, 43)], [.inl (none, [(606210, (2147483656, 2147483656)), (606209, (2147483651, 2147483651)), (589834, (2147483648, 2147484048)), (589832, (2147483648, 2147484048)), (589833, (2147483647, 2147483647))]), .inl (none, [(606209, (2147483648, 2147483648)), (606210, (2147483655, 2147483655)), (589833, (2147483648, 2147484048))]), .inl (none, [(606210, (2147483652, 2147483652)), (606209, (2147483651, 2147483651)), (589834, (2147483648, 2147484048)), (589832, (2147483648, 2147484048)), (589833, (2147483647, 2147483647))]), .inl (none, [(606210, (2147483650, 2147483650)), (606209, (2147483651, 2147483651)), (589834, (2147483648, 2147484048)), (589832, (2147483648, 2147484048)), (589833, (2147483647, 2147483647))]), .inl (none, [(606210, (2147483656, 2147483656)), (606209, (2147483650, 2147483650)), (589834, (2147483648, 2147484048)), (589832, (2147483648, 2147484048)), (589833, (2147483647, 2147483647))]), .inl (none, [(606210, (2147483656, 2147483656)), (606209, (2147483649, 2147483649)), (589834, (2147483648, 2147484048)), (589832, (2147483648, 2147484048)), (589833, (2147483647, 2147483647))]), .inl (none, [(606210, (2147483654, 2147483654)), (606209, (2147483649, 2147483649)), (589834, (2147483648, 2147484048)), (589832, (2147483648, 2147484048)), (589833, (2147483647, 2147483647))]), .inl (none, [(606210, (2147483652, 2147483652)), (606209, (2147483649, 2147483649)), (589834, (2147483648, 2147484048)), (589832, (2147483648, 2147484048)), (589833, (2147483647, 2147483647))]), .inl (none, [(606210, (2147483656, 2147483656)), (606209, (2147483648, 2147483648)), (589834, (2147483648, 2147484048)), (589832, (2147483648, 2147484048)), (589833, (2147483647, 2147483647))]), .inl (none, [(606209, (2147483648, 2147483648)), (606210, (2147483655, 2147483655)), (589834, (2147483648, 2147484048)), (589832, (2147483648, 2147484048)), (589833, (2147483647, 2147483647))]), .inl (none, [(606210, (2147483654, 2147483654)), (606209, (2147483648, 2147483648)), (589834, (2147483648, 2147484048)), (589832, (2147483648, 2147484048)), (589833, (2147483647, 2147483647))]), .inl (none, [(606210, (2147483653, 2147483653)), (606209, (2147483648, 2147483648)), (589834, (2147483648, 2147484048)), (589832, (2147483648, 2147484048)), (589833, (2147483647, 2147483647))]), .inl (none, [(606210, (2147483652, 2147483652)), (606209, (2147483648, 2147483648)), (589834, (2147483648, 2147484048)), (589832, (2147483648, 2147484048)), (589833, (2147483647, 2147483647))]), .inl (none, [(606210, (2147483651, 2147483651)), (606209, (2147483648, 2147483648)), (589834, (2147483648, 2147484048)), (589832, (2147483648, 2147484048)), (589833, (2147483647, 2147483647))]), .inl (none, [(606210, (2147483650, 2147483650)), (606209, (2147483648, 2147483648)), (589834, (2147483648, 2147484048)), (589832, (2147483648, 2147484048)), (589833, (2147483647, 2147483647))])], 10)
theorem hct_boardLine_0_7 : z_ctH zTb ct_boardLine_0_7 := z_ct_ok [(36, 8, 8), (36, 9, 9), (36, 10, 10), (37, 1, 2)] z_hds_ok [ct_isKin, ct_rests0, ct_wrong1, ct_figures0, ct_figures_0_3, ct_figures_2_8, ct_figures_1_3, ct_figures_0_2, ct_figures_0_9, ct_has_112, ct_has_113, ct_has_114, ct_has_115, ct_has_116, ct_has_117, ct_has_118, ct_figures_t7, ct_lineTold, ct_isSquare] [] 8 2 (List.forall_mem_cons.mpr ⟨hct_isKin, List.forall_mem_cons.mpr ⟨hct_rests0, List.forall_mem_cons.mpr ⟨hct_wrong1, List.forall_mem_cons.mpr ⟨hct_figures0, List.forall_mem_cons.mpr ⟨hct_figures_0_3, List.forall_mem_cons.mpr ⟨hct_figures_2_8, List.forall_mem_cons.mpr ⟨hct_figures_1_3, List.forall_mem_cons.mpr ⟨hct_figures_0_2, List.forall_mem_cons.mpr ⟨hct_figures_0_9, List.forall_mem_cons.mpr ⟨hct_has_112, List.forall_mem_cons.mpr ⟨hct_has_113, List.forall_mem_cons.mpr ⟨hct_has_114, List.forall_mem_cons.mpr ⟨hct_has_115, List.forall_mem_cons.mpr ⟨hct_has_116, List.forall_mem_cons.mpr ⟨hct_has_117, List.forall_mem_cons.mpr ⟨hct_has_118, List.forall_mem_cons.mpr ⟨hct_figures_t7, List.forall_mem_cons.mpr ⟨hct_lineTold, List.forall_mem_cons.mpr ⟨hct_isSquare, fun _ h => absurd h List.not_mem_nil⟩⟩⟩⟩⟩⟩⟩⟩⟩⟩⟩⟩⟩⟩⟩⟩⟩⟩⟩) (by decide +kernel)
def ct_boardLine_0_8 : zCt := (209, [.inr (.inr (36, 0))], [(589833, (2147483647, 2147483647)), (606209, (2147483648, 2147483648)), (606210, (2147483656, 2147483656))], [(36, 8, 8), (36, 9, 9), (36, 10, 10), (37, 1, 6), (37, 10, 17), (37, 18, 43)], [.inl (none, [(606210, (2147483656, 2147483656)), (606209, (2147483651, 2147483651)), (589834, (2147483648, 2147484048)), (589832, (2147483648, 2147484048)), (589833, (2147483647, 2147483647))]), .inl (none, [(606209, (2147483648, 2147483648)), (606210, (2147483656, 2147483656)), (589833, (2147483648, 2147484048))]), .inl (none, [(606210, (2147483652, 2147483652)), (606209, (2147483651, 2147483651)), (589834, (2147483648, 2147484048)), (589832, (2147483648, 2147484048)), (589833, (2147483647, 2147483647))]), .inl (none, [(606210, (2147483650, 2147483650)), (606209, (2147483651, 2147483651)), (589834, (2147483648, 2147484048)), (589832, (2147483648, 2147484048)), (589833, (2147483647, 2147483647))]), .inl (none, [(606210, (2147483656, 2147483656)), (606209, (2147483650, 2147483650)), (589834, (2147483648, 2147484048)), (589832, (2147483648, 2147484048)), (589833, (2147483647, 2147483647))]), .inl (none, [(606210, (2147483656, 2147483656)), (606209, (2147483649, 2147483649)), (589834, (2147483648, 2147484048)), (589832, (2147483648, 2147484048)), (589833, (2147483647, 2147483647))]), .inl (none, [(606210, (2147483654, 2147483654)), (606209, (2147483649, 2147483649)), (589834, (2147483648, 2147484048)), (589832, (2147483648, 2147484048)), (589833, (2147483647, 2147483647))]), .inl (none, [(606210, (2147483652, 2147483652)), (606209, (2147483649, 2147483649)), (589834, (2147483648, 2147484048)), (589832, (2147483648, 2147484048)), (589833, (2147483647, 2147483647))]), .inl (none, [(606209, (2147483648, 2147483648)), (606210, (2147483656, 2147483656)), (589834, (2147483648, 2147484048)), (589832, (2147483648, 2147484048)), (589833, (2147483647, 2147483647))]), .inl (none, [(606210, (2147483655, 2147483655)), (606209, (2147483648, 2147483648)), (589834, (2147483648, 2147484048)), (589832, (2147483648, 2147484048)), (589833, (2147483647, 2147483647))]), .inl (none, [(606210, (2147483654, 2147483654)), (606209, (2147483648, 2147483648)), (589834, (2147483648, 2147484048)), (589832, (2147483648, 2147484048)), (589833, (2147483647, 2147483647))]), .inl (none, [(606210, (2147483653, 2147483653)), (606209, (2147483648, 2147483648)), (589834, (2147483648, 2147484048)), (589832, (2147483648, 2147484048)), (589833, (2147483647, 2147483647))]), .inl (none, [(606210, (2147483652, 2147483652)), (606209, (2147483648, 2147483648)), (589834, (2147483648, 2147484048)), (589832, (2147483648, 2147484048)), (589833, (2147483647, 2147483647))]), .inl (none, [(606210, (2147483651, 2147483651)), (606209, (2147483648, 2147483648)), (589834, (2147483648, 2147484048)), (589832, (2147483648, 2147484048)), (589833, (2147483647, 2147483647))]), .inl (none, [(606210, (2147483650, 2147483650)), (606209, (2147483648, 2147483648)), (589834, (2147483648, 2147484048)), (589832, (2147483648, 2147484048)), (589833, (2147483647, 2147483647))])], 10)
theorem hct_boardLine_0_8 : z_ctH zTb ct_boardLine_0_8 := z_ct_ok [(36, 8, 8), (36, 9, 9), (36, 10, 10), (37, 1, 2)] z_hds_ok [ct_isKin, ct_rests0, ct_wrong1, ct_figures0, ct_figures_0_3, ct_figures_2_8, ct_figures_1_3, ct_figures_0_2, ct_figures_0_9, ct_has_112, ct_has_113, ct_has_114, ct_has_115, ct_has_116, ct_has_117, ct_has_118, ct_figures_t8, ct_lineTold, ct_isSquare] [] 8 2 (List.forall_mem_cons.mpr ⟨hct_isKin, List.forall_mem_cons.mpr ⟨hct_rests0, List.forall_mem_cons.mpr ⟨hct_wrong1, List.forall_mem_cons.mpr ⟨hct_figures0, List.forall_mem_cons.mpr ⟨hct_figures_0_3, List.forall_mem_cons.mpr ⟨hct_figures_2_8, List.forall_mem_cons.mpr ⟨hct_figures_1_3, List.forall_mem_cons.mpr ⟨hct_figures_0_2, List.forall_mem_cons.mpr ⟨hct_figures_0_9, List.forall_mem_cons.mpr ⟨hct_has_112, List.forall_mem_cons.mpr ⟨hct_has_113, List.forall_mem_cons.mpr ⟨hct_has_114, List.forall_mem_cons.mpr ⟨hct_has_115, List.forall_mem_cons.mpr ⟨hct_has_116, List.forall_mem_cons.mpr ⟨hct_has_117, List.forall_mem_cons.mpr ⟨hct_has_118, List.forall_mem_cons.mpr ⟨hct_figures_t8, List.forall_mem_cons.mpr ⟨hct_lineTold, List.forall_mem_cons.mpr ⟨hct_isSquare, fun _ h => absurd h List.not_mem_nil⟩⟩⟩⟩⟩⟩⟩⟩⟩⟩⟩⟩⟩⟩⟩⟩⟩⟩⟩) (by decide +kernel)
def ct_boardLine_1_4 : zCt := (209, [.inr (.inr (36, 0))], [(589833, (2147483647, 2147483647)), (606209, (2147483649, 2147483649)), (606210, (2147483652, 2147483652))], [(36, 8, 8), (36, 9, 9), (36, 10, 10), (37, 1, 6), (37, 10, 17), (37, 18, 43)], [.inl (none, [(606210, (2147483656, 2147483656)), (606209, (2147483651, 2147483651)), (589834, (2147483648, 2147484048)), (589832, (2147483648, 2147484048)), (589833, (2147483647, 2147483647))]), .inl (none, [(606209, (2147483649, 2147483649)), (606210, (2147483652, 2147483652)), (589833, (2147483648, 2147484048))]), .inl (none, [(606210, (2147483652, 2147483652)), (606209, (2147483651, 2147483651)), (589834, (2147483648, 2147484048)), (589832, (2147483648, 2147484048)), (589833, (2147483647, 2147483647))]), .inl (none, [(606210, (2147483650, 2147483650)), (606209, (2147483651, 2147483651)), (589834, (2147483648, 2147484048)), (589832, (2147483648, 2147484048)), (589833, (2147483647, 2147483647))]), .inl (none, [(606210, (2147483656, 2147483656)), (606209, (2147483650, 2147483650)), (589834, (2147483648, 2147484048)), (589832, (2147483648, 2147484048)), (589833, (2147483647, 2147483647))]), .inl (none, [(606210, (2147483656, 2147483656)), (606209, (2147483649, 2147483649)), (589834, (2147483648, 2147484048)), (589832, (2147483648, 2147484048)), (589833, (2147483647, 2147483647))]), .inl (none, [(606210, (2147483654, 2147483654)), (606209, (2147483649, 2147483649)), (589834, (2147483648, 2147484048)), (589832, (2147483648, 2147484048)), (589833, (2147483647, 2147483647))]), .inl (none, [(606209, (2147483649, 2147483649)), (606210, (2147483652, 2147483652)), (589834, (2147483648, 2147484048)), (589832, (2147483648, 2147484048)), (589833, (2147483647, 2147483647))]), .inl (none, [(606210, (2147483656, 2147483656)), (606209, (2147483648, 2147483648)), (589834, (2147483648, 2147484048)), (589832, (2147483648, 2147484048)), (589833, (2147483647, 2147483647))]), .inl (none, [(606210, (2147483655, 2147483655)), (606209, (2147483648, 2147483648)), (589834, (2147483648, 2147484048)), (589832, (2147483648, 2147484048)), (589833, (2147483647, 2147483647))]), .inl (none, [(606210, (2147483654, 2147483654)), (606209, (2147483648, 2147483648)), (589834, (2147483648, 2147484048)), (589832, (2147483648, 2147484048)), (589833, (2147483647, 2147483647))]), .inl (none, [(606210, (2147483653, 2147483653)), (606209, (2147483648, 2147483648)), (589834, (2147483648, 2147484048)), (589832, (2147483648, 2147484048)), (589833, (2147483647, 2147483647))]), .inl (none, [(606210, (2147483652, 2147483652)), (606209, (2147483648, 2147483648)), (589834, (2147483648, 2147484048)), (589832, (2147483648, 2147484048)), (589833, (2147483647, 2147483647))]), .inl (none, [(606210, (2147483651, 2147483651)), (606209, (2147483648, 2147483648)), (589834, (2147483648, 2147484048)), (589832, (2147483648, 2147484048)), (589833, (2147483647, 2147483647))]), .inl (none, [(606210, (2147483650, 2147483650)), (606209, (2147483648, 2147483648)), (589834, (2147483648, 2147484048)), (589832, (2147483648, 2147484048)), (589833, (2147483647, 2147483647))])], 10)
theorem hct_boardLine_1_4 : z_ctH zTb ct_boardLine_1_4 := z_ct_ok [(36, 8, 8), (36, 9, 9), (36, 10, 10), (37, 1, 2)] z_hds_ok [ct_isKin, ct_rests0, ct_wrong1, ct_figures0, ct_figures_0_3, ct_figures_2_8, ct_figures_1_3, ct_figures_0_2, ct_figures_0_9, ct_has_112, ct_has_113, ct_has_114, ct_has_115, ct_has_116, ct_has_117, ct_has_118, ct_lineTold, ct_isSquare] [] 8 2 (List.forall_mem_cons.mpr ⟨hct_isKin, List.forall_mem_cons.mpr ⟨hct_rests0, List.forall_mem_cons.mpr ⟨hct_wrong1, List.forall_mem_cons.mpr ⟨hct_figures0, List.forall_mem_cons.mpr ⟨hct_figures_0_3, List.forall_mem_cons.mpr ⟨hct_figures_2_8, List.forall_mem_cons.mpr ⟨hct_figures_1_3, List.forall_mem_cons.mpr ⟨hct_figures_0_2, List.forall_mem_cons.mpr ⟨hct_figures_0_9, List.forall_mem_cons.mpr ⟨hct_has_112, List.forall_mem_cons.mpr ⟨hct_has_113, List.forall_mem_cons.mpr ⟨hct_has_114, List.forall_mem_cons.mpr ⟨hct_has_115, List.forall_mem_cons.mpr ⟨hct_has_116, List.forall_mem_cons.mpr ⟨hct_has_117, List.forall_mem_cons.mpr ⟨hct_has_118, List.forall_mem_cons.mpr ⟨hct_lineTold, List.forall_mem_cons.mpr ⟨hct_isSquare, fun _ h => absurd h List.not_mem_nil⟩⟩⟩⟩⟩⟩⟩⟩⟩⟩⟩⟩⟩⟩⟩⟩⟩⟩) (by decide +kernel)
def ct_boardLine_1_6 : zCt := (209, [.inr (.inr (36, 0))], [(589833, (2147483647, 2147483647)), (606209, (2147483649, 2147483649)), (606210, (2147483654, 2147483654))], [(36, 8, 8), (36, 9, 9), (36, 10, 10), (37, 1, 6), (37, 10, 17), (37, 18, 43)], [.inl (none, [(606210, (2147483656, 2147483656)), (606209, (2147483651, 2147483651)), (589834, (2147483648, 2147484048)), (589832, (2147483648, 2147484048)), (589833, (2147483647, 2147483647))]), .inl (none, [(606209, (2147483649, 2147483649)), (606210, (2147483654, 2147483654)), (589833, (2147483648, 2147484048))]), .inl (none, [(606210, (2147483652, 2147483652)), (606209, (2147483651, 2147483651)), (589834, (2147483648, 2147484048)), (589832, (2147483648, 2147484048)), (589833, (2147483647, 2147483647))]), .inl (none, [(606210, (2147483650, 2147483650)), (606209, (2147483651, 2147483651)), (589834, (2147483648, 2147484048)), (589832, (2147483648, 2147484048)), (589833, (2147483647, 2147483647))]), .inl (none, [(606210, (2147483656, 2147483656)), (606209, (2147483650, 2147483650)), (589834, (2147483648, 2147484048)), (589832, (2147483648, 2147484048)), (589833, (2147483647, 2147483647))]), .inl (none, [(606210, (2147483656, 2147483656)), (606209, (2147483649, 2147483649)), (589834, (2147483648, 2147484048)), (589832, (2147483648, 2147484048)), (589833, (2147483647, 2147483647))]), .inl (none, [(606209, (2147483649, 2147483649)), (606210, (2147483654, 2147483654)), (589834, (2147483648, 2147484048)), (589832, (2147483648, 2147484048)), (589833, (2147483647, 2147483647))]), .inl (none, [(606210, (2147483652, 2147483652)), (606209, (2147483649, 2147483649)), (589834, (2147483648, 2147484048)), (589832, (2147483648, 2147484048)), (589833, (2147483647, 2147483647))]), .inl (none, [(606210, (2147483656, 2147483656)), (606209, (2147483648, 2147483648)), (589834, (2147483648, 2147484048)), (589832, (2147483648, 2147484048)), (589833, (2147483647, 2147483647))]), .inl (none, [(606210, (2147483655, 2147483655)), (606209, (2147483648, 2147483648)), (589834, (2147483648, 2147484048)), (589832, (2147483648, 2147484048)), (589833, (2147483647, 2147483647))]), .inl (none, [(606210, (2147483654, 2147483654)), (606209, (2147483648, 2147483648)), (589834, (2147483648, 2147484048)), (589832, (2147483648, 2147484048)), (589833, (2147483647, 2147483647))]), .inl (none, [(606210, (2147483653, 2147483653)), (606209, (2147483648, 2147483648)), (589834, (2147483648, 2147484048)), (589832, (2147483648, 2147484048)), (589833, (2147483647, 2147483647))]), .inl (none, [(606210, (2147483652, 2147483652)), (606209, (2147483648, 2147483648)), (589834, (2147483648, 2147484048)), (589832, (2147483648, 2147484048)), (589833, (2147483647, 2147483647))]), .inl (none, [(606210, (2147483651, 2147483651)), (606209, (2147483648, 2147483648)), (589834, (2147483648, 2147484048)), (589832, (2147483648, 2147484048)), (589833, (2147483647, 2147483647))]), .inl (none, [(606210, (2147483650, 2147483650)), (606209, (2147483648, 2147483648)), (589834, (2147483648, 2147484048)), (589832, (2147483648, 2147484048)), (589833, (2147483647, 2147483647))])], 10)
theorem hct_boardLine_1_6 : z_ctH zTb ct_boardLine_1_6 := z_ct_ok [(36, 8, 8), (36, 9, 9), (36, 10, 10), (37, 1, 2)] z_hds_ok [ct_isKin, ct_rests0, ct_wrong1, ct_figures0, ct_figures_0_3, ct_figures_2_8, ct_figures_1_3, ct_figures_0_2, ct_figures_0_9, ct_has_112, ct_has_113, ct_has_114, ct_has_115, ct_has_116, ct_has_117, ct_has_118, ct_figures_t6, ct_lineTold, ct_isSquare] [] 8 2 (List.forall_mem_cons.mpr ⟨hct_isKin, List.forall_mem_cons.mpr ⟨hct_rests0, List.forall_mem_cons.mpr ⟨hct_wrong1, List.forall_mem_cons.mpr ⟨hct_figures0, List.forall_mem_cons.mpr ⟨hct_figures_0_3, List.forall_mem_cons.mpr ⟨hct_figures_2_8, List.forall_mem_cons.mpr ⟨hct_figures_1_3, List.forall_mem_cons.mpr ⟨hct_figures_0_2, List.forall_mem_cons.mpr ⟨hct_figures_0_9, List.forall_mem_cons.mpr ⟨hct_has_112, List.forall_mem_cons.mpr ⟨hct_has_113, List.forall_mem_cons.mpr ⟨hct_has_114, List.forall_mem_cons.mpr ⟨hct_has_115, List.forall_mem_cons.mpr ⟨hct_has_116, List.forall_mem_cons.mpr ⟨hct_has_117, List.forall_mem_cons.mpr ⟨hct_has_118, List.forall_mem_cons.mpr ⟨hct_figures_t6, List.forall_mem_cons.mpr ⟨hct_lineTold, List.forall_mem_cons.mpr ⟨hct_isSquare, fun _ h => absurd h List.not_mem_nil⟩⟩⟩⟩⟩⟩⟩⟩⟩⟩⟩⟩⟩⟩⟩⟩⟩⟩⟩) (by decide +kernel)
def ct_boardLine_1_8 : zCt := (209, [.inr (.inr (36, 0))], [(589833, (2147483647, 2147483647)), (606209, (2147483649, 2147483649)), (606210, (2147483656, 2147483656))], [(36, 8, 8), (36, 9, 9), (36, 10, 10), (37, 1, 6), (37, 10, 17), (37, 18, 43)], [.inl (none, [(606210, (2147483656, 2147483656)), (606209, (2147483651, 2147483651)), (589834, (2147483648, 2147484048)), (589832, (2147483648, 2147484048)), (589833, (2147483647, 2147483647))]), .inl (none, [(606209, (2147483649, 2147483649)), (606210, (2147483656, 2147483656)), (589833, (2147483648, 2147484048))]), .inl (none, [(606210, (2147483652, 2147483652)), (606209, (2147483651, 2147483651)), (589834, (2147483648, 2147484048)), (589832, (2147483648, 2147484048)), (589833, (2147483647, 2147483647))]), .inl (none, [(606210, (2147483650, 2147483650)), (606209, (2147483651, 2147483651)), (589834, (2147483648, 2147484048)), (589832, (2147483648, 2147484048)), (589833, (2147483647, 2147483647))]), .inl (none, [(606210, (2147483656, 2147483656)), (606209, (2147483650, 2147483650)), (589834, (2147483648, 2147484048)), (589832, (2147483648, 2147484048)), (589833, (2147483647, 2147483647))]), .inl (none, [(606209, (2147483649, 2147483649)), (606210, (2147483656, 2147483656)), (589834, (2147483648, 2147484048)), (589832, (2147483648, 2147484048)), (589833, (2147483647, 2147483647))]), .inl (none, [(606210, (2147483654, 2147483654)), (606209, (2147483649, 2147483649)), (589834, (2147483648, 2147484048)), (589832, (2147483648, 2147484048)), (589833, (2147483647, 2147483647))]), .inl (none, [(606210, (2147483652, 2147483652)), (606209, (2147483649, 2147483649)), (589834, (2147483648, 2147484048)), (589832, (2147483648, 2147484048)), (589833, (2147483647, 2147483647))]), .inl (none, [(606210, (2147483656, 2147483656)), (606209, (2147483648, 2147483648)), (589834, (2147483648, 2147484048)), (589832, (2147483648, 2147484048)), (589833, (2147483647, 2147483647))]), .inl (none, [(606210, (2147483655, 2147483655)), (606209, (2147483648, 2147483648)), (589834, (2147483648, 2147484048)), (589832, (2147483648, 2147484048)), (589833, (2147483647, 2147483647))]), .inl (none, [(606210, (2147483654, 2147483654)), (606209, (2147483648, 2147483648)), (589834, (2147483648, 2147484048)), (589832, (2147483648, 2147484048)), (589833, (2147483647, 2147483647))]), .inl (none, [(606210, (2147483653, 2147483653)), (606209, (2147483648, 2147483648)), (589834, (2147483648, 2147484048)), (589832, (2147483648, 2147484048)), (589833, (2147483647, 2147483647))]), .inl (none, [(606210, (2147483652, 2147483652)), (606209, (2147483648, 2147483648)), (589834, (2147483648, 2147484048)), (589832, (2147483648, 2147484048)), (589833, (2147483647, 2147483647))]), .inl (none, [(606210, (2147483651, 2147483651)), (606209, (2147483648, 2147483648)), (589834, (2147483648, 2147484048)), (589832, (2147483648, 2147484048)), (589833, (2147483647, 2147483647))]), .inl (none, [(606210, (2147483650, 2147483650)), (606209, (2147483648, 2147483648)), (589834, (2147483648, 2147484048)), (589832, (2147483648, 2147484048)), (589833, (2147483647, 2147483647))])], 10)
theorem hct_boardLine_1_8 : z_ctH zTb ct_boardLine_1_8 := z_ct_ok [(36, 8, 8), (36, 9, 9), (36, 10, 10), (37, 1, 2)] z_hds_ok [ct_isKin, ct_rests0, ct_wrong1, ct_figures0, ct_figures_0_3, ct_figures_2_8, ct_figures_1_3, ct_figures_0_2, ct_figures_0_9, ct_has_112, ct_has_113, ct_has_114, ct_has_115, ct_has_116, ct_has_117, ct_has_118, ct_figures_t8, ct_lineTold, ct_isSquare] [] 8 2 (List.forall_mem_cons.mpr ⟨hct_isKin, List.forall_mem_cons.mpr ⟨hct_rests0, List.forall_mem_cons.mpr ⟨hct_wrong1, List.forall_mem_cons.mpr ⟨hct_figures0, List.forall_mem_cons.mpr ⟨hct_figures_0_3, List.forall_mem_cons.mpr ⟨hct_figures_2_8, List.forall_mem_cons.mpr ⟨hct_figures_1_3, List.forall_mem_cons.mpr ⟨hct_figures_0_2, List.forall_mem_cons.mpr ⟨hct_figures_0_9, List.forall_mem_cons.mpr ⟨hct_has_112, List.forall_mem_cons.mpr ⟨hct_has_113, List.forall_mem_cons.mpr ⟨hct_has_114, List.forall_mem_cons.mpr ⟨hct_has_115, List.forall_mem_cons.mpr ⟨hct_has_116, List.forall_mem_cons.mpr ⟨hct_has_117, List.forall_mem_cons.mpr ⟨hct_has_118, List.forall_mem_cons.mpr ⟨hct_figures_t8, List.forall_mem_cons.mpr ⟨hct_lineTold, List.forall_mem_cons.mpr ⟨hct_isSquare, fun _ h => absurd h List.not_mem_nil⟩⟩⟩⟩⟩⟩⟩⟩⟩⟩⟩⟩⟩⟩⟩⟩⟩⟩⟩) (by decide +kernel)
def ct_boardLine_2_8 : zCt := (209, [.inr (.inr (36, 0))], [(589833, (2147483647, 2147483647)), (606209, (2147483650, 2147483650)), (606210, (2147483656, 2147483656))], [(36, 8, 8), (36, 9, 9), (36, 10, 10), (37, 1, 6), (37, 10, 17), (37, 18, 43)], [.inl (none, [(606210, (2147483656, 2147483656)), (606209, (2147483651, 2147483651)), (589834, (2147483648, 2147484048)), (589832, (2147483648, 2147484048)), (589833, (2147483647, 2147483647))]), .inl (none, [(606209, (2147483650, 2147483650)), (606210, (2147483656, 2147483656)), (589833, (2147483648, 2147484048))]), .inl (none, [(606210, (2147483652, 2147483652)), (606209, (2147483651, 2147483651)), (589834, (2147483648, 2147484048)), (589832, (2147483648, 2147484048)), (589833, (2147483647, 2147483647))]), .inl (none, [(606210, (2147483650, 2147483650)), (606209, (2147483651, 2147483651)), (589834, (2147483648, 2147484048)), (589832, (2147483648, 2147484048)), (589833, (2147483647, 2147483647))]), .inl (none, [(606209, (2147483650, 2147483650)), (606210, (2147483656, 2147483656)), (589834, (2147483648, 2147484048)), (589832, (2147483648, 2147484048)), (589833, (2147483647, 2147483647))]), .inl (none, [(606210, (2147483656, 2147483656)), (606209, (2147483649, 2147483649)), (589834, (2147483648, 2147484048)), (589832, (2147483648, 2147484048)), (589833, (2147483647, 2147483647))]), .inl (none, [(606210, (2147483654, 2147483654)), (606209, (2147483649, 2147483649)), (589834, (2147483648, 2147484048)), (589832, (2147483648, 2147484048)), (589833, (2147483647, 2147483647))]), .inl (none, [(606210, (2147483652, 2147483652)), (606209, (2147483649, 2147483649)), (589834, (2147483648, 2147484048)), (589832, (2147483648, 2147484048)), (589833, (2147483647, 2147483647))]), .inl (none, [(606210, (2147483656, 2147483656)), (606209, (2147483648, 2147483648)), (589834, (2147483648, 2147484048)), (589832, (2147483648, 2147484048)), (589833, (2147483647, 2147483647))]), .inl (none, [(606210, (2147483655, 2147483655)), (606209, (2147483648, 2147483648)), (589834, (2147483648, 2147484048)), (589832, (2147483648, 2147484048)), (589833, (2147483647, 2147483647))]), .inl (none, [(606210, (2147483654, 2147483654)), (606209, (2147483648, 2147483648)), (589834, (2147483648, 2147484048)), (589832, (2147483648, 2147484048)), (589833, (2147483647, 2147483647))]), .inl (none, [(606210, (2147483653, 2147483653)), (606209, (2147483648, 2147483648)), (589834, (2147483648, 2147484048)), (589832, (2147483648, 2147484048)), (589833, (2147483647, 2147483647))]), .inl (none, [(606210, (2147483652, 2147483652)), (606209, (2147483648, 2147483648)), (589834, (2147483648, 2147484048)), (589832, (2147483648, 2147484048)), (589833, (2147483647, 2147483647))]), .inl (none, [(606210, (2147483651, 2147483651)), (606209, (2147483648, 2147483648)), (589834, (2147483648, 2147484048)), (589832, (2147483648, 2147484048)), (589833, (2147483647, 2147483647))]), .inl (none, [(606210, (2147483650, 2147483650)), (606209, (2147483648, 2147483648)), (589834, (2147483648, 2147484048)), (589832, (2147483648, 2147484048)), (589833, (2147483647, 2147483647))])], 10)
theorem hct_boardLine_2_8 : z_ctH zTb ct_boardLine_2_8 := z_ct_ok [(36, 8, 8), (36, 9, 9), (36, 10, 10), (37, 1, 2)] z_hds_ok [ct_isKin, ct_rests0, ct_wrong1, ct_figures0, ct_figures_0_3, ct_figures_2_8, ct_figures_1_3, ct_figures_0_2, ct_figures_0_9, ct_has_112, ct_has_113, ct_has_114, ct_has_115, ct_has_116, ct_has_117, ct_has_118, ct_figures_t8, ct_lineTold, ct_isSquare] [] 8 2 (List.forall_mem_cons.mpr ⟨hct_isKin, List.forall_mem_cons.mpr ⟨hct_rests0, List.forall_mem_cons.mpr ⟨hct_wrong1, List.forall_mem_cons.mpr ⟨hct_figures0, List.forall_mem_cons.mpr ⟨hct_figures_0_3, List.forall_mem_cons.mpr ⟨hct_figures_2_8, List.forall_mem_cons.mpr ⟨hct_figures_1_3, List.forall_mem_cons.mpr ⟨hct_figures_0_2, List.forall_mem_cons.mpr ⟨hct_figures_0_9, List.forall_mem_cons.mpr ⟨hct_has_112, List.forall_mem_cons.mpr ⟨hct_has_113, List.forall_mem_cons.mpr ⟨hct_has_114, List.forall_mem_cons.mpr ⟨hct_has_115, List.forall_mem_cons.mpr ⟨hct_has_116, List.forall_mem_cons.mpr ⟨hct_has_117, List.forall_mem_cons.mpr ⟨hct_has_118, List.forall_mem_cons.mpr ⟨hct_figures_t8, List.forall_mem_cons.mpr ⟨hct_lineTold, List.forall_mem_cons.mpr ⟨hct_isSquare, fun _ h => absurd h List.not_mem_nil⟩⟩⟩⟩⟩⟩⟩⟩⟩⟩⟩⟩⟩⟩⟩⟩⟩⟩⟩) (by decide +kernel)
def ct_boardLine_3_2 : zCt := (209, [.inr (.inr (36, 0))], [(589833, (2147483647, 2147483647)), (606209, (2147483651, 2147483651)), (606210, (2147483650, 2147483650))], [(36, 8, 8), (36, 9, 9), (36, 10, 10), (37, 1, 6), (37, 10, 17), (37, 18, 43)], [.inl (none, [(606210, (2147483656, 2147483656)), (606209, (2147483651, 2147483651)), (589834, (2147483648, 2147484048)), (589832, (2147483648, 2147484048)), (589833, (2147483647, 2147483647))]), .inl (none, [(606209, (2147483651, 2147483651)), (606210, (2147483650, 2147483650)), (589833, (2147483648, 2147484048))]), .inl (none, [(606210, (2147483652, 2147483652)), (606209, (2147483651, 2147483651)), (589834, (2147483648, 2147484048)), (589832, (2147483648, 2147484048)), (589833, (2147483647, 2147483647))]), .inl (none, [(606209, (2147483651, 2147483651)), (606210, (2147483650, 2147483650)), (589834, (2147483648, 2147484048)), (589832, (2147483648, 2147484048)), (589833, (2147483647, 2147483647))]), .inl (none, [(606210, (2147483656, 2147483656)), (606209, (2147483650, 2147483650)), (589834, (2147483648, 2147484048)), (589832, (2147483648, 2147484048)), (589833, (2147483647, 2147483647))]), .inl (none, [(606210, (2147483656, 2147483656)), (606209, (2147483649, 2147483649)), (589834, (2147483648, 2147484048)), (589832, (2147483648, 2147484048)), (589833, (2147483647, 2147483647))]), .inl (none, [(606210, (2147483654, 2147483654)), (606209, (2147483649, 2147483649)), (589834, (2147483648, 2147484048)), (589832, (2147483648, 2147484048)), (589833, (2147483647, 2147483647))]), .inl (none, [(606210, (2147483652, 2147483652)), (606209, (2147483649, 2147483649)), (589834, (2147483648, 2147484048)), (589832, (2147483648, 2147484048)), (589833, (2147483647, 2147483647))]), .inl (none, [(606210, (2147483656, 2147483656)), (606209, (2147483648, 2147483648)), (589834, (2147483648, 2147484048)), (589832, (2147483648, 2147484048)), (589833, (2147483647, 2147483647))]), .inl (none, [(606210, (2147483655, 2147483655)), (606209, (2147483648, 2147483648)), (589834, (2147483648, 2147484048)), (589832, (2147483648, 2147484048)), (589833, (2147483647, 2147483647))]), .inl (none, [(606210, (2147483654, 2147483654)), (606209, (2147483648, 2147483648)), (589834, (2147483648, 2147484048)), (589832, (2147483648, 2147484048)), (589833, (2147483647, 2147483647))]), .inl (none, [(606210, (2147483653, 2147483653)), (606209, (2147483648, 2147483648)), (589834, (2147483648, 2147484048)), (589832, (2147483648, 2147484048)), (589833, (2147483647, 2147483647))]), .inl (none, [(606210, (2147483652, 2147483652)), (606209, (2147483648, 2147483648)), (589834, (2147483648, 2147484048)), (589832, (2147483648, 2147484048)), (589833, (2147483647, 2147483647))]), .inl (none, [(606210, (2147483651, 2147483651)), (606209, (2147483648, 2147483648)), (589834, (2147483648, 2147484048)), (589832, (2147483648, 2147484048)), (589833, (2147483647, 2147483647))]), .inl (none, [(606210, (2147483650, 2147483650)), (606209, (2147483648, 2147483648)), (589834, (2147483648, 2147484048)), (589832, (2147483648, 2147484048)), (589833, (2147483647, 2147483647))])], 10)
theorem hct_boardLine_3_2 : z_ctH zTb ct_boardLine_3_2 := z_ct_ok [(36, 8, 8), (36, 9, 9), (36, 10, 10), (37, 1, 2)] z_hds_ok [ct_isKin, ct_rests0, ct_wrong1, ct_figures0, ct_figures_0_3, ct_figures_2_8, ct_figures_1_3, ct_figures_0_2, ct_figures_0_9, ct_has_112, ct_has_113, ct_has_114, ct_has_115, ct_has_116, ct_has_117, ct_has_118, ct_figures_t2, ct_lineTold, ct_isSquare] [] 8 2 (List.forall_mem_cons.mpr ⟨hct_isKin, List.forall_mem_cons.mpr ⟨hct_rests0, List.forall_mem_cons.mpr ⟨hct_wrong1, List.forall_mem_cons.mpr ⟨hct_figures0, List.forall_mem_cons.mpr ⟨hct_figures_0_3, List.forall_mem_cons.mpr ⟨hct_figures_2_8, List.forall_mem_cons.mpr ⟨hct_figures_1_3, List.forall_mem_cons.mpr ⟨hct_figures_0_2, List.forall_mem_cons.mpr ⟨hct_figures_0_9, List.forall_mem_cons.mpr ⟨hct_has_112, List.forall_mem_cons.mpr ⟨hct_has_113, List.forall_mem_cons.mpr ⟨hct_has_114, List.forall_mem_cons.mpr ⟨hct_has_115, List.forall_mem_cons.mpr ⟨hct_has_116, List.forall_mem_cons.mpr ⟨hct_has_117, List.forall_mem_cons.mpr ⟨hct_has_118, List.forall_mem_cons.mpr ⟨hct_figures_t2, List.forall_mem_cons.mpr ⟨hct_lineTold, List.forall_mem_cons.mpr ⟨hct_isSquare, fun _ h => absurd h List.not_mem_nil⟩⟩⟩⟩⟩⟩⟩⟩⟩⟩⟩⟩⟩⟩⟩⟩⟩⟩⟩) (by decide +kernel)
def ct_boardLine_3_4 : zCt := (209, [.inr (.inr (36, 0))], [(589833, (2147483647, 2147483647)), (606209, (2147483651, 2147483651)), (606210, (2147483652, 2147483652))], [(36, 8, 8), (36, 9, 9), (36, 10, 10), (37, 1, 6), (37, 10, 17), (37, 18, 43)], [.inl (none, [(606210, (2147483656, 2147483656)), (606209, (2147483651, 2147483651)), (589834, (2147483648, 2147484048)), (589832, (2147483648, 2147484048)), (589833, (2147483647, 2147483647))]), .inl (none, [(606209, (2147483651, 2147483651)), (606210, (2147483652, 2147483652)), (589833, (2147483648, 2147484048))]), .inl (none, [(606209, (2147483651, 2147483651)), (606210, (2147483652, 2147483652)), (589834, (2147483648, 2147484048)), (589832, (2147483648, 2147484048)), (589833, (2147483647, 2147483647))]), .inl (none, [(606210, (2147483650, 2147483650)), (606209, (2147483651, 2147483651)), (589834, (2147483648, 2147484048)), (589832, (2147483648, 2147484048)), (589833, (2147483647, 2147483647))]), .inl (none, [(606210, (2147483656, 2147483656)), (606209, (2147483650, 2147483650)), (589834, (2147483648, 2147484048)), (589832, (2147483648, 2147484048)), (589833, (2147483647, 2147483647))]), .inl (none, [(606210, (2147483656, 2147483656)), (606209, (2147483649, 2147483649)), (589834, (2147483648, 2147484048)), (589832, (2147483648, 2147484048)), (589833, (2147483647, 2147483647))]), .inl (none, [(606210, (2147483654, 2147483654)), (606209, (2147483649, 2147483649)), (589834, (2147483648, 2147484048)), (589832, (2147483648, 2147484048)), (589833, (2147483647, 2147483647))]), .inl (none, [(606210, (2147483652, 2147483652)), (606209, (2147483649, 2147483649)), (589834, (2147483648, 2147484048)), (589832, (2147483648, 2147484048)), (589833, (2147483647, 2147483647))]), .inl (none, [(606210, (2147483656, 2147483656)), (606209, (2147483648, 2147483648)), (589834, (2147483648, 2147484048)), (589832, (2147483648, 2147484048)), (589833, (2147483647, 2147483647))]), .inl (none, [(606210, (2147483655, 2147483655)), (606209, (2147483648, 2147483648)), (589834, (2147483648, 2147484048)), (589832, (2147483648, 2147484048)), (589833, (2147483647, 2147483647))]), .inl (none, [(606210, (2147483654, 2147483654)), (606209, (2147483648, 2147483648)), (589834, (2147483648, 2147484048)), (589832, (2147483648, 2147484048)), (589833, (2147483647, 2147483647))]), .inl (none, [(606210, (2147483653, 2147483653)), (606209, (2147483648, 2147483648)), (589834, (2147483648, 2147484048)), (589832, (2147483648, 2147484048)), (589833, (2147483647, 2147483647))]), .inl (none, [(606210, (2147483652, 2147483652)), (606209, (2147483648, 2147483648)), (589834, (2147483648, 2147484048)), (589832, (2147483648, 2147484048)), (589833, (2147483647, 2147483647))]), .inl (none, [(606210, (2147483651, 2147483651)), (606209, (2147483648, 2147483648)), (589834, (2147483648, 2147484048)), (589832, (2147483648, 2147484048)), (589833, (2147483647, 2147483647))]), .inl (none, [(606210, (2147483650, 2147483650)), (606209, (2147483648, 2147483648)), (589834, (2147483648, 2147484048)), (589832, (2147483648, 2147484048)), (589833, (2147483647, 2147483647))])], 10)
theorem hct_boardLine_3_4 : z_ctH zTb ct_boardLine_3_4 := z_ct_ok [(36, 8, 8), (36, 9, 9), (36, 10, 10), (37, 1, 2)] z_hds_ok [ct_isKin, ct_rests0, ct_wrong1, ct_figures0, ct_figures_0_3, ct_figures_2_8, ct_figures_1_3, ct_figures_0_2, ct_figures_0_9, ct_has_112, ct_has_113, ct_has_114, ct_has_115, ct_has_116, ct_has_117, ct_has_118, ct_lineTold, ct_isSquare] [] 8 2 (List.forall_mem_cons.mpr ⟨hct_isKin, List.forall_mem_cons.mpr ⟨hct_rests0, List.forall_mem_cons.mpr ⟨hct_wrong1, List.forall_mem_cons.mpr ⟨hct_figures0, List.forall_mem_cons.mpr ⟨hct_figures_0_3, List.forall_mem_cons.mpr ⟨hct_figures_2_8, List.forall_mem_cons.mpr ⟨hct_figures_1_3, List.forall_mem_cons.mpr ⟨hct_figures_0_2, List.forall_mem_cons.mpr ⟨hct_figures_0_9, List.forall_mem_cons.mpr ⟨hct_has_112, List.forall_mem_cons.mpr ⟨hct_has_113, List.forall_mem_cons.mpr ⟨hct_has_114, List.forall_mem_cons.mpr ⟨hct_has_115, List.forall_mem_cons.mpr ⟨hct_has_116, List.forall_mem_cons.mpr ⟨hct_has_117, List.forall_mem_cons.mpr ⟨hct_has_118, List.forall_mem_cons.mpr ⟨hct_lineTold, List.forall_mem_cons.mpr ⟨hct_isSquare, fun _ h => absurd h List.not_mem_nil⟩⟩⟩⟩⟩⟩⟩⟩⟩⟩⟩⟩⟩⟩⟩⟩⟩⟩) (by decide +kernel)
def ct_boardLine_3_8 : zCt := (209, [.inr (.inr (36, 0))], [(589833, (2147483647, 2147483647)), (606209, (2147483651, 2147483651)), (606210, (2147483656, 2147483656))], [(36, 8, 8), (36, 9, 9), (36, 10, 10), (37, 1, 6), (37, 10, 17), (37, 18, 43)], [.inl (none, [(606209, (2147483651, 2147483651)), (606210, (2147483656, 2147483656)), (589834, (2147483648, 2147484048)), (589832, (2147483648, 2147484048)), (589833, (2147483647, 2147483647))]), .inl (none, [(606209, (2147483651, 2147483651)), (606210, (2147483656, 2147483656)), (589833, (2147483648, 2147484048))]), .inl (none, [(606210, (2147483652, 2147483652)), (606209, (2147483651, 2147483651)), (589834, (2147483648, 2147484048)), (589832, (2147483648, 2147484048)), (589833, (2147483647, 2147483647))]), .inl (none, [(606210, (2147483650, 2147483650)), (606209, (2147483651, 2147483651)), (589834, (2147483648, 2147484048)), (589832, (2147483648, 2147484048)), (589833, (2147483647, 2147483647))]), .inl (none, [(606210, (2147483656, 2147483656)), (606209, (2147483650, 2147483650)), (589834, (2147483648, 2147484048)), (589832, (2147483648, 2147484048)), (589833, (2147483647, 2147483647))]), .inl (none, [(606210, (2147483656, 2147483656)), (606209, (2147483649, 2147483649)), (589834, (2147483648, 2147484048)), (589832, (2147483648, 2147484048)), (589833, (2147483647, 2147483647))]), .inl (none, [(606210, (2147483654, 2147483654)), (606209, (2147483649, 2147483649)), (589834, (2147483648, 2147484048)), (589832, (2147483648, 2147484048)), (589833, (2147483647, 2147483647))]), .inl (none, [(606210, (2147483652, 2147483652)), (606209, (2147483649, 2147483649)), (589834, (2147483648, 2147484048)), (589832, (2147483648, 2147484048)), (589833, (2147483647, 2147483647))]), .inl (none, [(606210, (2147483656, 2147483656)), (606209, (2147483648, 2147483648)), (589834, (2147483648, 2147484048)), (589832, (2147483648, 2147484048)), (589833, (2147483647, 2147483647))]), .inl (none, [(606210, (2147483655, 2147483655)), (606209, (2147483648, 2147483648)), (589834, (2147483648, 2147484048)), (589832, (2147483648, 2147484048)), (589833, (2147483647, 2147483647))]), .inl (none, [(606210, (2147483654, 2147483654)), (606209, (2147483648, 2147483648)), (589834, (2147483648, 2147484048)), (589832, (2147483648, 2147484048)), (589833, (2147483647, 2147483647))]), .inl (none, [(606210, (2147483653, 2147483653)), (606209, (2147483648, 2147483648)), (589834, (2147483648, 2147484048)), (589832, (2147483648, 2147484048)), (589833, (2147483647, 2147483647))]), .inl (none, [(606210, (2147483652, 2147483652)), (606209, (2147483648, 2147483648)), (589834, (2147483648, 2147484048)), (589832, (2147483648, 2147484048)), (589833, (2147483647, 2147483647))]), .inl (none, [(606210, (2147483651, 2147483651)), (606209, (2147483648, 2147483648)), (589834, (2147483648, 2147484048)), (589832, (2147483648, 2147484048)), (589833, (2147483647, 2147483647))]), .inl (none, [(606210, (2147483650, 2147483650)), (606209, (2147483648, 2147483648)), (589834, (2147483648, 2147484048)), (589832, (2147483648, 2147484048)), (589833, (2147483647, 2147483647))])], 10)
theorem hct_boardLine_3_8 : z_ctH zTb ct_boardLine_3_8 := z_ct_ok [(36, 8, 8), (36, 9, 9), (36, 10, 10), (37, 1, 2)] z_hds_ok [ct_isKin, ct_rests0, ct_wrong1, ct_figures0, ct_figures_0_3, ct_figures_2_8, ct_figures_1_3, ct_figures_0_2, ct_figures_0_9, ct_has_112, ct_has_113, ct_has_114, ct_has_115, ct_has_116, ct_has_117, ct_has_118, ct_figures_t8, ct_lineTold, ct_isSquare] [] 8 2 (List.forall_mem_cons.mpr ⟨hct_isKin, List.forall_mem_cons.mpr ⟨hct_rests0, List.forall_mem_cons.mpr ⟨hct_wrong1, List.forall_mem_cons.mpr ⟨hct_figures0, List.forall_mem_cons.mpr ⟨hct_figures_0_3, List.forall_mem_cons.mpr ⟨hct_figures_2_8, List.forall_mem_cons.mpr ⟨hct_figures_1_3, List.forall_mem_cons.mpr ⟨hct_figures_0_2, List.forall_mem_cons.mpr ⟨hct_figures_0_9, List.forall_mem_cons.mpr ⟨hct_has_112, List.forall_mem_cons.mpr ⟨hct_has_113, List.forall_mem_cons.mpr ⟨hct_has_114, List.forall_mem_cons.mpr ⟨hct_has_115, List.forall_mem_cons.mpr ⟨hct_has_116, List.forall_mem_cons.mpr ⟨hct_has_117, List.forall_mem_cons.mpr ⟨hct_has_118, List.forall_mem_cons.mpr ⟨hct_figures_t8, List.forall_mem_cons.mpr ⟨hct_lineTold, List.forall_mem_cons.mpr ⟨hct_isSquare, fun _ h => absurd h List.not_mem_nil⟩⟩⟩⟩⟩⟩⟩⟩⟩⟩⟩⟩⟩⟩⟩⟩⟩⟩⟩) (by decide +kernel)
def ct_against_0_2_0 : zCt := (181, [.inr (.inr (36, 0)), .inl (2147483648, 2147483648)], [(606209, (2147483648, 2147483648)), (606210, (2147483650, 2147483650))], [], [.inl (some (.inl (2147483648, 2147483648)), [])], 2)
theorem hct_against_0_2_0 : z_ctH zTb ct_against_0_2_0 := hz_against (k := 0) (o := 2) (a := 0) (L := 0) (by decide) (by decide) (by decide +kernel)
def ct_against_0_2_1 : zCt := (181, [.inr (.inr (36, 0)), .inl (2147483649, 2147483649)], [(606209, (2147483648, 2147483648)), (606210, (2147483650, 2147483650))], [], [.inl (some (.inl (2147483649, 2147483649)), [])], 2)
theorem hct_against_0_2_1 : z_ctH zTb ct_against_0_2_1 := hz_against (k := 0) (o := 2) (a := 1) (L := 1) (by decide) (by decide) (by decide +kernel)
def ct_against_0_3_0 : zCt := (181, [.inr (.inr (36, 0)), .inl (2147483648, 2147483648)], [(606209, (2147483648, 2147483648)), (606210, (2147483651, 2147483651))], [], [.inl (some (.inl (2147483648, 2147483648)), [])], 2)
theorem hct_against_0_3_0 : z_ctH zTb ct_against_0_3_0 := hz_against (k := 0) (o := 3) (a := 0) (L := 0) (by decide) (by decide) (by decide +kernel)
def ct_against_0_3_1 : zCt := (181, [.inr (.inr (36, 0)), .inl (2147483649, 2147483649)], [(606209, (2147483648, 2147483648)), (606210, (2147483651, 2147483651))], [], [.inl (some (.inl (2147483650, 2147483650)), [])], 2)
theorem hct_against_0_3_1 : z_ctH zTb ct_against_0_3_1 := hz_against (k := 0) (o := 3) (a := 1) (L := 2) (by decide) (by decide) (by decide +kernel)
def ct_against_0_3_2 : zCt := (181, [.inr (.inr (36, 0)), .inl (2147483650, 2147483650)], [(606209, (2147483648, 2147483648)), (606210, (2147483651, 2147483651))], [], [.inl (some (.inl (2147483649, 2147483649)), [])], 2)
theorem hct_against_0_3_2 : z_ctH zTb ct_against_0_3_2 := hz_against (k := 0) (o := 3) (a := 2) (L := 1) (by decide) (by decide) (by decide +kernel)
def ct_against_0_4_0 : zCt := (181, [.inr (.inr (36, 0)), .inl (2147483648, 2147483648)], [(606209, (2147483648, 2147483648)), (606210, (2147483652, 2147483652))], [], [.inl (some (.inl (2147483648, 2147483648)), [])], 2)
theorem hct_against_0_4_0 : z_ctH zTb ct_against_0_4_0 := hz_against (k := 0) (o := 4) (a := 0) (L := 0) (by decide) (by decide) (by decide +kernel)
def ct_against_0_4_1 : zCt := (181, [.inr (.inr (36, 0)), .inl (2147483649, 2147483649)], [(606209, (2147483648, 2147483648)), (606210, (2147483652, 2147483652))], [], [.inl (some (.inl (2147483651, 2147483651)), [])], 2)
theorem hct_against_0_4_1 : z_ctH zTb ct_against_0_4_1 := hz_against (k := 0) (o := 4) (a := 1) (L := 3) (by decide) (by decide) (by decide +kernel)
def ct_against_0_4_2 : zCt := (181, [.inr (.inr (36, 0)), .inl (2147483650, 2147483650)], [(606209, (2147483648, 2147483648)), (606210, (2147483652, 2147483652))], [], [.inl (some (.inl (2147483650, 2147483650)), [])], 2)
theorem hct_against_0_4_2 : z_ctH zTb ct_against_0_4_2 := hz_against (k := 0) (o := 4) (a := 2) (L := 2) (by decide) (by decide) (by decide +kernel)
def ct_against_0_4_3 : zCt := (181, [.inr (.inr (36, 0)), .inl (2147483651, 2147483651)], [(606209, (2147483648, 2147483648)), (606210, (2147483652, 2147483652))], [], [.inl (some (.inl (2147483649, 2147483649)), [])], 2)
theorem hct_against_0_4_3 : z_ctH zTb ct_against_0_4_3 := hz_against (k := 0) (o := 4) (a := 3) (L := 1) (by decide) (by decide) (by decide +kernel)
def ct_against_0_5_0 : zCt := (181, [.inr (.inr (36, 0)), .inl (2147483648, 2147483648)], [(606209, (2147483648, 2147483648)), (606210, (2147483653, 2147483653))], [], [.inl (some (.inl (2147483648, 2147483648)), [])], 2)
theorem hct_against_0_5_0 : z_ctH zTb ct_against_0_5_0 := hz_against (k := 0) (o := 5) (a := 0) (L := 0) (by decide) (by decide) (by decide +kernel)
def ct_against_0_5_1 : zCt := (181, [.inr (.inr (36, 0)), .inl (2147483649, 2147483649)], [(606209, (2147483648, 2147483648)), (606210, (2147483653, 2147483653))], [], [.inl (some (.inl (2147483652, 2147483652)), [])], 2)
theorem hct_against_0_5_1 : z_ctH zTb ct_against_0_5_1 := hz_against (k := 0) (o := 5) (a := 1) (L := 4) (by decide) (by decide) (by decide +kernel)
def ct_against_0_5_2 : zCt := (181, [.inr (.inr (36, 0)), .inl (2147483650, 2147483650)], [(606209, (2147483648, 2147483648)), (606210, (2147483653, 2147483653))], [], [.inl (some (.inl (2147483651, 2147483651)), [])], 2)
theorem hct_against_0_5_2 : z_ctH zTb ct_against_0_5_2 := hz_against (k := 0) (o := 5) (a := 2) (L := 3) (by decide) (by decide) (by decide +kernel)
def ct_against_0_5_3 : zCt := (181, [.inr (.inr (36, 0)), .inl (2147483651, 2147483651)], [(606209, (2147483648, 2147483648)), (606210, (2147483653, 2147483653))], [], [.inl (some (.inl (2147483650, 2147483650)), [])], 2)
theorem hct_against_0_5_3 : z_ctH zTb ct_against_0_5_3 := hz_against (k := 0) (o := 5) (a := 3) (L := 2) (by decide) (by decide) (by decide +kernel)
def ct_against_0_5_4 : zCt := (181, [.inr (.inr (36, 0)), .inl (2147483652, 2147483652)], [(606209, (2147483648, 2147483648)), (606210, (2147483653, 2147483653))], [], [.inl (some (.inl (2147483649, 2147483649)), [])], 2)
theorem hct_against_0_5_4 : z_ctH zTb ct_against_0_5_4 := hz_against (k := 0) (o := 5) (a := 4) (L := 1) (by decide) (by decide) (by decide +kernel)
def ct_against_0_6_0 : zCt := (181, [.inr (.inr (36, 0)), .inl (2147483648, 2147483648)], [(606209, (2147483648, 2147483648)), (606210, (2147483654, 2147483654))], [], [.inl (some (.inl (2147483648, 2147483648)), [])], 2)
theorem hct_against_0_6_0 : z_ctH zTb ct_against_0_6_0 := hz_against (k := 0) (o := 6) (a := 0) (L := 0) (by decide) (by decide) (by decide +kernel)
def ct_against_0_6_1 : zCt := (181, [.inr (.inr (36, 0)), .inl (2147483649, 2147483649)], [(606209, (2147483648, 2147483648)), (606210, (2147483654, 2147483654))], [], [.inl (some (.inl (2147483653, 2147483653)), [])], 2)
theorem hct_against_0_6_1 : z_ctH zTb ct_against_0_6_1 := hz_against (k := 0) (o := 6) (a := 1) (L := 5) (by decide) (by decide) (by decide +kernel)
def ct_against_0_6_2 : zCt := (181, [.inr (.inr (36, 0)), .inl (2147483650, 2147483650)], [(606209, (2147483648, 2147483648)), (606210, (2147483654, 2147483654))], [], [.inl (some (.inl (2147483652, 2147483652)), [])], 2)
theorem hct_against_0_6_2 : z_ctH zTb ct_against_0_6_2 := hz_against (k := 0) (o := 6) (a := 2) (L := 4) (by decide) (by decide) (by decide +kernel)
def ct_against_0_6_3 : zCt := (181, [.inr (.inr (36, 0)), .inl (2147483651, 2147483651)], [(606209, (2147483648, 2147483648)), (606210, (2147483654, 2147483654))], [], [.inl (some (.inl (2147483651, 2147483651)), [])], 2)
theorem hct_against_0_6_3 : z_ctH zTb ct_against_0_6_3 := hz_against (k := 0) (o := 6) (a := 3) (L := 3) (by decide) (by decide) (by decide +kernel)
def ct_against_0_6_4 : zCt := (181, [.inr (.inr (36, 0)), .inl (2147483652, 2147483652)], [(606209, (2147483648, 2147483648)), (606210, (2147483654, 2147483654))], [], [.inl (some (.inl (2147483650, 2147483650)), [])], 2)
theorem hct_against_0_6_4 : z_ctH zTb ct_against_0_6_4 := hz_against (k := 0) (o := 6) (a := 4) (L := 2) (by decide) (by decide) (by decide +kernel)
def ct_against_0_6_5 : zCt := (181, [.inr (.inr (36, 0)), .inl (2147483653, 2147483653)], [(606209, (2147483648, 2147483648)), (606210, (2147483654, 2147483654))], [], [.inl (some (.inl (2147483649, 2147483649)), [])], 2)
theorem hct_against_0_6_5 : z_ctH zTb ct_against_0_6_5 := hz_against (k := 0) (o := 6) (a := 5) (L := 1) (by decide) (by decide) (by decide +kernel)
def ct_against_0_7_0 : zCt := (181, [.inr (.inr (36, 0)), .inl (2147483648, 2147483648)], [(606209, (2147483648, 2147483648)), (606210, (2147483655, 2147483655))], [], [.inl (some (.inl (2147483648, 2147483648)), [])], 2)
theorem hct_against_0_7_0 : z_ctH zTb ct_against_0_7_0 := hz_against (k := 0) (o := 7) (a := 0) (L := 0) (by decide) (by decide) (by decide +kernel)
def ct_against_0_7_1 : zCt := (181, [.inr (.inr (36, 0)), .inl (2147483649, 2147483649)], [(606209, (2147483648, 2147483648)), (606210, (2147483655, 2147483655))], [], [.inl (some (.inl (2147483654, 2147483654)), [])], 2)
theorem hct_against_0_7_1 : z_ctH zTb ct_against_0_7_1 := hz_against (k := 0) (o := 7) (a := 1) (L := 6) (by decide) (by decide) (by decide +kernel)
def ct_against_0_7_2 : zCt := (181, [.inr (.inr (36, 0)), .inl (2147483650, 2147483650)], [(606209, (2147483648, 2147483648)), (606210, (2147483655, 2147483655))], [], [.inl (some (.inl (2147483653, 2147483653)), [])], 2)
theorem hct_against_0_7_2 : z_ctH zTb ct_against_0_7_2 := hz_against (k := 0) (o := 7) (a := 2) (L := 5) (by decide) (by decide) (by decide +kernel)
def ct_against_0_7_3 : zCt := (181, [.inr (.inr (36, 0)), .inl (2147483651, 2147483651)], [(606209, (2147483648, 2147483648)), (606210, (2147483655, 2147483655))], [], [.inl (some (.inl (2147483652, 2147483652)), [])], 2)
theorem hct_against_0_7_3 : z_ctH zTb ct_against_0_7_3 := hz_against (k := 0) (o := 7) (a := 3) (L := 4) (by decide) (by decide) (by decide +kernel)
def ct_against_0_7_4 : zCt := (181, [.inr (.inr (36, 0)), .inl (2147483652, 2147483652)], [(606209, (2147483648, 2147483648)), (606210, (2147483655, 2147483655))], [], [.inl (some (.inl (2147483651, 2147483651)), [])], 2)
theorem hct_against_0_7_4 : z_ctH zTb ct_against_0_7_4 := hz_against (k := 0) (o := 7) (a := 4) (L := 3) (by decide) (by decide) (by decide +kernel)
def ct_against_0_7_5 : zCt := (181, [.inr (.inr (36, 0)), .inl (2147483653, 2147483653)], [(606209, (2147483648, 2147483648)), (606210, (2147483655, 2147483655))], [], [.inl (some (.inl (2147483650, 2147483650)), [])], 2)
theorem hct_against_0_7_5 : z_ctH zTb ct_against_0_7_5 := hz_against (k := 0) (o := 7) (a := 5) (L := 2) (by decide) (by decide) (by decide +kernel)
def ct_against_0_7_6 : zCt := (181, [.inr (.inr (36, 0)), .inl (2147483654, 2147483654)], [(606209, (2147483648, 2147483648)), (606210, (2147483655, 2147483655))], [], [.inl (some (.inl (2147483649, 2147483649)), [])], 2)
theorem hct_against_0_7_6 : z_ctH zTb ct_against_0_7_6 := hz_against (k := 0) (o := 7) (a := 6) (L := 1) (by decide) (by decide) (by decide +kernel)
def ct_against_0_8_0 : zCt := (181, [.inr (.inr (36, 0)), .inl (2147483648, 2147483648)], [(606209, (2147483648, 2147483648)), (606210, (2147483656, 2147483656))], [], [.inl (some (.inl (2147483648, 2147483648)), [])], 2)
theorem hct_against_0_8_0 : z_ctH zTb ct_against_0_8_0 := hz_against (k := 0) (o := 8) (a := 0) (L := 0) (by decide) (by decide) (by decide +kernel)
def ct_against_0_8_1 : zCt := (181, [.inr (.inr (36, 0)), .inl (2147483649, 2147483649)], [(606209, (2147483648, 2147483648)), (606210, (2147483656, 2147483656))], [], [.inl (some (.inl (2147483655, 2147483655)), [])], 2)
theorem hct_against_0_8_1 : z_ctH zTb ct_against_0_8_1 := hz_against (k := 0) (o := 8) (a := 1) (L := 7) (by decide) (by decide) (by decide +kernel)
def ct_against_0_8_2 : zCt := (181, [.inr (.inr (36, 0)), .inl (2147483650, 2147483650)], [(606209, (2147483648, 2147483648)), (606210, (2147483656, 2147483656))], [], [.inl (some (.inl (2147483654, 2147483654)), [])], 2)
theorem hct_against_0_8_2 : z_ctH zTb ct_against_0_8_2 := hz_against (k := 0) (o := 8) (a := 2) (L := 6) (by decide) (by decide) (by decide +kernel)
def ct_against_0_8_3 : zCt := (181, [.inr (.inr (36, 0)), .inl (2147483651, 2147483651)], [(606209, (2147483648, 2147483648)), (606210, (2147483656, 2147483656))], [], [.inl (some (.inl (2147483653, 2147483653)), [])], 2)
theorem hct_against_0_8_3 : z_ctH zTb ct_against_0_8_3 := hz_against (k := 0) (o := 8) (a := 3) (L := 5) (by decide) (by decide) (by decide +kernel)
def ct_against_0_8_4 : zCt := (181, [.inr (.inr (36, 0)), .inl (2147483652, 2147483652)], [(606209, (2147483648, 2147483648)), (606210, (2147483656, 2147483656))], [], [.inl (some (.inl (2147483652, 2147483652)), [])], 2)
theorem hct_against_0_8_4 : z_ctH zTb ct_against_0_8_4 := hz_against (k := 0) (o := 8) (a := 4) (L := 4) (by decide) (by decide) (by decide +kernel)
def ct_against_0_8_5 : zCt := (181, [.inr (.inr (36, 0)), .inl (2147483653, 2147483653)], [(606209, (2147483648, 2147483648)), (606210, (2147483656, 2147483656))], [], [.inl (some (.inl (2147483651, 2147483651)), [])], 2)
theorem hct_against_0_8_5 : z_ctH zTb ct_against_0_8_5 := hz_against (k := 0) (o := 8) (a := 5) (L := 3) (by decide) (by decide) (by decide +kernel)
def ct_against_0_8_6 : zCt := (181, [.inr (.inr (36, 0)), .inl (2147483654, 2147483654)], [(606209, (2147483648, 2147483648)), (606210, (2147483656, 2147483656))], [], [.inl (some (.inl (2147483650, 2147483650)), [])], 2)
theorem hct_against_0_8_6 : z_ctH zTb ct_against_0_8_6 := hz_against (k := 0) (o := 8) (a := 6) (L := 2) (by decide) (by decide) (by decide +kernel)
def ct_against_0_8_7 : zCt := (181, [.inr (.inr (36, 0)), .inl (2147483655, 2147483655)], [(606209, (2147483648, 2147483648)), (606210, (2147483656, 2147483656))], [], [.inl (some (.inl (2147483649, 2147483649)), [])], 2)
theorem hct_against_0_8_7 : z_ctH zTb ct_against_0_8_7 := hz_against (k := 0) (o := 8) (a := 7) (L := 1) (by decide) (by decide) (by decide +kernel)
def ct_against_1_4_0 : zCt := (181, [.inr (.inr (36, 0)), .inl (2147483648, 2147483648)], [(606209, (2147483649, 2147483649)), (606210, (2147483652, 2147483652))], [], [.inl (some (.inl (2147483648, 2147483648)), [])], 2)
theorem hct_against_1_4_0 : z_ctH zTb ct_against_1_4_0 := hz_against (k := 1) (o := 4) (a := 0) (L := 0) (by decide) (by decide) (by decide +kernel)
def ct_against_1_4_1 : zCt := (181, [.inr (.inr (36, 0)), .inl (2147483649, 2147483649)], [(606209, (2147483649, 2147483649)), (606210, (2147483652, 2147483652))], [], [.inl (some (.inl (2147483649, 2147483649)), [])], 2)
theorem hct_against_1_4_1 : z_ctH zTb ct_against_1_4_1 := hz_against (k := 1) (o := 4) (a := 1) (L := 1) (by decide) (by decide) (by decide +kernel)
def ct_against_1_4_2 : zCt := (181, [.inr (.inr (36, 0)), .inl (2147483650, 2147483650)], [(606209, (2147483649, 2147483649)), (606210, (2147483652, 2147483652))], [], [.inl (some (.inl (2147483650, 2147483650)), [])], 2)
theorem hct_against_1_4_2 : z_ctH zTb ct_against_1_4_2 := hz_against (k := 1) (o := 4) (a := 2) (L := 2) (by decide) (by decide) (by decide +kernel)
def ct_against_1_4_3 : zCt := (181, [.inr (.inr (36, 0)), .inl (2147483651, 2147483651)], [(606209, (2147483649, 2147483649)), (606210, (2147483652, 2147483652))], [], [.inl (some (.inl (2147483651, 2147483651)), [])], 2)
theorem hct_against_1_4_3 : z_ctH zTb ct_against_1_4_3 := hz_against (k := 1) (o := 4) (a := 3) (L := 3) (by decide) (by decide) (by decide +kernel)
def ct_against_1_6_0 : zCt := (181, [.inr (.inr (36, 0)), .inl (2147483648, 2147483648)], [(606209, (2147483649, 2147483649)), (606210, (2147483654, 2147483654))], [], [.inl (some (.inl (2147483648, 2147483648)), [])], 2)
theorem hct_against_1_6_0 : z_ctH zTb ct_against_1_6_0 := hz_against (k := 1) (o := 6) (a := 0) (L := 0) (by decide) (by decide) (by decide +kernel)
def ct_against_1_6_1 : zCt := (181, [.inr (.inr (36, 0)), .inl (2147483649, 2147483649)], [(606209, (2147483649, 2147483649)), (606210, (2147483654, 2147483654))], [], [.inl (some (.inl (2147483650, 2147483650)), [])], 2)
theorem hct_against_1_6_1 : z_ctH zTb ct_against_1_6_1 := hz_against (k := 1) (o := 6) (a := 1) (L := 2) (by decide) (by decide) (by decide +kernel)
def ct_against_1_6_2 : zCt := (181, [.inr (.inr (36, 0)), .inl (2147483650, 2147483650)], [(606209, (2147483649, 2147483649)), (606210, (2147483654, 2147483654))], [], [.inl (some (.inl (2147483649, 2147483649)), [])], 2)
theorem hct_against_1_6_2 : z_ctH zTb ct_against_1_6_2 := hz_against (k := 1) (o := 6) (a := 2) (L := 1) (by decide) (by decide) (by decide +kernel)
def ct_against_1_6_3 : zCt := (181, [.inr (.inr (36, 0)), .inl (2147483651, 2147483651)], [(606209, (2147483649, 2147483649)), (606210, (2147483654, 2147483654))], [], [.inl (some (.inl (2147483651, 2147483651)), [])], 2)
theorem hct_against_1_6_3 : z_ctH zTb ct_against_1_6_3 := hz_against (k := 1) (o := 6) (a := 3) (L := 3) (by decide) (by decide) (by decide +kernel)
def ct_against_1_6_4 : zCt := (181, [.inr (.inr (36, 0)), .inl (2147483652, 2147483652)], [(606209, (2147483649, 2147483649)), (606210, (2147483654, 2147483654))], [], [.inl (some (.inl (2147483652, 2147483652)), [])], 2)
theorem hct_against_1_6_4 : z_ctH zTb ct_against_1_6_4 := hz_against (k := 1) (o := 6) (a := 4) (L := 4) (by decide) (by decide) (by decide +kernel)
def ct_against_1_6_5 : zCt := (181, [.inr (.inr (36, 0)), .inl (2147483653, 2147483653)], [(606209, (2147483649, 2147483649)), (606210, (2147483654, 2147483654))], [], [.inl (some (.inl (2147483653, 2147483653)), [])], 2)
theorem hct_against_1_6_5 : z_ctH zTb ct_against_1_6_5 := hz_against (k := 1) (o := 6) (a := 5) (L := 5) (by decide) (by decide) (by decide +kernel)
def ct_against_1_8_0 : zCt := (181, [.inr (.inr (36, 0)), .inl (2147483648, 2147483648)], [(606209, (2147483649, 2147483649)), (606210, (2147483656, 2147483656))], [], [.inl (some (.inl (2147483648, 2147483648)), [])], 2)
theorem hct_against_1_8_0 : z_ctH zTb ct_against_1_8_0 := hz_against (k := 1) (o := 8) (a := 0) (L := 0) (by decide) (by decide) (by decide +kernel)
def ct_against_1_8_1 : zCt := (181, [.inr (.inr (36, 0)), .inl (2147483649, 2147483649)], [(606209, (2147483649, 2147483649)), (606210, (2147483656, 2147483656))], [], [.inl (some (.inl (2147483651, 2147483651)), [])], 2)
theorem hct_against_1_8_1 : z_ctH zTb ct_against_1_8_1 := hz_against (k := 1) (o := 8) (a := 1) (L := 3) (by decide) (by decide) (by decide +kernel)
def ct_against_1_8_2 : zCt := (181, [.inr (.inr (36, 0)), .inl (2147483650, 2147483650)], [(606209, (2147483649, 2147483649)), (606210, (2147483656, 2147483656))], [], [.inl (some (.inl (2147483650, 2147483650)), [])], 2)
theorem hct_against_1_8_2 : z_ctH zTb ct_against_1_8_2 := hz_against (k := 1) (o := 8) (a := 2) (L := 2) (by decide) (by decide) (by decide +kernel)
def ct_against_1_8_3 : zCt := (181, [.inr (.inr (36, 0)), .inl (2147483651, 2147483651)], [(606209, (2147483649, 2147483649)), (606210, (2147483656, 2147483656))], [], [.inl (some (.inl (2147483649, 2147483649)), [])], 2)
theorem hct_against_1_8_3 : z_ctH zTb ct_against_1_8_3 := hz_against (k := 1) (o := 8) (a := 3) (L := 1) (by decide) (by decide) (by decide +kernel)
def ct_against_1_8_4 : zCt := (181, [.inr (.inr (36, 0)), .inl (2147483652, 2147483652)], [(606209, (2147483649, 2147483649)), (606210, (2147483656, 2147483656))], [], [.inl (some (.inl (2147483652, 2147483652)), [])], 2)
theorem hct_against_1_8_4 : z_ctH zTb ct_against_1_8_4 := hz_against (k := 1) (o := 8) (a := 4) (L := 4) (by decide) (by decide) (by decide +kernel)
def ct_against_1_8_5 : zCt := (181, [.inr (.inr (36, 0)), .inl (2147483653, 2147483653)], [(606209, (2147483649, 2147483649)), (606210, (2147483656, 2147483656))], [], [.inl (some (.inl (2147483653, 2147483653)), [])], 2)
theorem hct_against_1_8_5 : z_ctH zTb ct_against_1_8_5 := hz_against (k := 1) (o := 8) (a := 5) (L := 5) (by decide) (by decide) (by decide +kernel)
def ct_against_1_8_6 : zCt := (181, [.inr (.inr (36, 0)), .inl (2147483654, 2147483654)], [(606209, (2147483649, 2147483649)), (606210, (2147483656, 2147483656))], [], [.inl (some (.inl (2147483654, 2147483654)), [])], 2)
theorem hct_against_1_8_6 : z_ctH zTb ct_against_1_8_6 := hz_against (k := 1) (o := 8) (a := 6) (L := 6) (by decide) (by decide) (by decide +kernel)
def ct_against_1_8_7 : zCt := (181, [.inr (.inr (36, 0)), .inl (2147483655, 2147483655)], [(606209, (2147483649, 2147483649)), (606210, (2147483656, 2147483656))], [], [.inl (some (.inl (2147483655, 2147483655)), [])], 2)
theorem hct_against_1_8_7 : z_ctH zTb ct_against_1_8_7 := hz_against (k := 1) (o := 8) (a := 7) (L := 7) (by decide) (by decide) (by decide +kernel)
def ct_against_2_8_0 : zCt := (181, [.inr (.inr (36, 0)), .inl (2147483648, 2147483648)], [(606209, (2147483650, 2147483650)), (606210, (2147483656, 2147483656))], [], [.inl (some (.inl (2147483648, 2147483648)), [])], 2)
theorem hct_against_2_8_0 : z_ctH zTb ct_against_2_8_0 := hz_against (k := 2) (o := 8) (a := 0) (L := 0) (by decide) (by decide) (by decide +kernel)
def ct_against_2_8_1 : zCt := (181, [.inr (.inr (36, 0)), .inl (2147483649, 2147483649)], [(606209, (2147483650, 2147483650)), (606210, (2147483656, 2147483656))], [], [.inl (some (.inl (2147483651, 2147483651)), [])], 2)
theorem hct_against_2_8_1 : z_ctH zTb ct_against_2_8_1 := hz_against (k := 2) (o := 8) (a := 1) (L := 3) (by decide) (by decide) (by decide +kernel)
def ct_against_2_8_2 : zCt := (181, [.inr (.inr (36, 0)), .inl (2147483650, 2147483650)], [(606209, (2147483650, 2147483650)), (606210, (2147483656, 2147483656))], [], [.inl (some (.inl (2147483650, 2147483650)), [])], 2)
theorem hct_against_2_8_2 : z_ctH zTb ct_against_2_8_2 := hz_against (k := 2) (o := 8) (a := 2) (L := 2) (by decide) (by decide) (by decide +kernel)
def ct_against_2_8_3 : zCt := (181, [.inr (.inr (36, 0)), .inl (2147483651, 2147483651)], [(606209, (2147483650, 2147483650)), (606210, (2147483656, 2147483656))], [], [.inl (some (.inl (2147483649, 2147483649)), [])], 2)
theorem hct_against_2_8_3 : z_ctH zTb ct_against_2_8_3 := hz_against (k := 2) (o := 8) (a := 3) (L := 1) (by decide) (by decide) (by decide +kernel)
def ct_against_2_8_4 : zCt := (181, [.inr (.inr (36, 0)), .inl (2147483652, 2147483652)], [(606209, (2147483650, 2147483650)), (606210, (2147483656, 2147483656))], [], [.inl (some (.inl (2147483654, 2147483654)), [])], 2)
theorem hct_against_2_8_4 : z_ctH zTb ct_against_2_8_4 := hz_against (k := 2) (o := 8) (a := 4) (L := 6) (by decide) (by decide) (by decide +kernel)
def ct_against_2_8_5 : zCt := (181, [.inr (.inr (36, 0)), .inl (2147483653, 2147483653)], [(606209, (2147483650, 2147483650)), (606210, (2147483656, 2147483656))], [], [.inl (some (.inl (2147483655, 2147483655)), [])], 2)
theorem hct_against_2_8_5 : z_ctH zTb ct_against_2_8_5 := hz_against (k := 2) (o := 8) (a := 5) (L := 7) (by decide) (by decide) (by decide +kernel)
def ct_against_2_8_6 : zCt := (181, [.inr (.inr (36, 0)), .inl (2147483654, 2147483654)], [(606209, (2147483650, 2147483650)), (606210, (2147483656, 2147483656))], [], [.inl (some (.inl (2147483652, 2147483652)), [])], 2)
theorem hct_against_2_8_6 : z_ctH zTb ct_against_2_8_6 := hz_against (k := 2) (o := 8) (a := 6) (L := 4) (by decide) (by decide) (by decide +kernel)
def ct_against_2_8_7 : zCt := (181, [.inr (.inr (36, 0)), .inl (2147483655, 2147483655)], [(606209, (2147483650, 2147483650)), (606210, (2147483656, 2147483656))], [], [.inl (some (.inl (2147483653, 2147483653)), [])], 2)
theorem hct_against_2_8_7 : z_ctH zTb ct_against_2_8_7 := hz_against (k := 2) (o := 8) (a := 7) (L := 5) (by decide) (by decide) (by decide +kernel)
def ct_against_3_2_0 : zCt := (181, [.inr (.inr (36, 0)), .inl (2147483648, 2147483648)], [(606209, (2147483651, 2147483651)), (606210, (2147483650, 2147483650))], [], [.inl (some (.inl (2147483648, 2147483648)), [])], 2)
theorem hct_against_3_2_0 : z_ctH zTb ct_against_3_2_0 := hz_against (k := 3) (o := 2) (a := 0) (L := 0) (by decide) (by decide) (by decide +kernel)
def ct_against_3_2_1 : zCt := (181, [.inr (.inr (36, 0)), .inl (2147483649, 2147483649)], [(606209, (2147483651, 2147483651)), (606210, (2147483650, 2147483650))], [], [.inl (some (.inl (2147483649, 2147483649)), [])], 2)
theorem hct_against_3_2_1 : z_ctH zTb ct_against_3_2_1 := hz_against (k := 3) (o := 2) (a := 1) (L := 1) (by decide) (by decide) (by decide +kernel)
def ct_against_3_4_0 : zCt := (181, [.inr (.inr (36, 0)), .inl (2147483648, 2147483648)], [(606209, (2147483651, 2147483651)), (606210, (2147483652, 2147483652))], [], [.inl (some (.inl (2147483648, 2147483648)), [])], 2)
theorem hct_against_3_4_0 : z_ctH zTb ct_against_3_4_0 := hz_against (k := 3) (o := 4) (a := 0) (L := 0) (by decide) (by decide) (by decide +kernel)
def ct_against_3_4_1 : zCt := (181, [.inr (.inr (36, 0)), .inl (2147483649, 2147483649)], [(606209, (2147483651, 2147483651)), (606210, (2147483652, 2147483652))], [], [.inl (some (.inl (2147483649, 2147483649)), [])], 2)
theorem hct_against_3_4_1 : z_ctH zTb ct_against_3_4_1 := hz_against (k := 3) (o := 4) (a := 1) (L := 1) (by decide) (by decide) (by decide +kernel)
def ct_against_3_4_2 : zCt := (181, [.inr (.inr (36, 0)), .inl (2147483650, 2147483650)], [(606209, (2147483651, 2147483651)), (606210, (2147483652, 2147483652))], [], [.inl (some (.inl (2147483650, 2147483650)), [])], 2)
theorem hct_against_3_4_2 : z_ctH zTb ct_against_3_4_2 := hz_against (k := 3) (o := 4) (a := 2) (L := 2) (by decide) (by decide) (by decide +kernel)
def ct_against_3_4_3 : zCt := (181, [.inr (.inr (36, 0)), .inl (2147483651, 2147483651)], [(606209, (2147483651, 2147483651)), (606210, (2147483652, 2147483652))], [], [.inl (some (.inl (2147483651, 2147483651)), [])], 2)
theorem hct_against_3_4_3 : z_ctH zTb ct_against_3_4_3 := hz_against (k := 3) (o := 4) (a := 3) (L := 3) (by decide) (by decide) (by decide +kernel)
def ct_against_3_8_0 : zCt := (181, [.inr (.inr (36, 0)), .inl (2147483648, 2147483648)], [(606209, (2147483651, 2147483651)), (606210, (2147483656, 2147483656))], [], [.inl (some (.inl (2147483648, 2147483648)), [])], 2)
theorem hct_against_3_8_0 : z_ctH zTb ct_against_3_8_0 := hz_against (k := 3) (o := 8) (a := 0) (L := 0) (by decide) (by decide) (by decide +kernel)
def ct_against_3_8_1 : zCt := (181, [.inr (.inr (36, 0)), .inl (2147483649, 2147483649)], [(606209, (2147483651, 2147483651)), (606210, (2147483656, 2147483656))], [], [.inl (some (.inl (2147483649, 2147483649)), [])], 2)
theorem hct_against_3_8_1 : z_ctH zTb ct_against_3_8_1 := hz_against (k := 3) (o := 8) (a := 1) (L := 1) (by decide) (by decide) (by decide +kernel)
def ct_against_3_8_2 : zCt := (181, [.inr (.inr (36, 0)), .inl (2147483650, 2147483650)], [(606209, (2147483651, 2147483651)), (606210, (2147483656, 2147483656))], [], [.inl (some (.inl (2147483650, 2147483650)), [])], 2)
theorem hct_against_3_8_2 : z_ctH zTb ct_against_3_8_2 := hz_against (k := 3) (o := 8) (a := 2) (L := 2) (by decide) (by decide) (by decide +kernel)
def ct_against_3_8_3 : zCt := (181, [.inr (.inr (36, 0)), .inl (2147483651, 2147483651)], [(606209, (2147483651, 2147483651)), (606210, (2147483656, 2147483656))], [], [.inl (some (.inl (2147483651, 2147483651)), [])], 2)
theorem hct_against_3_8_3 : z_ctH zTb ct_against_3_8_3 := hz_against (k := 3) (o := 8) (a := 3) (L := 3) (by decide) (by decide) (by decide +kernel)
def ct_against_3_8_4 : zCt := (181, [.inr (.inr (36, 0)), .inl (2147483652, 2147483652)], [(606209, (2147483651, 2147483651)), (606210, (2147483656, 2147483656))], [], [.inl (some (.inl (2147483652, 2147483652)), [])], 2)
theorem hct_against_3_8_4 : z_ctH zTb ct_against_3_8_4 := hz_against (k := 3) (o := 8) (a := 4) (L := 4) (by decide) (by decide) (by decide +kernel)
def ct_against_3_8_5 : zCt := (181, [.inr (.inr (36, 0)), .inl (2147483653, 2147483653)], [(606209, (2147483651, 2147483651)), (606210, (2147483656, 2147483656))], [], [.inl (some (.inl (2147483653, 2147483653)), [])], 2)
theorem hct_against_3_8_5 : z_ctH zTb ct_against_3_8_5 := hz_against (k := 3) (o := 8) (a := 5) (L := 5) (by decide) (by decide) (by decide +kernel)
def ct_against_3_8_6 : zCt := (181, [.inr (.inr (36, 0)), .inl (2147483654, 2147483654)], [(606209, (2147483651, 2147483651)), (606210, (2147483656, 2147483656))], [], [.inl (some (.inl (2147483654, 2147483654)), [])], 2)
theorem hct_against_3_8_6 : z_ctH zTb ct_against_3_8_6 := hz_against (k := 3) (o := 8) (a := 6) (L := 6) (by decide) (by decide) (by decide +kernel)
def ct_against_3_8_7 : zCt := (181, [.inr (.inr (36, 0)), .inl (2147483655, 2147483655)], [(606209, (2147483651, 2147483651)), (606210, (2147483656, 2147483656))], [], [.inl (some (.inl (2147483655, 2147483655)), [])], 2)
theorem hct_against_3_8_7 : z_ctH zTb ct_against_3_8_7 := hz_against (k := 3) (o := 8) (a := 7) (L := 7) (by decide) (by decide) (by decide +kernel)
def ct_leastOf_0_2_0 : zCt := (183, [.inr (.inr (36, 0)), .inl (2147483648, 2147483648)], [(606209, (2147483648, 2147483648)), (606210, (2147483650, 2147483650))], [], [.inl (some (.inl (2147483648, 2147483648)), [])], 4)
theorem hct_leastOf_0_2_0 : z_ctH zTb ct_leastOf_0_2_0 := hz_leastOf (k := 0) (o := 2) (a := 0) (L := 0) (by decide) (by decide) (by decide +kernel)
def ct_leastOf_0_2_1 : zCt := (183, [.inr (.inr (36, 0)), .inl (2147483649, 2147483649)], [(606209, (2147483648, 2147483648)), (606210, (2147483650, 2147483650))], [], [.inl (some (.inl (2147483649, 2147483649)), [])], 4)
theorem hct_leastOf_0_2_1 : z_ctH zTb ct_leastOf_0_2_1 := hz_leastOf (k := 0) (o := 2) (a := 1) (L := 1) (by decide) (by decide) (by decide +kernel)
def ct_leastOf_0_3_0 : zCt := (183, [.inr (.inr (36, 0)), .inl (2147483648, 2147483648)], [(606209, (2147483648, 2147483648)), (606210, (2147483651, 2147483651))], [], [.inl (some (.inl (2147483648, 2147483648)), [])], 4)
theorem hct_leastOf_0_3_0 : z_ctH zTb ct_leastOf_0_3_0 := hz_leastOf (k := 0) (o := 3) (a := 0) (L := 0) (by decide) (by decide) (by decide +kernel)
def ct_leastOf_0_3_1 : zCt := (183, [.inr (.inr (36, 0)), .inl (2147483649, 2147483649)], [(606209, (2147483648, 2147483648)), (606210, (2147483651, 2147483651))], [], [.inl (some (.inl (2147483649, 2147483649)), [])], 4)
theorem hct_leastOf_0_3_1 : z_ctH zTb ct_leastOf_0_3_1 := hz_leastOf (k := 0) (o := 3) (a := 1) (L := 1) (by decide) (by decide) (by decide +kernel)
def ct_leastOf_0_3_2 : zCt := (183, [.inr (.inr (36, 0)), .inl (2147483650, 2147483650)], [(606209, (2147483648, 2147483648)), (606210, (2147483651, 2147483651))], [], [.inl (some (.inl (2147483650, 2147483650)), [])], 4)
theorem hct_leastOf_0_3_2 : z_ctH zTb ct_leastOf_0_3_2 := hz_leastOf (k := 0) (o := 3) (a := 2) (L := 2) (by decide) (by decide) (by decide +kernel)
def ct_leastOf_0_4_0 : zCt := (183, [.inr (.inr (36, 0)), .inl (2147483648, 2147483648)], [(606209, (2147483648, 2147483648)), (606210, (2147483652, 2147483652))], [], [.inl (some (.inl (2147483648, 2147483648)), [])], 4)
theorem hct_leastOf_0_4_0 : z_ctH zTb ct_leastOf_0_4_0 := hz_leastOf (k := 0) (o := 4) (a := 0) (L := 0) (by decide) (by decide) (by decide +kernel)
def ct_leastOf_0_4_1 : zCt := (183, [.inr (.inr (36, 0)), .inl (2147483649, 2147483649)], [(606209, (2147483648, 2147483648)), (606210, (2147483652, 2147483652))], [], [.inl (some (.inl (2147483649, 2147483649)), [])], 4)
theorem hct_leastOf_0_4_1 : z_ctH zTb ct_leastOf_0_4_1 := hz_leastOf (k := 0) (o := 4) (a := 1) (L := 1) (by decide) (by decide) (by decide +kernel)
def ct_leastOf_0_4_2 : zCt := (183, [.inr (.inr (36, 0)), .inl (2147483650, 2147483650)], [(606209, (2147483648, 2147483648)), (606210, (2147483652, 2147483652))], [], [.inl (some (.inl (2147483650, 2147483650)), [])], 4)
theorem hct_leastOf_0_4_2 : z_ctH zTb ct_leastOf_0_4_2 := hz_leastOf (k := 0) (o := 4) (a := 2) (L := 2) (by decide) (by decide) (by decide +kernel)
def ct_leastOf_0_4_3 : zCt := (183, [.inr (.inr (36, 0)), .inl (2147483651, 2147483651)], [(606209, (2147483648, 2147483648)), (606210, (2147483652, 2147483652))], [], [.inl (some (.inl (2147483651, 2147483651)), [])], 4)
theorem hct_leastOf_0_4_3 : z_ctH zTb ct_leastOf_0_4_3 := hz_leastOf (k := 0) (o := 4) (a := 3) (L := 3) (by decide) (by decide) (by decide +kernel)
def ct_leastOf_0_5_0 : zCt := (183, [.inr (.inr (36, 0)), .inl (2147483648, 2147483648)], [(606209, (2147483648, 2147483648)), (606210, (2147483653, 2147483653))], [], [.inl (some (.inl (2147483648, 2147483648)), [])], 4)
theorem hct_leastOf_0_5_0 : z_ctH zTb ct_leastOf_0_5_0 := hz_leastOf (k := 0) (o := 5) (a := 0) (L := 0) (by decide) (by decide) (by decide +kernel)
def ct_leastOf_0_5_1 : zCt := (183, [.inr (.inr (36, 0)), .inl (2147483649, 2147483649)], [(606209, (2147483648, 2147483648)), (606210, (2147483653, 2147483653))], [], [.inl (some (.inl (2147483649, 2147483649)), [])], 4)
theorem hct_leastOf_0_5_1 : z_ctH zTb ct_leastOf_0_5_1 := hz_leastOf (k := 0) (o := 5) (a := 1) (L := 1) (by decide) (by decide) (by decide +kernel)
def ct_leastOf_0_5_2 : zCt := (183, [.inr (.inr (36, 0)), .inl (2147483650, 2147483650)], [(606209, (2147483648, 2147483648)), (606210, (2147483653, 2147483653))], [], [.inl (some (.inl (2147483650, 2147483650)), [])], 4)
theorem hct_leastOf_0_5_2 : z_ctH zTb ct_leastOf_0_5_2 := hz_leastOf (k := 0) (o := 5) (a := 2) (L := 2) (by decide) (by decide) (by decide +kernel)
def ct_leastOf_0_5_3 : zCt := (183, [.inr (.inr (36, 0)), .inl (2147483651, 2147483651)], [(606209, (2147483648, 2147483648)), (606210, (2147483653, 2147483653))], [], [.inl (some (.inl (2147483651, 2147483651)), [])], 4)
theorem hct_leastOf_0_5_3 : z_ctH zTb ct_leastOf_0_5_3 := hz_leastOf (k := 0) (o := 5) (a := 3) (L := 3) (by decide) (by decide) (by decide +kernel)
def ct_leastOf_0_5_4 : zCt := (183, [.inr (.inr (36, 0)), .inl (2147483652, 2147483652)], [(606209, (2147483648, 2147483648)), (606210, (2147483653, 2147483653))], [], [.inl (some (.inl (2147483652, 2147483652)), [])], 4)
theorem hct_leastOf_0_5_4 : z_ctH zTb ct_leastOf_0_5_4 := hz_leastOf (k := 0) (o := 5) (a := 4) (L := 4) (by decide) (by decide) (by decide +kernel)
def ct_leastOf_0_6_0 : zCt := (183, [.inr (.inr (36, 0)), .inl (2147483648, 2147483648)], [(606209, (2147483648, 2147483648)), (606210, (2147483654, 2147483654))], [], [.inl (some (.inl (2147483648, 2147483648)), [])], 4)
theorem hct_leastOf_0_6_0 : z_ctH zTb ct_leastOf_0_6_0 := hz_leastOf (k := 0) (o := 6) (a := 0) (L := 0) (by decide) (by decide) (by decide +kernel)
def ct_leastOf_0_6_1 : zCt := (183, [.inr (.inr (36, 0)), .inl (2147483649, 2147483649)], [(606209, (2147483648, 2147483648)), (606210, (2147483654, 2147483654))], [], [.inl (some (.inl (2147483649, 2147483649)), [])], 4)
theorem hct_leastOf_0_6_1 : z_ctH zTb ct_leastOf_0_6_1 := hz_leastOf (k := 0) (o := 6) (a := 1) (L := 1) (by decide) (by decide) (by decide +kernel)
def ct_leastOf_0_6_2 : zCt := (183, [.inr (.inr (36, 0)), .inl (2147483650, 2147483650)], [(606209, (2147483648, 2147483648)), (606210, (2147483654, 2147483654))], [], [.inl (some (.inl (2147483650, 2147483650)), [])], 4)
theorem hct_leastOf_0_6_2 : z_ctH zTb ct_leastOf_0_6_2 := hz_leastOf (k := 0) (o := 6) (a := 2) (L := 2) (by decide) (by decide) (by decide +kernel)
def ct_leastOf_0_6_3 : zCt := (183, [.inr (.inr (36, 0)), .inl (2147483651, 2147483651)], [(606209, (2147483648, 2147483648)), (606210, (2147483654, 2147483654))], [], [.inl (some (.inl (2147483651, 2147483651)), [])], 4)
theorem hct_leastOf_0_6_3 : z_ctH zTb ct_leastOf_0_6_3 := hz_leastOf (k := 0) (o := 6) (a := 3) (L := 3) (by decide) (by decide) (by decide +kernel)
def ct_leastOf_0_6_4 : zCt := (183, [.inr (.inr (36, 0)), .inl (2147483652, 2147483652)], [(606209, (2147483648, 2147483648)), (606210, (2147483654, 2147483654))], [], [.inl (some (.inl (2147483652, 2147483652)), [])], 4)
theorem hct_leastOf_0_6_4 : z_ctH zTb ct_leastOf_0_6_4 := hz_leastOf (k := 0) (o := 6) (a := 4) (L := 4) (by decide) (by decide) (by decide +kernel)
def ct_leastOf_0_6_5 : zCt := (183, [.inr (.inr (36, 0)), .inl (2147483653, 2147483653)], [(606209, (2147483648, 2147483648)), (606210, (2147483654, 2147483654))], [], [.inl (some (.inl (2147483653, 2147483653)), [])], 4)
theorem hct_leastOf_0_6_5 : z_ctH zTb ct_leastOf_0_6_5 := hz_leastOf (k := 0) (o := 6) (a := 5) (L := 5) (by decide) (by decide) (by decide +kernel)
def ct_leastOf_0_7_0 : zCt := (183, [.inr (.inr (36, 0)), .inl (2147483648, 2147483648)], [(606209, (2147483648, 2147483648)), (606210, (2147483655, 2147483655))], [], [.inl (some (.inl (2147483648, 2147483648)), [])], 4)
theorem hct_leastOf_0_7_0 : z_ctH zTb ct_leastOf_0_7_0 := hz_leastOf (k := 0) (o := 7) (a := 0) (L := 0) (by decide) (by decide) (by decide +kernel)
def ct_leastOf_0_7_1 : zCt := (183, [.inr (.inr (36, 0)), .inl (2147483649, 2147483649)], [(606209, (2147483648, 2147483648)), (606210, (2147483655, 2147483655))], [], [.inl (some (.inl (2147483649, 2147483649)), [])], 4)
theorem hct_leastOf_0_7_1 : z_ctH zTb ct_leastOf_0_7_1 := hz_leastOf (k := 0) (o := 7) (a := 1) (L := 1) (by decide) (by decide) (by decide +kernel)
def ct_leastOf_0_7_2 : zCt := (183, [.inr (.inr (36, 0)), .inl (2147483650, 2147483650)], [(606209, (2147483648, 2147483648)), (606210, (2147483655, 2147483655))], [], [.inl (some (.inl (2147483650, 2147483650)), [])], 4)
theorem hct_leastOf_0_7_2 : z_ctH zTb ct_leastOf_0_7_2 := hz_leastOf (k := 0) (o := 7) (a := 2) (L := 2) (by decide) (by decide) (by decide +kernel)
def ct_leastOf_0_7_3 : zCt := (183, [.inr (.inr (36, 0)), .inl (2147483651, 2147483651)], [(606209, (2147483648, 2147483648)), (606210, (2147483655, 2147483655))], [], [.inl (some (.inl (2147483651, 2147483651)), [])], 4)
theorem hct_leastOf_0_7_3 : z_ctH zTb ct_leastOf_0_7_3 := hz_leastOf (k := 0) (o := 7) (a := 3) (L := 3) (by decide) (by decide) (by decide +kernel)
def ct_leastOf_0_7_4 : zCt := (183, [.inr (.inr (36, 0)), .inl (2147483652, 2147483652)], [(606209, (2147483648, 2147483648)), (606210, (2147483655, 2147483655))], [], [.inl (some (.inl (2147483652, 2147483652)), [])], 4)
theorem hct_leastOf_0_7_4 : z_ctH zTb ct_leastOf_0_7_4 := hz_leastOf (k := 0) (o := 7) (a := 4) (L := 4) (by decide) (by decide) (by decide +kernel)
def ct_leastOf_0_7_5 : zCt := (183, [.inr (.inr (36, 0)), .inl (2147483653, 2147483653)], [(606209, (2147483648, 2147483648)), (606210, (2147483655, 2147483655))], [], [.inl (some (.inl (2147483653, 2147483653)), [])], 4)
theorem hct_leastOf_0_7_5 : z_ctH zTb ct_leastOf_0_7_5 := hz_leastOf (k := 0) (o := 7) (a := 5) (L := 5) (by decide) (by decide) (by decide +kernel)
def ct_leastOf_0_7_6 : zCt := (183, [.inr (.inr (36, 0)), .inl (2147483654, 2147483654)], [(606209, (2147483648, 2147483648)), (606210, (2147483655, 2147483655))], [], [.inl (some (.inl (2147483654, 2147483654)), [])], 4)
theorem hct_leastOf_0_7_6 : z_ctH zTb ct_leastOf_0_7_6 := hz_leastOf (k := 0) (o := 7) (a := 6) (L := 6) (by decide) (by decide) (by decide +kernel)
def ct_leastOf_0_8_0 : zCt := (183, [.inr (.inr (36, 0)), .inl (2147483648, 2147483648)], [(606209, (2147483648, 2147483648)), (606210, (2147483656, 2147483656))], [], [.inl (some (.inl (2147483648, 2147483648)), [])], 4)
theorem hct_leastOf_0_8_0 : z_ctH zTb ct_leastOf_0_8_0 := hz_leastOf (k := 0) (o := 8) (a := 0) (L := 0) (by decide) (by decide) (by decide +kernel)
def ct_leastOf_0_8_1 : zCt := (183, [.inr (.inr (36, 0)), .inl (2147483649, 2147483649)], [(606209, (2147483648, 2147483648)), (606210, (2147483656, 2147483656))], [], [.inl (some (.inl (2147483649, 2147483649)), [])], 4)
theorem hct_leastOf_0_8_1 : z_ctH zTb ct_leastOf_0_8_1 := hz_leastOf (k := 0) (o := 8) (a := 1) (L := 1) (by decide) (by decide) (by decide +kernel)
def ct_leastOf_0_8_2 : zCt := (183, [.inr (.inr (36, 0)), .inl (2147483650, 2147483650)], [(606209, (2147483648, 2147483648)), (606210, (2147483656, 2147483656))], [], [.inl (some (.inl (2147483650, 2147483650)), [])], 4)
theorem hct_leastOf_0_8_2 : z_ctH zTb ct_leastOf_0_8_2 := hz_leastOf (k := 0) (o := 8) (a := 2) (L := 2) (by decide) (by decide) (by decide +kernel)
def ct_leastOf_0_8_3 : zCt := (183, [.inr (.inr (36, 0)), .inl (2147483651, 2147483651)], [(606209, (2147483648, 2147483648)), (606210, (2147483656, 2147483656))], [], [.inl (some (.inl (2147483651, 2147483651)), [])], 4)
theorem hct_leastOf_0_8_3 : z_ctH zTb ct_leastOf_0_8_3 := hz_leastOf (k := 0) (o := 8) (a := 3) (L := 3) (by decide) (by decide) (by decide +kernel)
def ct_leastOf_0_8_4 : zCt := (183, [.inr (.inr (36, 0)), .inl (2147483652, 2147483652)], [(606209, (2147483648, 2147483648)), (606210, (2147483656, 2147483656))], [], [.inl (some (.inl (2147483652, 2147483652)), [])], 4)
theorem hct_leastOf_0_8_4 : z_ctH zTb ct_leastOf_0_8_4 := hz_leastOf (k := 0) (o := 8) (a := 4) (L := 4) (by decide) (by decide) (by decide +kernel)
def ct_leastOf_0_8_5 : zCt := (183, [.inr (.inr (36, 0)), .inl (2147483653, 2147483653)], [(606209, (2147483648, 2147483648)), (606210, (2147483656, 2147483656))], [], [.inl (some (.inl (2147483653, 2147483653)), [])], 4)
theorem hct_leastOf_0_8_5 : z_ctH zTb ct_leastOf_0_8_5 := hz_leastOf (k := 0) (o := 8) (a := 5) (L := 5) (by decide) (by decide) (by decide +kernel)
def ct_leastOf_0_8_6 : zCt := (183, [.inr (.inr (36, 0)), .inl (2147483654, 2147483654)], [(606209, (2147483648, 2147483648)), (606210, (2147483656, 2147483656))], [], [.inl (some (.inl (2147483654, 2147483654)), [])], 4)
theorem hct_leastOf_0_8_6 : z_ctH zTb ct_leastOf_0_8_6 := hz_leastOf (k := 0) (o := 8) (a := 6) (L := 6) (by decide) (by decide) (by decide +kernel)
def ct_leastOf_0_8_7 : zCt := (183, [.inr (.inr (36, 0)), .inl (2147483655, 2147483655)], [(606209, (2147483648, 2147483648)), (606210, (2147483656, 2147483656))], [], [.inl (some (.inl (2147483655, 2147483655)), [])], 4)
theorem hct_leastOf_0_8_7 : z_ctH zTb ct_leastOf_0_8_7 := hz_leastOf (k := 0) (o := 8) (a := 7) (L := 7) (by decide) (by decide) (by decide +kernel)
def ct_leastOf_1_4_0 : zCt := (183, [.inr (.inr (36, 0)), .inl (2147483648, 2147483648)], [(606209, (2147483649, 2147483649)), (606210, (2147483652, 2147483652))], [], [.inl (some (.inl (2147483648, 2147483648)), [])], 4)
theorem hct_leastOf_1_4_0 : z_ctH zTb ct_leastOf_1_4_0 := hz_leastOf (k := 1) (o := 4) (a := 0) (L := 0) (by decide) (by decide) (by decide +kernel)
def ct_leastOf_1_4_1 : zCt := (183, [.inr (.inr (36, 0)), .inl (2147483649, 2147483649)], [(606209, (2147483649, 2147483649)), (606210, (2147483652, 2147483652))], [], [.inl (some (.inl (2147483649, 2147483649)), [])], 4)
theorem hct_leastOf_1_4_1 : z_ctH zTb ct_leastOf_1_4_1 := hz_leastOf (k := 1) (o := 4) (a := 1) (L := 1) (by decide) (by decide) (by decide +kernel)
def ct_leastOf_1_4_2 : zCt := (183, [.inr (.inr (36, 0)), .inl (2147483650, 2147483650)], [(606209, (2147483649, 2147483649)), (606210, (2147483652, 2147483652))], [], [.inl (some (.inl (2147483650, 2147483650)), [])], 4)
theorem hct_leastOf_1_4_2 : z_ctH zTb ct_leastOf_1_4_2 := hz_leastOf (k := 1) (o := 4) (a := 2) (L := 2) (by decide) (by decide) (by decide +kernel)
def ct_leastOf_1_4_3 : zCt := (183, [.inr (.inr (36, 0)), .inl (2147483651, 2147483651)], [(606209, (2147483649, 2147483649)), (606210, (2147483652, 2147483652))], [], [.inl (some (.inl (2147483651, 2147483651)), [])], 4)
theorem hct_leastOf_1_4_3 : z_ctH zTb ct_leastOf_1_4_3 := hz_leastOf (k := 1) (o := 4) (a := 3) (L := 3) (by decide) (by decide) (by decide +kernel)
def ct_leastOf_1_6_0 : zCt := (183, [.inr (.inr (36, 0)), .inl (2147483648, 2147483648)], [(606209, (2147483649, 2147483649)), (606210, (2147483654, 2147483654))], [], [.inl (some (.inl (2147483648, 2147483648)), [])], 4)
theorem hct_leastOf_1_6_0 : z_ctH zTb ct_leastOf_1_6_0 := hz_leastOf (k := 1) (o := 6) (a := 0) (L := 0) (by decide) (by decide) (by decide +kernel)
def ct_leastOf_1_6_1 : zCt := (183, [.inr (.inr (36, 0)), .inl (2147483649, 2147483649)], [(606209, (2147483649, 2147483649)), (606210, (2147483654, 2147483654))], [], [.inl (some (.inl (2147483649, 2147483649)), [])], 4)
theorem hct_leastOf_1_6_1 : z_ctH zTb ct_leastOf_1_6_1 := hz_leastOf (k := 1) (o := 6) (a := 1) (L := 1) (by decide) (by decide) (by decide +kernel)
def ct_leastOf_1_6_2 : zCt := (183, [.inr (.inr (36, 0)), .inl (2147483650, 2147483650)], [(606209, (2147483649, 2147483649)), (606210, (2147483654, 2147483654))], [], [.inl (some (.inl (2147483649, 2147483649)), [])], 4)
theorem hct_leastOf_1_6_2 : z_ctH zTb ct_leastOf_1_6_2 := hz_leastOf (k := 1) (o := 6) (a := 2) (L := 1) (by decide) (by decide) (by decide +kernel)
def ct_leastOf_1_6_3 : zCt := (183, [.inr (.inr (36, 0)), .inl (2147483651, 2147483651)], [(606209, (2147483649, 2147483649)), (606210, (2147483654, 2147483654))], [], [.inl (some (.inl (2147483651, 2147483651)), [])], 4)
theorem hct_leastOf_1_6_3 : z_ctH zTb ct_leastOf_1_6_3 := hz_leastOf (k := 1) (o := 6) (a := 3) (L := 3) (by decide) (by decide) (by decide +kernel)
def ct_leastOf_1_6_4 : zCt := (183, [.inr (.inr (36, 0)), .inl (2147483652, 2147483652)], [(606209, (2147483649, 2147483649)), (606210, (2147483654, 2147483654))], [], [.inl (some (.inl (2147483651, 2147483651)), [])], 4)
theorem hct_leastOf_1_6_4 : z_ctH zTb ct_leastOf_1_6_4 := hz_leastOf (k := 1) (o := 6) (a := 4) (L := 3) (by decide) (by decide) (by decide +kernel)
def ct_leastOf_1_6_5 : zCt := (183, [.inr (.inr (36, 0)), .inl (2147483653, 2147483653)], [(606209, (2147483649, 2147483649)), (606210, (2147483654, 2147483654))], [], [.inl (some (.inl (2147483651, 2147483651)), [])], 4)
theorem hct_leastOf_1_6_5 : z_ctH zTb ct_leastOf_1_6_5 := hz_leastOf (k := 1) (o := 6) (a := 5) (L := 3) (by decide) (by decide) (by decide +kernel)
def ct_leastOf_1_8_0 : zCt := (183, [.inr (.inr (36, 0)), .inl (2147483648, 2147483648)], [(606209, (2147483649, 2147483649)), (606210, (2147483656, 2147483656))], [], [.inl (some (.inl (2147483648, 2147483648)), [])], 4)
theorem hct_leastOf_1_8_0 : z_ctH zTb ct_leastOf_1_8_0 := hz_leastOf (k := 1) (o := 8) (a := 0) (L := 0) (by decide) (by decide) (by decide +kernel)
def ct_leastOf_1_8_1 : zCt := (183, [.inr (.inr (36, 0)), .inl (2147483649, 2147483649)], [(606209, (2147483649, 2147483649)), (606210, (2147483656, 2147483656))], [], [.inl (some (.inl (2147483649, 2147483649)), [])], 4)
theorem hct_leastOf_1_8_1 : z_ctH zTb ct_leastOf_1_8_1 := hz_leastOf (k := 1) (o := 8) (a := 1) (L := 1) (by decide) (by decide) (by decide +kernel)
def ct_leastOf_1_8_2 : zCt := (183, [.inr (.inr (36, 0)), .inl (2147483650, 2147483650)], [(606209, (2147483649, 2147483649)), (606210, (2147483656, 2147483656))], [], [.inl (some (.inl (2147483650, 2147483650)), [])], 4)
theorem hct_leastOf_1_8_2 : z_ctH zTb ct_leastOf_1_8_2 := hz_leastOf (k := 1) (o := 8) (a := 2) (L := 2) (by decide) (by decide) (by decide +kernel)
def ct_leastOf_1_8_3 : zCt := (183, [.inr (.inr (36, 0)), .inl (2147483651, 2147483651)], [(606209, (2147483649, 2147483649)), (606210, (2147483656, 2147483656))], [], [.inl (some (.inl (2147483649, 2147483649)), [])], 4)
theorem hct_leastOf_1_8_3 : z_ctH zTb ct_leastOf_1_8_3 := hz_leastOf (k := 1) (o := 8) (a := 3) (L := 1) (by decide) (by decide) (by decide +kernel)
def ct_leastOf_1_8_4 : zCt := (183, [.inr (.inr (36, 0)), .inl (2147483652, 2147483652)], [(606209, (2147483649, 2147483649)), (606210, (2147483656, 2147483656))], [], [.inl (some (.inl (2147483652, 2147483652)), [])], 4)
theorem hct_leastOf_1_8_4 : z_ctH zTb ct_leastOf_1_8_4 := hz_leastOf (k := 1) (o := 8) (a := 4) (L := 4) (by decide) (by decide) (by decide +kernel)
def ct_leastOf_1_8_5 : zCt := (183, [.inr (.inr (36, 0)), .inl (2147483653, 2147483653)], [(606209, (2147483649, 2147483649)), (606210, (2147483656, 2147483656))], [], [.inl (some (.inl (2147483653, 2147483653)), [])], 4)
theorem hct_leastOf_1_8_5 : z_ctH zTb ct_leastOf_1_8_5 := hz_leastOf (k := 1) (o := 8) (a := 5) (L := 5) (by decide) (by decide) (by decide +kernel)
def ct_leastOf_1_8_6 : zCt := (183, [.inr (.inr (36, 0)), .inl (2147483654, 2147483654)], [(606209, (2147483649, 2147483649)), (606210, (2147483656, 2147483656))], [], [.inl (some (.inl (2147483652, 2147483652)), [])], 4)
theorem hct_leastOf_1_8_6 : z_ctH zTb ct_leastOf_1_8_6 := hz_leastOf (k := 1) (o := 8) (a := 6) (L := 4) (by decide) (by decide) (by decide +kernel)
def ct_leastOf_1_8_7 : zCt := (183, [.inr (.inr (36, 0)), .inl (2147483655, 2147483655)], [(606209, (2147483649, 2147483649)), (606210, (2147483656, 2147483656))], [], [.inl (some (.inl (2147483653, 2147483653)), [])], 4)
theorem hct_leastOf_1_8_7 : z_ctH zTb ct_leastOf_1_8_7 := hz_leastOf (k := 1) (o := 8) (a := 7) (L := 5) (by decide) (by decide) (by decide +kernel)
def ct_leastOf_2_8_0 : zCt := (183, [.inr (.inr (36, 0)), .inl (2147483648, 2147483648)], [(606209, (2147483650, 2147483650)), (606210, (2147483656, 2147483656))], [], [.inl (some (.inl (2147483648, 2147483648)), [])], 4)
theorem hct_leastOf_2_8_0 : z_ctH zTb ct_leastOf_2_8_0 := hz_leastOf (k := 2) (o := 8) (a := 0) (L := 0) (by decide) (by decide) (by decide +kernel)
def ct_leastOf_2_8_1 : zCt := (183, [.inr (.inr (36, 0)), .inl (2147483649, 2147483649)], [(606209, (2147483650, 2147483650)), (606210, (2147483656, 2147483656))], [], [.inl (some (.inl (2147483649, 2147483649)), [])], 4)
theorem hct_leastOf_2_8_1 : z_ctH zTb ct_leastOf_2_8_1 := hz_leastOf (k := 2) (o := 8) (a := 1) (L := 1) (by decide) (by decide) (by decide +kernel)
def ct_leastOf_2_8_2 : zCt := (183, [.inr (.inr (36, 0)), .inl (2147483650, 2147483650)], [(606209, (2147483650, 2147483650)), (606210, (2147483656, 2147483656))], [], [.inl (some (.inl (2147483650, 2147483650)), [])], 4)
theorem hct_leastOf_2_8_2 : z_ctH zTb ct_leastOf_2_8_2 := hz_leastOf (k := 2) (o := 8) (a := 2) (L := 2) (by decide) (by decide) (by decide +kernel)
def ct_leastOf_2_8_3 : zCt := (183, [.inr (.inr (36, 0)), .inl (2147483651, 2147483651)], [(606209, (2147483650, 2147483650)), (606210, (2147483656, 2147483656))], [], [.inl (some (.inl (2147483649, 2147483649)), [])], 4)
theorem hct_leastOf_2_8_3 : z_ctH zTb ct_leastOf_2_8_3 := hz_leastOf (k := 2) (o := 8) (a := 3) (L := 1) (by decide) (by decide) (by decide +kernel)
def ct_leastOf_2_8_4 : zCt := (183, [.inr (.inr (36, 0)), .inl (2147483652, 2147483652)], [(606209, (2147483650, 2147483650)), (606210, (2147483656, 2147483656))], [], [.inl (some (.inl (2147483652, 2147483652)), [])], 4)
theorem hct_leastOf_2_8_4 : z_ctH zTb ct_leastOf_2_8_4 := hz_leastOf (k := 2) (o := 8) (a := 4) (L := 4) (by decide) (by decide) (by decide +kernel)
def ct_leastOf_2_8_5 : zCt := (183, [.inr (.inr (36, 0)), .inl (2147483653, 2147483653)], [(606209, (2147483650, 2147483650)), (606210, (2147483656, 2147483656))], [], [.inl (some (.inl (2147483653, 2147483653)), [])], 4)
theorem hct_leastOf_2_8_5 : z_ctH zTb ct_leastOf_2_8_5 := hz_leastOf (k := 2) (o := 8) (a := 5) (L := 5) (by decide) (by decide) (by decide +kernel)
def ct_leastOf_2_8_6 : zCt := (183, [.inr (.inr (36, 0)), .inl (2147483654, 2147483654)], [(606209, (2147483650, 2147483650)), (606210, (2147483656, 2147483656))], [], [.inl (some (.inl (2147483652, 2147483652)), [])], 4)
theorem hct_leastOf_2_8_6 : z_ctH zTb ct_leastOf_2_8_6 := hz_leastOf (k := 2) (o := 8) (a := 6) (L := 4) (by decide) (by decide) (by decide +kernel)
def ct_leastOf_2_8_7 : zCt := (183, [.inr (.inr (36, 0)), .inl (2147483655, 2147483655)], [(606209, (2147483650, 2147483650)), (606210, (2147483656, 2147483656))], [], [.inl (some (.inl (2147483653, 2147483653)), [])], 4)
theorem hct_leastOf_2_8_7 : z_ctH zTb ct_leastOf_2_8_7 := hz_leastOf (k := 2) (o := 8) (a := 7) (L := 5) (by decide) (by decide) (by decide +kernel)
def ct_leastOf_3_2_0 : zCt := (183, [.inr (.inr (36, 0)), .inl (2147483648, 2147483648)], [(606209, (2147483651, 2147483651)), (606210, (2147483650, 2147483650))], [], [.inl (some (.inl (2147483648, 2147483648)), [])], 4)
theorem hct_leastOf_3_2_0 : z_ctH zTb ct_leastOf_3_2_0 := hz_leastOf (k := 3) (o := 2) (a := 0) (L := 0) (by decide) (by decide) (by decide +kernel)
def ct_leastOf_3_2_1 : zCt := (183, [.inr (.inr (36, 0)), .inl (2147483649, 2147483649)], [(606209, (2147483651, 2147483651)), (606210, (2147483650, 2147483650))], [], [.inl (some (.inl (2147483649, 2147483649)), [])], 4)
theorem hct_leastOf_3_2_1 : z_ctH zTb ct_leastOf_3_2_1 := hz_leastOf (k := 3) (o := 2) (a := 1) (L := 1) (by decide) (by decide) (by decide +kernel)
def ct_leastOf_3_4_0 : zCt := (183, [.inr (.inr (36, 0)), .inl (2147483648, 2147483648)], [(606209, (2147483651, 2147483651)), (606210, (2147483652, 2147483652))], [], [.inl (some (.inl (2147483648, 2147483648)), [])], 4)
theorem hct_leastOf_3_4_0 : z_ctH zTb ct_leastOf_3_4_0 := hz_leastOf (k := 3) (o := 4) (a := 0) (L := 0) (by decide) (by decide) (by decide +kernel)
def ct_leastOf_3_4_1 : zCt := (183, [.inr (.inr (36, 0)), .inl (2147483649, 2147483649)], [(606209, (2147483651, 2147483651)), (606210, (2147483652, 2147483652))], [], [.inl (some (.inl (2147483649, 2147483649)), [])], 4)
theorem hct_leastOf_3_4_1 : z_ctH zTb ct_leastOf_3_4_1 := hz_leastOf (k := 3) (o := 4) (a := 1) (L := 1) (by decide) (by decide) (by decide +kernel)
def ct_leastOf_3_4_2 : zCt := (183, [.inr (.inr (36, 0)), .inl (2147483650, 2147483650)], [(606209, (2147483651, 2147483651)), (606210, (2147483652, 2147483652))], [], [.inl (some (.inl (2147483650, 2147483650)), [])], 4)
theorem hct_leastOf_3_4_2 : z_ctH zTb ct_leastOf_3_4_2 := hz_leastOf (k := 3) (o := 4) (a := 2) (L := 2) (by decide) (by decide) (by decide +kernel)
def ct_leastOf_3_4_3 : zCt := (183, [.inr (.inr (36, 0)), .inl (2147483651, 2147483651)], [(606209, (2147483651, 2147483651)), (606210, (2147483652, 2147483652))], [], [.inl (some (.inl (2147483651, 2147483651)), [])], 4)
theorem hct_leastOf_3_4_3 : z_ctH zTb ct_leastOf_3_4_3 := hz_leastOf (k := 3) (o := 4) (a := 3) (L := 3) (by decide) (by decide) (by decide +kernel)
def ct_leastOf_3_8_0 : zCt := (183, [.inr (.inr (36, 0)), .inl (2147483648, 2147483648)], [(606209, (2147483651, 2147483651)), (606210, (2147483656, 2147483656))], [], [.inl (some (.inl (2147483648, 2147483648)), [])], 4)
theorem hct_leastOf_3_8_0 : z_ctH zTb ct_leastOf_3_8_0 := hz_leastOf (k := 3) (o := 8) (a := 0) (L := 0) (by decide) (by decide) (by decide +kernel)
def ct_leastOf_3_8_1 : zCt := (183, [.inr (.inr (36, 0)), .inl (2147483649, 2147483649)], [(606209, (2147483651, 2147483651)), (606210, (2147483656, 2147483656))], [], [.inl (some (.inl (2147483649, 2147483649)), [])], 4)
theorem hct_leastOf_3_8_1 : z_ctH zTb ct_leastOf_3_8_1 := hz_leastOf (k := 3) (o := 8) (a := 1) (L := 1) (by decide) (by decide) (by decide +kernel)
def ct_leastOf_3_8_2 : zCt := (183, [.inr (.inr (36, 0)), .inl (2147483650, 2147483650)], [(606209, (2147483651, 2147483651)), (606210, (2147483656, 2147483656))], [], [.inl (some (.inl (2147483650, 2147483650)), [])], 4)
theorem hct_leastOf_3_8_2 : z_ctH zTb ct_leastOf_3_8_2 := hz_leastOf (k := 3) (o := 8) (a := 2) (L := 2) (by decide) (by decide) (by decide +kernel)
def ct_leastOf_3_8_3 : zCt := (183, [.inr (.inr (36, 0)), .inl (2147483651, 2147483651)], [(606209, (2147483651, 2147483651)), (606210, (2147483656, 2147483656))], [], [.inl (some (.inl (2147483651, 2147483651)), [])], 4)
theorem hct_leastOf_3_8_3 : z_ctH zTb ct_leastOf_3_8_3 := hz_leastOf (k := 3) (o := 8) (a := 3) (L := 3) (by decide) (by decide) (by decide +kernel)
def ct_leastOf_3_8_4 : zCt := (183, [.inr (.inr (36, 0)), .inl (2147483652, 2147483652)], [(606209, (2147483651, 2147483651)), (606210, (2147483656, 2147483656))], [], [.inl (some (.inl (2147483652, 2147483652)), [])], 4)
theorem hct_leastOf_3_8_4 : z_ctH zTb ct_leastOf_3_8_4 := hz_leastOf (k := 3) (o := 8) (a := 4) (L := 4) (by decide) (by decide) (by decide +kernel)
def ct_leastOf_3_8_5 : zCt := (183, [.inr (.inr (36, 0)), .inl (2147483653, 2147483653)], [(606209, (2147483651, 2147483651)), (606210, (2147483656, 2147483656))], [], [.inl (some (.inl (2147483653, 2147483653)), [])], 4)
theorem hct_leastOf_3_8_5 : z_ctH zTb ct_leastOf_3_8_5 := hz_leastOf (k := 3) (o := 8) (a := 5) (L := 5) (by decide) (by decide) (by decide +kernel)
def ct_leastOf_3_8_6 : zCt := (183, [.inr (.inr (36, 0)), .inl (2147483654, 2147483654)], [(606209, (2147483651, 2147483651)), (606210, (2147483656, 2147483656))], [], [.inl (some (.inl (2147483654, 2147483654)), [])], 4)
theorem hct_leastOf_3_8_6 : z_ctH zTb ct_leastOf_3_8_6 := hz_leastOf (k := 3) (o := 8) (a := 6) (L := 6) (by decide) (by decide) (by decide +kernel)
def ct_leastOf_3_8_7 : zCt := (183, [.inr (.inr (36, 0)), .inl (2147483655, 2147483655)], [(606209, (2147483651, 2147483651)), (606210, (2147483656, 2147483656))], [], [.inl (some (.inl (2147483655, 2147483655)), [])], 4)
theorem hct_leastOf_3_8_7 : z_ctH zTb ct_leastOf_3_8_7 := hz_leastOf (k := 3) (o := 8) (a := 7) (L := 7) (by decide) (by decide) (by decide +kernel)
def ct_kins_0_2 : zCt := (185, [.inr (.inr (36, 0))], [(606209, (2147483648, 2147483648)), (606210, (2147483650, 2147483650))], [], [.inl (some (.inl (2147483650, 2147483650)), [])], 5)
theorem hct_kins_0_2 : z_ctH zTb ct_kins_0_2 := z_ct_ok [] z_hds_ok [ct_leastOf_0_2_0, ct_leastOf_0_2_1] [] 4 1 (List.forall_mem_cons.mpr ⟨hct_leastOf_0_2_0, List.forall_mem_cons.mpr ⟨hct_leastOf_0_2_1, fun _ h => absurd h List.not_mem_nil⟩⟩) (by decide +kernel)
def ct_kinOf_0_2_0 : zCt := (184, [.inr (.inr (36, 0)), .inl (2147483648, 2147483648)], [(606209, (2147483648, 2147483648)), (606210, (2147483650, 2147483650))], [], [.inl (some (.inl (2147483648, 2147483648)), [])], 5)
theorem hct_kinOf_0_2_0 : z_ctH zTb ct_kinOf_0_2_0 := z_ct_ok [] z_hds_ok [ct_leastOf_0_2_0] [] 4 1 (List.forall_mem_cons.mpr ⟨hct_leastOf_0_2_0, fun _ h => absurd h List.not_mem_nil⟩) (by decide +kernel)
def ct_kinOf_0_2_1 : zCt := (184, [.inr (.inr (36, 0)), .inl (2147483649, 2147483649)], [(606209, (2147483648, 2147483648)), (606210, (2147483650, 2147483650))], [], [.inl (some (.inl (2147483649, 2147483649)), [])], 5)
theorem hct_kinOf_0_2_1 : z_ctH zTb ct_kinOf_0_2_1 := z_ct_ok [] z_hds_ok [ct_leastOf_0_2_0, ct_leastOf_0_2_1] [] 4 1 (List.forall_mem_cons.mpr ⟨hct_leastOf_0_2_0, List.forall_mem_cons.mpr ⟨hct_leastOf_0_2_1, fun _ h => absurd h List.not_mem_nil⟩⟩) (by decide +kernel)
def ct_kins_0_3 : zCt := (185, [.inr (.inr (36, 0))], [(606209, (2147483648, 2147483648)), (606210, (2147483651, 2147483651))], [], [.inl (some (.inl (2147483651, 2147483651)), [])], 5)
theorem hct_kins_0_3 : z_ctH zTb ct_kins_0_3 := z_ct_ok [] z_hds_ok [ct_leastOf_0_3_0, ct_leastOf_0_3_1, ct_leastOf_0_3_2] [] 4 1 (List.forall_mem_cons.mpr ⟨hct_leastOf_0_3_0, List.forall_mem_cons.mpr ⟨hct_leastOf_0_3_1, List.forall_mem_cons.mpr ⟨hct_leastOf_0_3_2, fun _ h => absurd h List.not_mem_nil⟩⟩⟩) (by decide +kernel)
def ct_kinOf_0_3_0 : zCt := (184, [.inr (.inr (36, 0)), .inl (2147483648, 2147483648)], [(606209, (2147483648, 2147483648)), (606210, (2147483651, 2147483651))], [], [.inl (some (.inl (2147483648, 2147483648)), [])], 5)
theorem hct_kinOf_0_3_0 : z_ctH zTb ct_kinOf_0_3_0 := z_ct_ok [] z_hds_ok [ct_leastOf_0_3_0] [] 4 1 (List.forall_mem_cons.mpr ⟨hct_leastOf_0_3_0, fun _ h => absurd h List.not_mem_nil⟩) (by decide +kernel)
def ct_kinOf_0_3_1 : zCt := (184, [.inr (.inr (36, 0)), .inl (2147483649, 2147483649)], [(606209, (2147483648, 2147483648)), (606210, (2147483651, 2147483651))], [], [.inl (some (.inl (2147483649, 2147483649)), [])], 5)
theorem hct_kinOf_0_3_1 : z_ctH zTb ct_kinOf_0_3_1 := z_ct_ok [] z_hds_ok [ct_leastOf_0_3_0, ct_leastOf_0_3_1] [] 4 1 (List.forall_mem_cons.mpr ⟨hct_leastOf_0_3_0, List.forall_mem_cons.mpr ⟨hct_leastOf_0_3_1, fun _ h => absurd h List.not_mem_nil⟩⟩) (by decide +kernel)
def ct_kinOf_0_3_2 : zCt := (184, [.inr (.inr (36, 0)), .inl (2147483650, 2147483650)], [(606209, (2147483648, 2147483648)), (606210, (2147483651, 2147483651))], [], [.inl (some (.inl (2147483650, 2147483650)), [])], 5)
theorem hct_kinOf_0_3_2 : z_ctH zTb ct_kinOf_0_3_2 := z_ct_ok [] z_hds_ok [ct_leastOf_0_3_0, ct_leastOf_0_3_1, ct_leastOf_0_3_2] [] 4 1 (List.forall_mem_cons.mpr ⟨hct_leastOf_0_3_0, List.forall_mem_cons.mpr ⟨hct_leastOf_0_3_1, List.forall_mem_cons.mpr ⟨hct_leastOf_0_3_2, fun _ h => absurd h List.not_mem_nil⟩⟩⟩) (by decide +kernel)
def ct_kins_0_4 : zCt := (185, [.inr (.inr (36, 0))], [(606209, (2147483648, 2147483648)), (606210, (2147483652, 2147483652))], [], [.inl (some (.inl (2147483652, 2147483652)), [])], 5)
theorem hct_kins_0_4 : z_ctH zTb ct_kins_0_4 := z_ct_ok [] z_hds_ok [ct_leastOf_0_4_0, ct_leastOf_0_4_1, ct_leastOf_0_4_2, ct_leastOf_0_4_3] [] 4 1 (List.forall_mem_cons.mpr ⟨hct_leastOf_0_4_0, List.forall_mem_cons.mpr ⟨hct_leastOf_0_4_1, List.forall_mem_cons.mpr ⟨hct_leastOf_0_4_2, List.forall_mem_cons.mpr ⟨hct_leastOf_0_4_3, fun _ h => absurd h List.not_mem_nil⟩⟩⟩⟩) (by decide +kernel)
def ct_kinOf_0_4_0 : zCt := (184, [.inr (.inr (36, 0)), .inl (2147483648, 2147483648)], [(606209, (2147483648, 2147483648)), (606210, (2147483652, 2147483652))], [], [.inl (some (.inl (2147483648, 2147483648)), [])], 5)
theorem hct_kinOf_0_4_0 : z_ctH zTb ct_kinOf_0_4_0 := z_ct_ok [] z_hds_ok [ct_leastOf_0_4_0] [] 4 1 (List.forall_mem_cons.mpr ⟨hct_leastOf_0_4_0, fun _ h => absurd h List.not_mem_nil⟩) (by decide +kernel)
def ct_kinOf_0_4_1 : zCt := (184, [.inr (.inr (36, 0)), .inl (2147483649, 2147483649)], [(606209, (2147483648, 2147483648)), (606210, (2147483652, 2147483652))], [], [.inl (some (.inl (2147483649, 2147483649)), [])], 5)
theorem hct_kinOf_0_4_1 : z_ctH zTb ct_kinOf_0_4_1 := z_ct_ok [] z_hds_ok [ct_leastOf_0_4_0, ct_leastOf_0_4_1] [] 4 1 (List.forall_mem_cons.mpr ⟨hct_leastOf_0_4_0, List.forall_mem_cons.mpr ⟨hct_leastOf_0_4_1, fun _ h => absurd h List.not_mem_nil⟩⟩) (by decide +kernel)
def ct_kinOf_0_4_2 : zCt := (184, [.inr (.inr (36, 0)), .inl (2147483650, 2147483650)], [(606209, (2147483648, 2147483648)), (606210, (2147483652, 2147483652))], [], [.inl (some (.inl (2147483650, 2147483650)), [])], 5)
theorem hct_kinOf_0_4_2 : z_ctH zTb ct_kinOf_0_4_2 := z_ct_ok [] z_hds_ok [ct_leastOf_0_4_0, ct_leastOf_0_4_1, ct_leastOf_0_4_2] [] 4 1 (List.forall_mem_cons.mpr ⟨hct_leastOf_0_4_0, List.forall_mem_cons.mpr ⟨hct_leastOf_0_4_1, List.forall_mem_cons.mpr ⟨hct_leastOf_0_4_2, fun _ h => absurd h List.not_mem_nil⟩⟩⟩) (by decide +kernel)
def ct_kinOf_0_4_3 : zCt := (184, [.inr (.inr (36, 0)), .inl (2147483651, 2147483651)], [(606209, (2147483648, 2147483648)), (606210, (2147483652, 2147483652))], [], [.inl (some (.inl (2147483651, 2147483651)), [])], 5)
theorem hct_kinOf_0_4_3 : z_ctH zTb ct_kinOf_0_4_3 := z_ct_ok [] z_hds_ok [ct_leastOf_0_4_0, ct_leastOf_0_4_1, ct_leastOf_0_4_2, ct_leastOf_0_4_3] [] 4 1 (List.forall_mem_cons.mpr ⟨hct_leastOf_0_4_0, List.forall_mem_cons.mpr ⟨hct_leastOf_0_4_1, List.forall_mem_cons.mpr ⟨hct_leastOf_0_4_2, List.forall_mem_cons.mpr ⟨hct_leastOf_0_4_3, fun _ h => absurd h List.not_mem_nil⟩⟩⟩⟩) (by decide +kernel)
def ct_kins_0_5 : zCt := (185, [.inr (.inr (36, 0))], [(606209, (2147483648, 2147483648)), (606210, (2147483653, 2147483653))], [], [.inl (some (.inl (2147483653, 2147483653)), [])], 5)
theorem hct_kins_0_5 : z_ctH zTb ct_kins_0_5 := z_ct_ok [] z_hds_ok [ct_leastOf_0_5_0, ct_leastOf_0_5_1, ct_leastOf_0_5_2, ct_leastOf_0_5_3, ct_leastOf_0_5_4] [] 4 1 (List.forall_mem_cons.mpr ⟨hct_leastOf_0_5_0, List.forall_mem_cons.mpr ⟨hct_leastOf_0_5_1, List.forall_mem_cons.mpr ⟨hct_leastOf_0_5_2, List.forall_mem_cons.mpr ⟨hct_leastOf_0_5_3, List.forall_mem_cons.mpr ⟨hct_leastOf_0_5_4, fun _ h => absurd h List.not_mem_nil⟩⟩⟩⟩⟩) (by decide +kernel)
def ct_kinOf_0_5_0 : zCt := (184, [.inr (.inr (36, 0)), .inl (2147483648, 2147483648)], [(606209, (2147483648, 2147483648)), (606210, (2147483653, 2147483653))], [], [.inl (some (.inl (2147483648, 2147483648)), [])], 5)
theorem hct_kinOf_0_5_0 : z_ctH zTb ct_kinOf_0_5_0 := z_ct_ok [] z_hds_ok [ct_leastOf_0_5_0] [] 4 1 (List.forall_mem_cons.mpr ⟨hct_leastOf_0_5_0, fun _ h => absurd h List.not_mem_nil⟩) (by decide +kernel)
def ct_kinOf_0_5_1 : zCt := (184, [.inr (.inr (36, 0)), .inl (2147483649, 2147483649)], [(606209, (2147483648, 2147483648)), (606210, (2147483653, 2147483653))], [], [.inl (some (.inl (2147483649, 2147483649)), [])], 5)
theorem hct_kinOf_0_5_1 : z_ctH zTb ct_kinOf_0_5_1 := z_ct_ok [] z_hds_ok [ct_leastOf_0_5_0, ct_leastOf_0_5_1] [] 4 1 (List.forall_mem_cons.mpr ⟨hct_leastOf_0_5_0, List.forall_mem_cons.mpr ⟨hct_leastOf_0_5_1, fun _ h => absurd h List.not_mem_nil⟩⟩) (by decide +kernel)
def ct_kinOf_0_5_2 : zCt := (184, [.inr (.inr (36, 0)), .inl (2147483650, 2147483650)], [(606209, (2147483648, 2147483648)), (606210, (2147483653, 2147483653))], [], [.inl (some (.inl (2147483650, 2147483650)), [])], 5)
theorem hct_kinOf_0_5_2 : z_ctH zTb ct_kinOf_0_5_2 := z_ct_ok [] z_hds_ok [ct_leastOf_0_5_0, ct_leastOf_0_5_1, ct_leastOf_0_5_2] [] 4 1 (List.forall_mem_cons.mpr ⟨hct_leastOf_0_5_0, List.forall_mem_cons.mpr ⟨hct_leastOf_0_5_1, List.forall_mem_cons.mpr ⟨hct_leastOf_0_5_2, fun _ h => absurd h List.not_mem_nil⟩⟩⟩) (by decide +kernel)
def ct_kinOf_0_5_3 : zCt := (184, [.inr (.inr (36, 0)), .inl (2147483651, 2147483651)], [(606209, (2147483648, 2147483648)), (606210, (2147483653, 2147483653))], [], [.inl (some (.inl (2147483651, 2147483651)), [])], 5)
theorem hct_kinOf_0_5_3 : z_ctH zTb ct_kinOf_0_5_3 := z_ct_ok [] z_hds_ok [ct_leastOf_0_5_0, ct_leastOf_0_5_1, ct_leastOf_0_5_2, ct_leastOf_0_5_3] [] 4 1 (List.forall_mem_cons.mpr ⟨hct_leastOf_0_5_0, List.forall_mem_cons.mpr ⟨hct_leastOf_0_5_1, List.forall_mem_cons.mpr ⟨hct_leastOf_0_5_2, List.forall_mem_cons.mpr ⟨hct_leastOf_0_5_3, fun _ h => absurd h List.not_mem_nil⟩⟩⟩⟩) (by decide +kernel)
def ct_kinOf_0_5_4 : zCt := (184, [.inr (.inr (36, 0)), .inl (2147483652, 2147483652)], [(606209, (2147483648, 2147483648)), (606210, (2147483653, 2147483653))], [], [.inl (some (.inl (2147483652, 2147483652)), [])], 5)
theorem hct_kinOf_0_5_4 : z_ctH zTb ct_kinOf_0_5_4 := z_ct_ok [] z_hds_ok [ct_leastOf_0_5_0, ct_leastOf_0_5_1, ct_leastOf_0_5_2, ct_leastOf_0_5_3, ct_leastOf_0_5_4] [] 4 1 (List.forall_mem_cons.mpr ⟨hct_leastOf_0_5_0, List.forall_mem_cons.mpr ⟨hct_leastOf_0_5_1, List.forall_mem_cons.mpr ⟨hct_leastOf_0_5_2, List.forall_mem_cons.mpr ⟨hct_leastOf_0_5_3, List.forall_mem_cons.mpr ⟨hct_leastOf_0_5_4, fun _ h => absurd h List.not_mem_nil⟩⟩⟩⟩⟩) (by decide +kernel)
def ct_kins_0_6 : zCt := (185, [.inr (.inr (36, 0))], [(606209, (2147483648, 2147483648)), (606210, (2147483654, 2147483654))], [], [.inl (some (.inl (2147483654, 2147483654)), [])], 5)
theorem hct_kins_0_6 : z_ctH zTb ct_kins_0_6 := z_ct_ok [] z_hds_ok [ct_leastOf_0_6_0, ct_leastOf_0_6_1, ct_leastOf_0_6_2, ct_leastOf_0_6_3, ct_leastOf_0_6_4, ct_leastOf_0_6_5] [] 4 1 (List.forall_mem_cons.mpr ⟨hct_leastOf_0_6_0, List.forall_mem_cons.mpr ⟨hct_leastOf_0_6_1, List.forall_mem_cons.mpr ⟨hct_leastOf_0_6_2, List.forall_mem_cons.mpr ⟨hct_leastOf_0_6_3, List.forall_mem_cons.mpr ⟨hct_leastOf_0_6_4, List.forall_mem_cons.mpr ⟨hct_leastOf_0_6_5, fun _ h => absurd h List.not_mem_nil⟩⟩⟩⟩⟩⟩) (by decide +kernel)
def ct_kinOf_0_6_0 : zCt := (184, [.inr (.inr (36, 0)), .inl (2147483648, 2147483648)], [(606209, (2147483648, 2147483648)), (606210, (2147483654, 2147483654))], [], [.inl (some (.inl (2147483648, 2147483648)), [])], 5)
theorem hct_kinOf_0_6_0 : z_ctH zTb ct_kinOf_0_6_0 := z_ct_ok [] z_hds_ok [ct_leastOf_0_6_0] [] 4 1 (List.forall_mem_cons.mpr ⟨hct_leastOf_0_6_0, fun _ h => absurd h List.not_mem_nil⟩) (by decide +kernel)
def ct_kinOf_0_6_1 : zCt := (184, [.inr (.inr (36, 0)), .inl (2147483649, 2147483649)], [(606209, (2147483648, 2147483648)), (606210, (2147483654, 2147483654))], [], [.inl (some (.inl (2147483649, 2147483649)), [])], 5)
theorem hct_kinOf_0_6_1 : z_ctH zTb ct_kinOf_0_6_1 := z_ct_ok [] z_hds_ok [ct_leastOf_0_6_0, ct_leastOf_0_6_1] [] 4 1 (List.forall_mem_cons.mpr ⟨hct_leastOf_0_6_0, List.forall_mem_cons.mpr ⟨hct_leastOf_0_6_1, fun _ h => absurd h List.not_mem_nil⟩⟩) (by decide +kernel)
def ct_kinOf_0_6_2 : zCt := (184, [.inr (.inr (36, 0)), .inl (2147483650, 2147483650)], [(606209, (2147483648, 2147483648)), (606210, (2147483654, 2147483654))], [], [.inl (some (.inl (2147483650, 2147483650)), [])], 5)
theorem hct_kinOf_0_6_2 : z_ctH zTb ct_kinOf_0_6_2 := z_ct_ok [] z_hds_ok [ct_leastOf_0_6_0, ct_leastOf_0_6_1, ct_leastOf_0_6_2] [] 4 1 (List.forall_mem_cons.mpr ⟨hct_leastOf_0_6_0, List.forall_mem_cons.mpr ⟨hct_leastOf_0_6_1, List.forall_mem_cons.mpr ⟨hct_leastOf_0_6_2, fun _ h => absurd h List.not_mem_nil⟩⟩⟩) (by decide +kernel)
def ct_kinOf_0_6_3 : zCt := (184, [.inr (.inr (36, 0)), .inl (2147483651, 2147483651)], [(606209, (2147483648, 2147483648)), (606210, (2147483654, 2147483654))], [], [.inl (some (.inl (2147483651, 2147483651)), [])], 5)
theorem hct_kinOf_0_6_3 : z_ctH zTb ct_kinOf_0_6_3 := z_ct_ok [] z_hds_ok [ct_leastOf_0_6_0, ct_leastOf_0_6_1, ct_leastOf_0_6_2, ct_leastOf_0_6_3] [] 4 1 (List.forall_mem_cons.mpr ⟨hct_leastOf_0_6_0, List.forall_mem_cons.mpr ⟨hct_leastOf_0_6_1, List.forall_mem_cons.mpr ⟨hct_leastOf_0_6_2, List.forall_mem_cons.mpr ⟨hct_leastOf_0_6_3, fun _ h => absurd h List.not_mem_nil⟩⟩⟩⟩) (by decide +kernel)
def ct_kinOf_0_6_4 : zCt := (184, [.inr (.inr (36, 0)), .inl (2147483652, 2147483652)], [(606209, (2147483648, 2147483648)), (606210, (2147483654, 2147483654))], [], [.inl (some (.inl (2147483652, 2147483652)), [])], 5)
theorem hct_kinOf_0_6_4 : z_ctH zTb ct_kinOf_0_6_4 := z_ct_ok [] z_hds_ok [ct_leastOf_0_6_0, ct_leastOf_0_6_1, ct_leastOf_0_6_2, ct_leastOf_0_6_3, ct_leastOf_0_6_4] [] 4 1 (List.forall_mem_cons.mpr ⟨hct_leastOf_0_6_0, List.forall_mem_cons.mpr ⟨hct_leastOf_0_6_1, List.forall_mem_cons.mpr ⟨hct_leastOf_0_6_2, List.forall_mem_cons.mpr ⟨hct_leastOf_0_6_3, List.forall_mem_cons.mpr ⟨hct_leastOf_0_6_4, fun _ h => absurd h List.not_mem_nil⟩⟩⟩⟩⟩) (by decide +kernel)
def ct_kinOf_0_6_5 : zCt := (184, [.inr (.inr (36, 0)), .inl (2147483653, 2147483653)], [(606209, (2147483648, 2147483648)), (606210, (2147483654, 2147483654))], [], [.inl (some (.inl (2147483653, 2147483653)), [])], 5)
theorem hct_kinOf_0_6_5 : z_ctH zTb ct_kinOf_0_6_5 := z_ct_ok [] z_hds_ok [ct_leastOf_0_6_0, ct_leastOf_0_6_1, ct_leastOf_0_6_2, ct_leastOf_0_6_3, ct_leastOf_0_6_4, ct_leastOf_0_6_5] [] 4 1 (List.forall_mem_cons.mpr ⟨hct_leastOf_0_6_0, List.forall_mem_cons.mpr ⟨hct_leastOf_0_6_1, List.forall_mem_cons.mpr ⟨hct_leastOf_0_6_2, List.forall_mem_cons.mpr ⟨hct_leastOf_0_6_3, List.forall_mem_cons.mpr ⟨hct_leastOf_0_6_4, List.forall_mem_cons.mpr ⟨hct_leastOf_0_6_5, fun _ h => absurd h List.not_mem_nil⟩⟩⟩⟩⟩⟩) (by decide +kernel)
def ct_kins_0_7 : zCt := (185, [.inr (.inr (36, 0))], [(606209, (2147483648, 2147483648)), (606210, (2147483655, 2147483655))], [], [.inl (some (.inl (2147483655, 2147483655)), [])], 5)
theorem hct_kins_0_7 : z_ctH zTb ct_kins_0_7 := z_ct_ok [] z_hds_ok [ct_leastOf_0_7_0, ct_leastOf_0_7_1, ct_leastOf_0_7_2, ct_leastOf_0_7_3, ct_leastOf_0_7_4, ct_leastOf_0_7_5, ct_leastOf_0_7_6] [] 4 1 (List.forall_mem_cons.mpr ⟨hct_leastOf_0_7_0, List.forall_mem_cons.mpr ⟨hct_leastOf_0_7_1, List.forall_mem_cons.mpr ⟨hct_leastOf_0_7_2, List.forall_mem_cons.mpr ⟨hct_leastOf_0_7_3, List.forall_mem_cons.mpr ⟨hct_leastOf_0_7_4, List.forall_mem_cons.mpr ⟨hct_leastOf_0_7_5, List.forall_mem_cons.mpr ⟨hct_leastOf_0_7_6, fun _ h => absurd h List.not_mem_nil⟩⟩⟩⟩⟩⟩⟩) (by decide +kernel)
def ct_kinOf_0_7_0 : zCt := (184, [.inr (.inr (36, 0)), .inl (2147483648, 2147483648)], [(606209, (2147483648, 2147483648)), (606210, (2147483655, 2147483655))], [], [.inl (some (.inl (2147483648, 2147483648)), [])], 5)
theorem hct_kinOf_0_7_0 : z_ctH zTb ct_kinOf_0_7_0 := z_ct_ok [] z_hds_ok [ct_leastOf_0_7_0] [] 4 1 (List.forall_mem_cons.mpr ⟨hct_leastOf_0_7_0, fun _ h => absurd h List.not_mem_nil⟩) (by decide +kernel)
def ct_kinOf_0_7_1 : zCt := (184, [.inr (.inr (36, 0)), .inl (2147483649, 2147483649)], [(606209, (2147483648, 2147483648)), (606210, (2147483655, 2147483655))], [], [.inl (some (.inl (2147483649, 2147483649)), [])], 5)
theorem hct_kinOf_0_7_1 : z_ctH zTb ct_kinOf_0_7_1 := z_ct_ok [] z_hds_ok [ct_leastOf_0_7_0, ct_leastOf_0_7_1] [] 4 1 (List.forall_mem_cons.mpr ⟨hct_leastOf_0_7_0, List.forall_mem_cons.mpr ⟨hct_leastOf_0_7_1, fun _ h => absurd h List.not_mem_nil⟩⟩) (by decide +kernel)
def ct_kinOf_0_7_2 : zCt := (184, [.inr (.inr (36, 0)), .inl (2147483650, 2147483650)], [(606209, (2147483648, 2147483648)), (606210, (2147483655, 2147483655))], [], [.inl (some (.inl (2147483650, 2147483650)), [])], 5)
theorem hct_kinOf_0_7_2 : z_ctH zTb ct_kinOf_0_7_2 := z_ct_ok [] z_hds_ok [ct_leastOf_0_7_0, ct_leastOf_0_7_1, ct_leastOf_0_7_2] [] 4 1 (List.forall_mem_cons.mpr ⟨hct_leastOf_0_7_0, List.forall_mem_cons.mpr ⟨hct_leastOf_0_7_1, List.forall_mem_cons.mpr ⟨hct_leastOf_0_7_2, fun _ h => absurd h List.not_mem_nil⟩⟩⟩) (by decide +kernel)
def ct_kinOf_0_7_3 : zCt := (184, [.inr (.inr (36, 0)), .inl (2147483651, 2147483651)], [(606209, (2147483648, 2147483648)), (606210, (2147483655, 2147483655))], [], [.inl (some (.inl (2147483651, 2147483651)), [])], 5)
theorem hct_kinOf_0_7_3 : z_ctH zTb ct_kinOf_0_7_3 := z_ct_ok [] z_hds_ok [ct_leastOf_0_7_0, ct_leastOf_0_7_1, ct_leastOf_0_7_2, ct_leastOf_0_7_3] [] 4 1 (List.forall_mem_cons.mpr ⟨hct_leastOf_0_7_0, List.forall_mem_cons.mpr ⟨hct_leastOf_0_7_1, List.forall_mem_cons.mpr ⟨hct_leastOf_0_7_2, List.forall_mem_cons.mpr ⟨hct_leastOf_0_7_3, fun _ h => absurd h List.not_mem_nil⟩⟩⟩⟩) (by decide +kernel)
def ct_kinOf_0_7_4 : zCt := (184, [.inr (.inr (36, 0)), .inl (2147483652, 2147483652)], [(606209, (2147483648, 2147483648)), (606210, (2147483655, 2147483655))], [], [.inl (some (.inl (2147483652, 2147483652)), [])], 5)
theorem hct_kinOf_0_7_4 : z_ctH zTb ct_kinOf_0_7_4 := z_ct_ok [] z_hds_ok [ct_leastOf_0_7_0, ct_leastOf_0_7_1, ct_leastOf_0_7_2, ct_leastOf_0_7_3, ct_leastOf_0_7_4] [] 4 1 (List.forall_mem_cons.mpr ⟨hct_leastOf_0_7_0, List.forall_mem_cons.mpr ⟨hct_leastOf_0_7_1, List.forall_mem_cons.mpr ⟨hct_leastOf_0_7_2, List.forall_mem_cons.mpr ⟨hct_leastOf_0_7_3, List.forall_mem_cons.mpr ⟨hct_leastOf_0_7_4, fun _ h => absurd h List.not_mem_nil⟩⟩⟩⟩⟩) (by decide +kernel)
def ct_kinOf_0_7_5 : zCt := (184, [.inr (.inr (36, 0)), .inl (2147483653, 2147483653)], [(606209, (2147483648, 2147483648)), (606210, (2147483655, 2147483655))], [], [.inl (some (.inl (2147483653, 2147483653)), [])], 5)
theorem hct_kinOf_0_7_5 : z_ctH zTb ct_kinOf_0_7_5 := z_ct_ok [] z_hds_ok [ct_leastOf_0_7_0, ct_leastOf_0_7_1, ct_leastOf_0_7_2, ct_leastOf_0_7_3, ct_leastOf_0_7_4, ct_leastOf_0_7_5] [] 4 1 (List.forall_mem_cons.mpr ⟨hct_leastOf_0_7_0, List.forall_mem_cons.mpr ⟨hct_leastOf_0_7_1, List.forall_mem_cons.mpr ⟨hct_leastOf_0_7_2, List.forall_mem_cons.mpr ⟨hct_leastOf_0_7_3, List.forall_mem_cons.mpr ⟨hct_leastOf_0_7_4, List.forall_mem_cons.mpr ⟨hct_leastOf_0_7_5, fun _ h => absurd h List.not_mem_nil⟩⟩⟩⟩⟩⟩) (by decide +kernel)
def ct_kinOf_0_7_6 : zCt := (184, [.inr (.inr (36, 0)), .inl (2147483654, 2147483654)], [(606209, (2147483648, 2147483648)), (606210, (2147483655, 2147483655))], [], [.inl (some (.inl (2147483654, 2147483654)), [])], 5)
theorem hct_kinOf_0_7_6 : z_ctH zTb ct_kinOf_0_7_6 := z_ct_ok [] z_hds_ok [ct_leastOf_0_7_0, ct_leastOf_0_7_1, ct_leastOf_0_7_2, ct_leastOf_0_7_3, ct_leastOf_0_7_4, ct_leastOf_0_7_5, ct_leastOf_0_7_6] [] 4 1 (List.forall_mem_cons.mpr ⟨hct_leastOf_0_7_0, List.forall_mem_cons.mpr ⟨hct_leastOf_0_7_1, List.forall_mem_cons.mpr ⟨hct_leastOf_0_7_2, List.forall_mem_cons.mpr ⟨hct_leastOf_0_7_3, List.forall_mem_cons.mpr ⟨hct_leastOf_0_7_4, List.forall_mem_cons.mpr ⟨hct_leastOf_0_7_5, List.forall_mem_cons.mpr ⟨hct_leastOf_0_7_6, fun _ h => absurd h List.not_mem_nil⟩⟩⟩⟩⟩⟩⟩) (by decide +kernel)
def ct_kins_0_8 : zCt := (185, [.inr (.inr (36, 0))], [(606209, (2147483648, 2147483648)), (606210, (2147483656, 2147483656))], [], [.inl (some (.inl (2147483656, 2147483656)), [])], 5)
theorem hct_kins_0_8 : z_ctH zTb ct_kins_0_8 := z_ct_ok [] z_hds_ok [ct_leastOf_0_8_0, ct_leastOf_0_8_1, ct_leastOf_0_8_2, ct_leastOf_0_8_3, ct_leastOf_0_8_4, ct_leastOf_0_8_5, ct_leastOf_0_8_6, ct_leastOf_0_8_7] [] 4 1 (List.forall_mem_cons.mpr ⟨hct_leastOf_0_8_0, List.forall_mem_cons.mpr ⟨hct_leastOf_0_8_1, List.forall_mem_cons.mpr ⟨hct_leastOf_0_8_2, List.forall_mem_cons.mpr ⟨hct_leastOf_0_8_3, List.forall_mem_cons.mpr ⟨hct_leastOf_0_8_4, List.forall_mem_cons.mpr ⟨hct_leastOf_0_8_5, List.forall_mem_cons.mpr ⟨hct_leastOf_0_8_6, List.forall_mem_cons.mpr ⟨hct_leastOf_0_8_7, fun _ h => absurd h List.not_mem_nil⟩⟩⟩⟩⟩⟩⟩⟩) (by decide +kernel)
def ct_kinOf_0_8_0 : zCt := (184, [.inr (.inr (36, 0)), .inl (2147483648, 2147483648)], [(606209, (2147483648, 2147483648)), (606210, (2147483656, 2147483656))], [], [.inl (some (.inl (2147483648, 2147483648)), [])], 5)
theorem hct_kinOf_0_8_0 : z_ctH zTb ct_kinOf_0_8_0 := z_ct_ok [] z_hds_ok [ct_leastOf_0_8_0] [] 4 1 (List.forall_mem_cons.mpr ⟨hct_leastOf_0_8_0, fun _ h => absurd h List.not_mem_nil⟩) (by decide +kernel)
def ct_kinOf_0_8_1 : zCt := (184, [.inr (.inr (36, 0)), .inl (2147483649, 2147483649)], [(606209, (2147483648, 2147483648)), (606210, (2147483656, 2147483656))], [], [.inl (some (.inl (2147483649, 2147483649)), [])], 5)
theorem hct_kinOf_0_8_1 : z_ctH zTb ct_kinOf_0_8_1 := z_ct_ok [] z_hds_ok [ct_leastOf_0_8_0, ct_leastOf_0_8_1] [] 4 1 (List.forall_mem_cons.mpr ⟨hct_leastOf_0_8_0, List.forall_mem_cons.mpr ⟨hct_leastOf_0_8_1, fun _ h => absurd h List.not_mem_nil⟩⟩) (by decide +kernel)
def ct_kinOf_0_8_2 : zCt := (184, [.inr (.inr (36, 0)), .inl (2147483650, 2147483650)], [(606209, (2147483648, 2147483648)), (606210, (2147483656, 2147483656))], [], [.inl (some (.inl (2147483650, 2147483650)), [])], 5)
theorem hct_kinOf_0_8_2 : z_ctH zTb ct_kinOf_0_8_2 := z_ct_ok [] z_hds_ok [ct_leastOf_0_8_0, ct_leastOf_0_8_1, ct_leastOf_0_8_2] [] 4 1 (List.forall_mem_cons.mpr ⟨hct_leastOf_0_8_0, List.forall_mem_cons.mpr ⟨hct_leastOf_0_8_1, List.forall_mem_cons.mpr ⟨hct_leastOf_0_8_2, fun _ h => absurd h List.not_mem_nil⟩⟩⟩) (by decide +kernel)
def ct_kinOf_0_8_3 : zCt := (184, [.inr (.inr (36, 0)), .inl (2147483651, 2147483651)], [(606209, (2147483648, 2147483648)), (606210, (2147483656, 2147483656))], [], [.inl (some (.inl (2147483651, 2147483651)), [])], 5)
theorem hct_kinOf_0_8_3 : z_ctH zTb ct_kinOf_0_8_3 := z_ct_ok [] z_hds_ok [ct_leastOf_0_8_0, ct_leastOf_0_8_1, ct_leastOf_0_8_2, ct_leastOf_0_8_3] [] 4 1 (List.forall_mem_cons.mpr ⟨hct_leastOf_0_8_0, List.forall_mem_cons.mpr ⟨hct_leastOf_0_8_1, List.forall_mem_cons.mpr ⟨hct_leastOf_0_8_2, List.forall_mem_cons.mpr ⟨hct_leastOf_0_8_3, fun _ h => absurd h List.not_mem_nil⟩⟩⟩⟩) (by decide +kernel)
def ct_kinOf_0_8_4 : zCt := (184, [.inr (.inr (36, 0)), .inl (2147483652, 2147483652)], [(606209, (2147483648, 2147483648)), (606210, (2147483656, 2147483656))], [], [.inl (some (.inl (2147483652, 2147483652)), [])], 5)
theorem hct_kinOf_0_8_4 : z_ctH zTb ct_kinOf_0_8_4 := z_ct_ok [] z_hds_ok [ct_leastOf_0_8_0, ct_leastOf_0_8_1, ct_leastOf_0_8_2, ct_leastOf_0_8_3, ct_leastOf_0_8_4] [] 4 1 (List.forall_mem_cons.mpr ⟨hct_leastOf_0_8_0, List.forall_mem_cons.mpr ⟨hct_leastOf_0_8_1, List.forall_mem_cons.mpr ⟨hct_leastOf_0_8_2, List.forall_mem_cons.mpr ⟨hct_leastOf_0_8_3, List.forall_mem_cons.mpr ⟨hct_leastOf_0_8_4, fun _ h => absurd h List.not_mem_nil⟩⟩⟩⟩⟩) (by decide +kernel)
def ct_kinOf_0_8_5 : zCt := (184, [.inr (.inr (36, 0)), .inl (2147483653, 2147483653)], [(606209, (2147483648, 2147483648)), (606210, (2147483656, 2147483656))], [], [.inl (some (.inl (2147483653, 2147483653)), [])], 5)
theorem hct_kinOf_0_8_5 : z_ctH zTb ct_kinOf_0_8_5 := z_ct_ok [] z_hds_ok [ct_leastOf_0_8_0, ct_leastOf_0_8_1, ct_leastOf_0_8_2, ct_leastOf_0_8_3, ct_leastOf_0_8_4, ct_leastOf_0_8_5] [] 4 1 (List.forall_mem_cons.mpr ⟨hct_leastOf_0_8_0, List.forall_mem_cons.mpr ⟨hct_leastOf_0_8_1, List.forall_mem_cons.mpr ⟨hct_leastOf_0_8_2, List.forall_mem_cons.mpr ⟨hct_leastOf_0_8_3, List.forall_mem_cons.mpr ⟨hct_leastOf_0_8_4, List.forall_mem_cons.mpr ⟨hct_leastOf_0_8_5, fun _ h => absurd h List.not_mem_nil⟩⟩⟩⟩⟩⟩) (by decide +kernel)
def ct_kinOf_0_8_6 : zCt := (184, [.inr (.inr (36, 0)), .inl (2147483654, 2147483654)], [(606209, (2147483648, 2147483648)), (606210, (2147483656, 2147483656))], [], [.inl (some (.inl (2147483654, 2147483654)), [])], 5)
theorem hct_kinOf_0_8_6 : z_ctH zTb ct_kinOf_0_8_6 := z_ct_ok [] z_hds_ok [ct_leastOf_0_8_0, ct_leastOf_0_8_1, ct_leastOf_0_8_2, ct_leastOf_0_8_3, ct_leastOf_0_8_4, ct_leastOf_0_8_5, ct_leastOf_0_8_6] [] 4 1 (List.forall_mem_cons.mpr ⟨hct_leastOf_0_8_0, List.forall_mem_cons.mpr ⟨hct_leastOf_0_8_1, List.forall_mem_cons.mpr ⟨hct_leastOf_0_8_2, List.forall_mem_cons.mpr ⟨hct_leastOf_0_8_3, List.forall_mem_cons.mpr ⟨hct_leastOf_0_8_4, List.forall_mem_cons.mpr ⟨hct_leastOf_0_8_5, List.forall_mem_cons.mpr ⟨hct_leastOf_0_8_6, fun _ h => absurd h List.not_mem_nil⟩⟩⟩⟩⟩⟩⟩) (by decide +kernel)
def ct_kinOf_0_8_7 : zCt := (184, [.inr (.inr (36, 0)), .inl (2147483655, 2147483655)], [(606209, (2147483648, 2147483648)), (606210, (2147483656, 2147483656))], [], [.inl (some (.inl (2147483655, 2147483655)), [])], 5)
theorem hct_kinOf_0_8_7 : z_ctH zTb ct_kinOf_0_8_7 := z_ct_ok [] z_hds_ok [ct_leastOf_0_8_0, ct_leastOf_0_8_1, ct_leastOf_0_8_2, ct_leastOf_0_8_3, ct_leastOf_0_8_4, ct_leastOf_0_8_5, ct_leastOf_0_8_6, ct_leastOf_0_8_7] [] 4 1 (List.forall_mem_cons.mpr ⟨hct_leastOf_0_8_0, List.forall_mem_cons.mpr ⟨hct_leastOf_0_8_1, List.forall_mem_cons.mpr ⟨hct_leastOf_0_8_2, List.forall_mem_cons.mpr ⟨hct_leastOf_0_8_3, List.forall_mem_cons.mpr ⟨hct_leastOf_0_8_4, List.forall_mem_cons.mpr ⟨hct_leastOf_0_8_5, List.forall_mem_cons.mpr ⟨hct_leastOf_0_8_6, List.forall_mem_cons.mpr ⟨hct_leastOf_0_8_7, fun _ h => absurd h List.not_mem_nil⟩⟩⟩⟩⟩⟩⟩⟩) (by decide +kernel)
def ct_kins_1_4 : zCt := (185, [.inr (.inr (36, 0))], [(606209, (2147483649, 2147483649)), (606210, (2147483652, 2147483652))], [], [.inl (some (.inl (2147483652, 2147483652)), [])], 5)
theorem hct_kins_1_4 : z_ctH zTb ct_kins_1_4 := z_ct_ok [] z_hds_ok [ct_leastOf_1_4_0, ct_leastOf_1_4_1, ct_leastOf_1_4_2, ct_leastOf_1_4_3] [] 4 1 (List.forall_mem_cons.mpr ⟨hct_leastOf_1_4_0, List.forall_mem_cons.mpr ⟨hct_leastOf_1_4_1, List.forall_mem_cons.mpr ⟨hct_leastOf_1_4_2, List.forall_mem_cons.mpr ⟨hct_leastOf_1_4_3, fun _ h => absurd h List.not_mem_nil⟩⟩⟩⟩) (by decide +kernel)
def ct_kinOf_1_4_0 : zCt := (184, [.inr (.inr (36, 0)), .inl (2147483648, 2147483648)], [(606209, (2147483649, 2147483649)), (606210, (2147483652, 2147483652))], [], [.inl (some (.inl (2147483648, 2147483648)), [])], 5)
theorem hct_kinOf_1_4_0 : z_ctH zTb ct_kinOf_1_4_0 := z_ct_ok [] z_hds_ok [ct_leastOf_1_4_0] [] 4 1 (List.forall_mem_cons.mpr ⟨hct_leastOf_1_4_0, fun _ h => absurd h List.not_mem_nil⟩) (by decide +kernel)
def ct_kinOf_1_4_1 : zCt := (184, [.inr (.inr (36, 0)), .inl (2147483649, 2147483649)], [(606209, (2147483649, 2147483649)), (606210, (2147483652, 2147483652))], [], [.inl (some (.inl (2147483649, 2147483649)), [])], 5)
theorem hct_kinOf_1_4_1 : z_ctH zTb ct_kinOf_1_4_1 := z_ct_ok [] z_hds_ok [ct_leastOf_1_4_0, ct_leastOf_1_4_1] [] 4 1 (List.forall_mem_cons.mpr ⟨hct_leastOf_1_4_0, List.forall_mem_cons.mpr ⟨hct_leastOf_1_4_1, fun _ h => absurd h List.not_mem_nil⟩⟩) (by decide +kernel)
def ct_kinOf_1_4_2 : zCt := (184, [.inr (.inr (36, 0)), .inl (2147483650, 2147483650)], [(606209, (2147483649, 2147483649)), (606210, (2147483652, 2147483652))], [], [.inl (some (.inl (2147483650, 2147483650)), [])], 5)
theorem hct_kinOf_1_4_2 : z_ctH zTb ct_kinOf_1_4_2 := z_ct_ok [] z_hds_ok [ct_leastOf_1_4_0, ct_leastOf_1_4_1, ct_leastOf_1_4_2] [] 4 1 (List.forall_mem_cons.mpr ⟨hct_leastOf_1_4_0, List.forall_mem_cons.mpr ⟨hct_leastOf_1_4_1, List.forall_mem_cons.mpr ⟨hct_leastOf_1_4_2, fun _ h => absurd h List.not_mem_nil⟩⟩⟩) (by decide +kernel)
def ct_kinOf_1_4_3 : zCt := (184, [.inr (.inr (36, 0)), .inl (2147483651, 2147483651)], [(606209, (2147483649, 2147483649)), (606210, (2147483652, 2147483652))], [], [.inl (some (.inl (2147483651, 2147483651)), [])], 5)
theorem hct_kinOf_1_4_3 : z_ctH zTb ct_kinOf_1_4_3 := z_ct_ok [] z_hds_ok [ct_leastOf_1_4_0, ct_leastOf_1_4_1, ct_leastOf_1_4_2, ct_leastOf_1_4_3] [] 4 1 (List.forall_mem_cons.mpr ⟨hct_leastOf_1_4_0, List.forall_mem_cons.mpr ⟨hct_leastOf_1_4_1, List.forall_mem_cons.mpr ⟨hct_leastOf_1_4_2, List.forall_mem_cons.mpr ⟨hct_leastOf_1_4_3, fun _ h => absurd h List.not_mem_nil⟩⟩⟩⟩) (by decide +kernel)
def ct_kins_1_6 : zCt := (185, [.inr (.inr (36, 0))], [(606209, (2147483649, 2147483649)), (606210, (2147483654, 2147483654))], [], [.inl (some (.inl (2147483651, 2147483651)), [])], 5)
theorem hct_kins_1_6 : z_ctH zTb ct_kins_1_6 := z_ct_ok [] z_hds_ok [ct_leastOf_1_6_0, ct_leastOf_1_6_1, ct_leastOf_1_6_2, ct_leastOf_1_6_3, ct_leastOf_1_6_4, ct_leastOf_1_6_5] [] 4 1 (List.forall_mem_cons.mpr ⟨hct_leastOf_1_6_0, List.forall_mem_cons.mpr ⟨hct_leastOf_1_6_1, List.forall_mem_cons.mpr ⟨hct_leastOf_1_6_2, List.forall_mem_cons.mpr ⟨hct_leastOf_1_6_3, List.forall_mem_cons.mpr ⟨hct_leastOf_1_6_4, List.forall_mem_cons.mpr ⟨hct_leastOf_1_6_5, fun _ h => absurd h List.not_mem_nil⟩⟩⟩⟩⟩⟩) (by decide +kernel)
def ct_kinOf_1_6_0 : zCt := (184, [.inr (.inr (36, 0)), .inl (2147483648, 2147483648)], [(606209, (2147483649, 2147483649)), (606210, (2147483654, 2147483654))], [], [.inl (some (.inl (2147483648, 2147483648)), [])], 5)
theorem hct_kinOf_1_6_0 : z_ctH zTb ct_kinOf_1_6_0 := z_ct_ok [] z_hds_ok [ct_leastOf_1_6_0] [] 4 1 (List.forall_mem_cons.mpr ⟨hct_leastOf_1_6_0, fun _ h => absurd h List.not_mem_nil⟩) (by decide +kernel)
def ct_kinOf_1_6_1 : zCt := (184, [.inr (.inr (36, 0)), .inl (2147483649, 2147483649)], [(606209, (2147483649, 2147483649)), (606210, (2147483654, 2147483654))], [], [.inl (some (.inl (2147483649, 2147483649)), [])], 5)
theorem hct_kinOf_1_6_1 : z_ctH zTb ct_kinOf_1_6_1 := z_ct_ok [] z_hds_ok [ct_leastOf_1_6_0, ct_leastOf_1_6_1] [] 4 1 (List.forall_mem_cons.mpr ⟨hct_leastOf_1_6_0, List.forall_mem_cons.mpr ⟨hct_leastOf_1_6_1, fun _ h => absurd h List.not_mem_nil⟩⟩) (by decide +kernel)
def ct_kinOf_1_6_2 : zCt := (184, [.inr (.inr (36, 0)), .inl (2147483650, 2147483650)], [(606209, (2147483649, 2147483649)), (606210, (2147483654, 2147483654))], [], [.inl (some (.inl (2147483649, 2147483649)), [])], 5)
theorem hct_kinOf_1_6_2 : z_ctH zTb ct_kinOf_1_6_2 := z_ct_ok [] z_hds_ok [ct_leastOf_1_6_0, ct_leastOf_1_6_2] [] 4 1 (List.forall_mem_cons.mpr ⟨hct_leastOf_1_6_0, List.forall_mem_cons.mpr ⟨hct_leastOf_1_6_2, fun _ h => absurd h List.not_mem_nil⟩⟩) (by decide +kernel)
def ct_kinOf_1_6_3 : zCt := (184, [.inr (.inr (36, 0)), .inl (2147483651, 2147483651)], [(606209, (2147483649, 2147483649)), (606210, (2147483654, 2147483654))], [], [.inl (some (.inl (2147483650, 2147483650)), [])], 5)
theorem hct_kinOf_1_6_3 : z_ctH zTb ct_kinOf_1_6_3 := z_ct_ok [] z_hds_ok [ct_leastOf_1_6_0, ct_leastOf_1_6_1, ct_leastOf_1_6_2, ct_leastOf_1_6_3] [] 4 1 (List.forall_mem_cons.mpr ⟨hct_leastOf_1_6_0, List.forall_mem_cons.mpr ⟨hct_leastOf_1_6_1, List.forall_mem_cons.mpr ⟨hct_leastOf_1_6_2, List.forall_mem_cons.mpr ⟨hct_leastOf_1_6_3, fun _ h => absurd h List.not_mem_nil⟩⟩⟩⟩) (by decide +kernel)
def ct_kinOf_1_6_4 : zCt := (184, [.inr (.inr (36, 0)), .inl (2147483652, 2147483652)], [(606209, (2147483649, 2147483649)), (606210, (2147483654, 2147483654))], [], [.inl (some (.inl (2147483650, 2147483650)), [])], 5)
theorem hct_kinOf_1_6_4 : z_ctH zTb ct_kinOf_1_6_4 := z_ct_ok [] z_hds_ok [ct_leastOf_1_6_0, ct_leastOf_1_6_1, ct_leastOf_1_6_2, ct_leastOf_1_6_4] [] 4 1 (List.forall_mem_cons.mpr ⟨hct_leastOf_1_6_0, List.forall_mem_cons.mpr ⟨hct_leastOf_1_6_1, List.forall_mem_cons.mpr ⟨hct_leastOf_1_6_2, List.forall_mem_cons.mpr ⟨hct_leastOf_1_6_4, fun _ h => absurd h List.not_mem_nil⟩⟩⟩⟩) (by decide +kernel)
def ct_kinOf_1_6_5 : zCt := (184, [.inr (.inr (36, 0)), .inl (2147483653, 2147483653)], [(606209, (2147483649, 2147483649)), (606210, (2147483654, 2147483654))], [], [.inl (some (.inl (2147483650, 2147483650)), [])], 5)
theorem hct_kinOf_1_6_5 : z_ctH zTb ct_kinOf_1_6_5 := z_ct_ok [] z_hds_ok [ct_leastOf_1_6_0, ct_leastOf_1_6_1, ct_leastOf_1_6_2, ct_leastOf_1_6_5] [] 4 1 (List.forall_mem_cons.mpr ⟨hct_leastOf_1_6_0, List.forall_mem_cons.mpr ⟨hct_leastOf_1_6_1, List.forall_mem_cons.mpr ⟨hct_leastOf_1_6_2, List.forall_mem_cons.mpr ⟨hct_leastOf_1_6_5, fun _ h => absurd h List.not_mem_nil⟩⟩⟩⟩) (by decide +kernel)
def ct_kins_1_8 : zCt := (185, [.inr (.inr (36, 0))], [(606209, (2147483649, 2147483649)), (606210, (2147483656, 2147483656))], [], [.inl (some (.inl (2147483653, 2147483653)), [])], 5)
theorem hct_kins_1_8 : z_ctH zTb ct_kins_1_8 := z_ct_ok [] z_hds_ok [ct_leastOf_1_8_0, ct_leastOf_1_8_1, ct_leastOf_1_8_2, ct_leastOf_1_8_3, ct_leastOf_1_8_4, ct_leastOf_1_8_5, ct_leastOf_1_8_6, ct_leastOf_1_8_7] [] 4 1 (List.forall_mem_cons.mpr ⟨hct_leastOf_1_8_0, List.forall_mem_cons.mpr ⟨hct_leastOf_1_8_1, List.forall_mem_cons.mpr ⟨hct_leastOf_1_8_2, List.forall_mem_cons.mpr ⟨hct_leastOf_1_8_3, List.forall_mem_cons.mpr ⟨hct_leastOf_1_8_4, List.forall_mem_cons.mpr ⟨hct_leastOf_1_8_5, List.forall_mem_cons.mpr ⟨hct_leastOf_1_8_6, List.forall_mem_cons.mpr ⟨hct_leastOf_1_8_7, fun _ h => absurd h List.not_mem_nil⟩⟩⟩⟩⟩⟩⟩⟩) (by decide +kernel)
def ct_kinOf_1_8_0 : zCt := (184, [.inr (.inr (36, 0)), .inl (2147483648, 2147483648)], [(606209, (2147483649, 2147483649)), (606210, (2147483656, 2147483656))], [], [.inl (some (.inl (2147483648, 2147483648)), [])], 5)
theorem hct_kinOf_1_8_0 : z_ctH zTb ct_kinOf_1_8_0 := z_ct_ok [] z_hds_ok [ct_leastOf_1_8_0] [] 4 1 (List.forall_mem_cons.mpr ⟨hct_leastOf_1_8_0, fun _ h => absurd h List.not_mem_nil⟩) (by decide +kernel)
def ct_kinOf_1_8_1 : zCt := (184, [.inr (.inr (36, 0)), .inl (2147483649, 2147483649)], [(606209, (2147483649, 2147483649)), (606210, (2147483656, 2147483656))], [], [.inl (some (.inl (2147483649, 2147483649)), [])], 5)
theorem hct_kinOf_1_8_1 : z_ctH zTb ct_kinOf_1_8_1 := z_ct_ok [] z_hds_ok [ct_leastOf_1_8_0, ct_leastOf_1_8_1] [] 4 1 (List.forall_mem_cons.mpr ⟨hct_leastOf_1_8_0, List.forall_mem_cons.mpr ⟨hct_leastOf_1_8_1, fun _ h => absurd h List.not_mem_nil⟩⟩) (by decide +kernel)
def ct_kinOf_1_8_2 : zCt := (184, [.inr (.inr (36, 0)), .inl (2147483650, 2147483650)], [(606209, (2147483649, 2147483649)), (606210, (2147483656, 2147483656))], [], [.inl (some (.inl (2147483650, 2147483650)), [])], 5)
theorem hct_kinOf_1_8_2 : z_ctH zTb ct_kinOf_1_8_2 := z_ct_ok [] z_hds_ok [ct_leastOf_1_8_0, ct_leastOf_1_8_1, ct_leastOf_1_8_2] [] 4 1 (List.forall_mem_cons.mpr ⟨hct_leastOf_1_8_0, List.forall_mem_cons.mpr ⟨hct_leastOf_1_8_1, List.forall_mem_cons.mpr ⟨hct_leastOf_1_8_2, fun _ h => absurd h List.not_mem_nil⟩⟩⟩) (by decide +kernel)
def ct_kinOf_1_8_3 : zCt := (184, [.inr (.inr (36, 0)), .inl (2147483651, 2147483651)], [(606209, (2147483649, 2147483649)), (606210, (2147483656, 2147483656))], [], [.inl (some (.inl (2147483649, 2147483649)), [])], 5)
theorem hct_kinOf_1_8_3 : z_ctH zTb ct_kinOf_1_8_3 := z_ct_ok [] z_hds_ok [ct_leastOf_1_8_0, ct_leastOf_1_8_3] [] 4 1 (List.forall_mem_cons.mpr ⟨hct_leastOf_1_8_0, List.forall_mem_cons.mpr ⟨hct_leastOf_1_8_3, fun _ h => absurd h List.not_mem_nil⟩⟩) (by decide +kernel)
def ct_kinOf_1_8_4 : zCt := (184, [.inr (.inr (36, 0)), .inl (2147483652, 2147483652)], [(606209, (2147483649, 2147483649)), (606210, (2147483656, 2147483656))], [], [.inl (some (.inl (2147483651, 2147483651)), [])], 5)
theorem hct_kinOf_1_8_4 : z_ctH zTb ct_kinOf_1_8_4 := z_ct_ok [] z_hds_ok [ct_leastOf_1_8_0, ct_leastOf_1_8_1, ct_leastOf_1_8_2, ct_leastOf_1_8_3, ct_leastOf_1_8_4] [] 4 1 (List.forall_mem_cons.mpr ⟨hct_leastOf_1_8_0, List.forall_mem_cons.mpr ⟨hct_leastOf_1_8_1, List.forall_mem_cons.mpr ⟨hct_leastOf_1_8_2, List.forall_mem_cons.mpr ⟨hct_leastOf_1_8_3, List.forall_mem_cons.mpr ⟨hct_leastOf_1_8_4, fun _ h => absurd h List.not_mem_nil⟩⟩⟩⟩⟩) (by decide +kernel)
def ct_kinOf_1_8_5 : zCt := (184, [.inr (.inr (36, 0)), .inl (2147483653, 2147483653)], [(606209, (2147483649, 2147483649)), (606210, (2147483656, 2147483656))], [], [.inl (some (.inl (2147483652, 2147483652)), [])], 5)
theorem hct_kinOf_1_8_5 : z_ctH zTb ct_kinOf_1_8_5 := z_ct_ok [] z_hds_ok [ct_leastOf_1_8_0, ct_leastOf_1_8_1, ct_leastOf_1_8_2, ct_leastOf_1_8_3, ct_leastOf_1_8_4, ct_leastOf_1_8_5] [] 4 1 (List.forall_mem_cons.mpr ⟨hct_leastOf_1_8_0, List.forall_mem_cons.mpr ⟨hct_leastOf_1_8_1, List.forall_mem_cons.mpr ⟨hct_leastOf_1_8_2, List.forall_mem_cons.mpr ⟨hct_leastOf_1_8_3, List.forall_mem_cons.mpr ⟨hct_leastOf_1_8_4, List.forall_mem_cons.mpr ⟨hct_leastOf_1_8_5, fun _ h => absurd h List.not_mem_nil⟩⟩⟩⟩⟩⟩) (by decide +kernel)
def ct_kinOf_1_8_6 : zCt := (184, [.inr (.inr (36, 0)), .inl (2147483654, 2147483654)], [(606209, (2147483649, 2147483649)), (606210, (2147483656, 2147483656))], [], [.inl (some (.inl (2147483651, 2147483651)), [])], 5)
theorem hct_kinOf_1_8_6 : z_ctH zTb ct_kinOf_1_8_6 := z_ct_ok [] z_hds_ok [ct_leastOf_1_8_0, ct_leastOf_1_8_1, ct_leastOf_1_8_2, ct_leastOf_1_8_3, ct_leastOf_1_8_6] [] 4 1 (List.forall_mem_cons.mpr ⟨hct_leastOf_1_8_0, List.forall_mem_cons.mpr ⟨hct_leastOf_1_8_1, List.forall_mem_cons.mpr ⟨hct_leastOf_1_8_2, List.forall_mem_cons.mpr ⟨hct_leastOf_1_8_3, List.forall_mem_cons.mpr ⟨hct_leastOf_1_8_6, fun _ h => absurd h List.not_mem_nil⟩⟩⟩⟩⟩) (by decide +kernel)
def ct_kinOf_1_8_7 : zCt := (184, [.inr (.inr (36, 0)), .inl (2147483655, 2147483655)], [(606209, (2147483649, 2147483649)), (606210, (2147483656, 2147483656))], [], [.inl (some (.inl (2147483652, 2147483652)), [])], 5)
theorem hct_kinOf_1_8_7 : z_ctH zTb ct_kinOf_1_8_7 := z_ct_ok [] z_hds_ok [ct_leastOf_1_8_0, ct_leastOf_1_8_1, ct_leastOf_1_8_2, ct_leastOf_1_8_3, ct_leastOf_1_8_4, ct_leastOf_1_8_7] [] 4 1 (List.forall_mem_cons.mpr ⟨hct_leastOf_1_8_0, List.forall_mem_cons.mpr ⟨hct_leastOf_1_8_1, List.forall_mem_cons.mpr ⟨hct_leastOf_1_8_2, List.forall_mem_cons.mpr ⟨hct_leastOf_1_8_3, List.forall_mem_cons.mpr ⟨hct_leastOf_1_8_4, List.forall_mem_cons.mpr ⟨hct_leastOf_1_8_7, fun _ h => absurd h List.not_mem_nil⟩⟩⟩⟩⟩⟩) (by decide +kernel)
def ct_kins_2_8 : zCt := (185, [.inr (.inr (36, 0))], [(606209, (2147483650, 2147483650)), (606210, (2147483656, 2147483656))], [], [.inl (some (.inl (2147483653, 2147483653)), [])], 5)
theorem hct_kins_2_8 : z_ctH zTb ct_kins_2_8 := z_ct_ok [] z_hds_ok [ct_leastOf_2_8_0, ct_leastOf_2_8_1, ct_leastOf_2_8_2, ct_leastOf_2_8_3, ct_leastOf_2_8_4, ct_leastOf_2_8_5, ct_leastOf_2_8_6, ct_leastOf_2_8_7] [] 4 1 (List.forall_mem_cons.mpr ⟨hct_leastOf_2_8_0, List.forall_mem_cons.mpr ⟨hct_leastOf_2_8_1, List.forall_mem_cons.mpr ⟨hct_leastOf_2_8_2, List.forall_mem_cons.mpr ⟨hct_leastOf_2_8_3, List.forall_mem_cons.mpr ⟨hct_leastOf_2_8_4, List.forall_mem_cons.mpr ⟨hct_leastOf_2_8_5, List.forall_mem_cons.mpr ⟨hct_leastOf_2_8_6, List.forall_mem_cons.mpr ⟨hct_leastOf_2_8_7, fun _ h => absurd h List.not_mem_nil⟩⟩⟩⟩⟩⟩⟩⟩) (by decide +kernel)
def ct_kinOf_2_8_0 : zCt := (184, [.inr (.inr (36, 0)), .inl (2147483648, 2147483648)], [(606209, (2147483650, 2147483650)), (606210, (2147483656, 2147483656))], [], [.inl (some (.inl (2147483648, 2147483648)), [])], 5)
theorem hct_kinOf_2_8_0 : z_ctH zTb ct_kinOf_2_8_0 := z_ct_ok [] z_hds_ok [ct_leastOf_2_8_0] [] 4 1 (List.forall_mem_cons.mpr ⟨hct_leastOf_2_8_0, fun _ h => absurd h List.not_mem_nil⟩) (by decide +kernel)
def ct_kinOf_2_8_1 : zCt := (184, [.inr (.inr (36, 0)), .inl (2147483649, 2147483649)], [(606209, (2147483650, 2147483650)), (606210, (2147483656, 2147483656))], [], [.inl (some (.inl (2147483649, 2147483649)), [])], 5)
theorem hct_kinOf_2_8_1 : z_ctH zTb ct_kinOf_2_8_1 := z_ct_ok [] z_hds_ok [ct_leastOf_2_8_0, ct_leastOf_2_8_1] [] 4 1 (List.forall_mem_cons.mpr ⟨hct_leastOf_2_8_0, List.forall_mem_cons.mpr ⟨hct_leastOf_2_8_1, fun _ h => absurd h List.not_mem_nil⟩⟩) (by decide +kernel)
def ct_kinOf_2_8_2 : zCt := (184, [.inr (.inr (36, 0)), .inl (2147483650, 2147483650)], [(606209, (2147483650, 2147483650)), (606210, (2147483656, 2147483656))], [], [.inl (some (.inl (2147483650, 2147483650)), [])], 5)
theorem hct_kinOf_2_8_2 : z_ctH zTb ct_kinOf_2_8_2 := z_ct_ok [] z_hds_ok [ct_leastOf_2_8_0, ct_leastOf_2_8_1, ct_leastOf_2_8_2] [] 4 1 (List.forall_mem_cons.mpr ⟨hct_leastOf_2_8_0, List.forall_mem_cons.mpr ⟨hct_leastOf_2_8_1, List.forall_mem_cons.mpr ⟨hct_leastOf_2_8_2, fun _ h => absurd h List.not_mem_nil⟩⟩⟩) (by decide +kernel)
def ct_kinOf_2_8_3 : zCt := (184, [.inr (.inr (36, 0)), .inl (2147483651, 2147483651)], [(606209, (2147483650, 2147483650)), (606210, (2147483656, 2147483656))], [], [.inl (some (.inl (2147483649, 2147483649)), [])], 5)
theorem hct_kinOf_2_8_3 : z_ctH zTb ct_kinOf_2_8_3 := z_ct_ok [] z_hds_ok [ct_leastOf_2_8_0, ct_leastOf_2_8_3] [] 4 1 (List.forall_mem_cons.mpr ⟨hct_leastOf_2_8_0, List.forall_mem_cons.mpr ⟨hct_leastOf_2_8_3, fun _ h => absurd h List.not_mem_nil⟩⟩) (by decide +kernel)
def ct_kinOf_2_8_4 : zCt := (184, [.inr (.inr (36, 0)), .inl (2147483652, 2147483652)], [(606209, (2147483650, 2147483650)), (606210, (2147483656, 2147483656))], [], [.inl (some (.inl (2147483651, 2147483651)), [])], 5)
theorem hct_kinOf_2_8_4 : z_ctH zTb ct_kinOf_2_8_4 := z_ct_ok [] z_hds_ok [ct_leastOf_2_8_0, ct_leastOf_2_8_1, ct_leastOf_2_8_2, ct_leastOf_2_8_3, ct_leastOf_2_8_4] [] 4 1 (List.forall_mem_cons.mpr ⟨hct_leastOf_2_8_0, List.forall_mem_cons.mpr ⟨hct_leastOf_2_8_1, List.forall_mem_cons.mpr ⟨hct_leastOf_2_8_2, List.forall_mem_cons.mpr ⟨hct_leastOf_2_8_3, List.forall_mem_cons.mpr ⟨hct_leastOf_2_8_4, fun _ h => absurd h List.not_mem_nil⟩⟩⟩⟩⟩) (by decide +kernel)
def ct_kinOf_2_8_5 : zCt := (184, [.inr (.inr (36, 0)), .inl (2147483653, 2147483653)], [(606209, (2147483650, 2147483650)), (606210, (2147483656, 2147483656))], [], [.inl (some (.inl (2147483652, 2147483652)), [])], 5)
theorem hct_kinOf_2_8_5 : z_ctH zTb ct_kinOf_2_8_5 := z_ct_ok [] z_hds_ok [ct_leastOf_2_8_0, ct_leastOf_2_8_1, ct_leastOf_2_8_2, ct_leastOf_2_8_3, ct_leastOf_2_8_4, ct_leastOf_2_8_5] [] 4 1 (List.forall_mem_cons.mpr ⟨hct_leastOf_2_8_0, List.forall_mem_cons.mpr ⟨hct_leastOf_2_8_1, List.forall_mem_cons.mpr ⟨hct_leastOf_2_8_2, List.forall_mem_cons.mpr ⟨hct_leastOf_2_8_3, List.forall_mem_cons.mpr ⟨hct_leastOf_2_8_4, List.forall_mem_cons.mpr ⟨hct_leastOf_2_8_5, fun _ h => absurd h List.not_mem_nil⟩⟩⟩⟩⟩⟩) (by decide +kernel)
def ct_kinOf_2_8_6 : zCt := (184, [.inr (.inr (36, 0)), .inl (2147483654, 2147483654)], [(606209, (2147483650, 2147483650)), (606210, (2147483656, 2147483656))], [], [.inl (some (.inl (2147483651, 2147483651)), [])], 5)
theorem hct_kinOf_2_8_6 : z_ctH zTb ct_kinOf_2_8_6 := z_ct_ok [] z_hds_ok [ct_leastOf_2_8_0, ct_leastOf_2_8_1, ct_leastOf_2_8_2, ct_leastOf_2_8_3, ct_leastOf_2_8_6] [] 4 1 (List.forall_mem_cons.mpr ⟨hct_leastOf_2_8_0, List.forall_mem_cons.mpr ⟨hct_leastOf_2_8_1, List.forall_mem_cons.mpr ⟨hct_leastOf_2_8_2, List.forall_mem_cons.mpr ⟨hct_leastOf_2_8_3, List.forall_mem_cons.mpr ⟨hct_leastOf_2_8_6, fun _ h => absurd h List.not_mem_nil⟩⟩⟩⟩⟩) (by decide +kernel)
def ct_kinOf_2_8_7 : zCt := (184, [.inr (.inr (36, 0)), .inl (2147483655, 2147483655)], [(606209, (2147483650, 2147483650)), (606210, (2147483656, 2147483656))], [], [.inl (some (.inl (2147483652, 2147483652)), [])], 5)
theorem hct_kinOf_2_8_7 : z_ctH zTb ct_kinOf_2_8_7 := z_ct_ok [] z_hds_ok [ct_leastOf_2_8_0, ct_leastOf_2_8_1, ct_leastOf_2_8_2, ct_leastOf_2_8_3, ct_leastOf_2_8_4, ct_leastOf_2_8_7] [] 4 1 (List.forall_mem_cons.mpr ⟨hct_leastOf_2_8_0, List.forall_mem_cons.mpr ⟨hct_leastOf_2_8_1, List.forall_mem_cons.mpr ⟨hct_leastOf_2_8_2, List.forall_mem_cons.mpr ⟨hct_leastOf_2_8_3, List.forall_mem_cons.mpr ⟨hct_leastOf_2_8_4, List.forall_mem_cons.mpr ⟨hct_leastOf_2_8_7, fun _ h => absurd h List.not_mem_nil⟩⟩⟩⟩⟩⟩) (by decide +kernel)
def ct_kins_3_2 : zCt := (185, [.inr (.inr (36, 0))], [(606209, (2147483651, 2147483651)), (606210, (2147483650, 2147483650))], [], [.inl (some (.inl (2147483650, 2147483650)), [])], 5)
theorem hct_kins_3_2 : z_ctH zTb ct_kins_3_2 := z_ct_ok [] z_hds_ok [ct_leastOf_3_2_0, ct_leastOf_3_2_1] [] 4 1 (List.forall_mem_cons.mpr ⟨hct_leastOf_3_2_0, List.forall_mem_cons.mpr ⟨hct_leastOf_3_2_1, fun _ h => absurd h List.not_mem_nil⟩⟩) (by decide +kernel)
def ct_kinOf_3_2_0 : zCt := (184, [.inr (.inr (36, 0)), .inl (2147483648, 2147483648)], [(606209, (2147483651, 2147483651)), (606210, (2147483650, 2147483650))], [], [.inl (some (.inl (2147483648, 2147483648)), [])], 5)
theorem hct_kinOf_3_2_0 : z_ctH zTb ct_kinOf_3_2_0 := z_ct_ok [] z_hds_ok [ct_leastOf_3_2_0] [] 4 1 (List.forall_mem_cons.mpr ⟨hct_leastOf_3_2_0, fun _ h => absurd h List.not_mem_nil⟩) (by decide +kernel)
def ct_kinOf_3_2_1 : zCt := (184, [.inr (.inr (36, 0)), .inl (2147483649, 2147483649)], [(606209, (2147483651, 2147483651)), (606210, (2147483650, 2147483650))], [], [.inl (some (.inl (2147483649, 2147483649)), [])], 5)
theorem hct_kinOf_3_2_1 : z_ctH zTb ct_kinOf_3_2_1 := z_ct_ok [] z_hds_ok [ct_leastOf_3_2_0, ct_leastOf_3_2_1] [] 4 1 (List.forall_mem_cons.mpr ⟨hct_leastOf_3_2_0, List.forall_mem_cons.mpr ⟨hct_leastOf_3_2_1, fun _ h => absurd h List.not_mem_nil⟩⟩) (by decide +kernel)
def ct_kins_3_4 : zCt := (185, [.inr (.inr (36, 0))], [(606209, (2147483651, 2147483651)), (606210, (2147483652, 2147483652))], [], [.inl (some (.inl (2147483652, 2147483652)), [])], 5)
theorem hct_kins_3_4 : z_ctH zTb ct_kins_3_4 := z_ct_ok [] z_hds_ok [ct_leastOf_3_4_0, ct_leastOf_3_4_1, ct_leastOf_3_4_2, ct_leastOf_3_4_3] [] 4 1 (List.forall_mem_cons.mpr ⟨hct_leastOf_3_4_0, List.forall_mem_cons.mpr ⟨hct_leastOf_3_4_1, List.forall_mem_cons.mpr ⟨hct_leastOf_3_4_2, List.forall_mem_cons.mpr ⟨hct_leastOf_3_4_3, fun _ h => absurd h List.not_mem_nil⟩⟩⟩⟩) (by decide +kernel)
def ct_kinOf_3_4_0 : zCt := (184, [.inr (.inr (36, 0)), .inl (2147483648, 2147483648)], [(606209, (2147483651, 2147483651)), (606210, (2147483652, 2147483652))], [], [.inl (some (.inl (2147483648, 2147483648)), [])], 5)
theorem hct_kinOf_3_4_0 : z_ctH zTb ct_kinOf_3_4_0 := z_ct_ok [] z_hds_ok [ct_leastOf_3_4_0] [] 4 1 (List.forall_mem_cons.mpr ⟨hct_leastOf_3_4_0, fun _ h => absurd h List.not_mem_nil⟩) (by decide +kernel)
def ct_kinOf_3_4_1 : zCt := (184, [.inr (.inr (36, 0)), .inl (2147483649, 2147483649)], [(606209, (2147483651, 2147483651)), (606210, (2147483652, 2147483652))], [], [.inl (some (.inl (2147483649, 2147483649)), [])], 5)
theorem hct_kinOf_3_4_1 : z_ctH zTb ct_kinOf_3_4_1 := z_ct_ok [] z_hds_ok [ct_leastOf_3_4_0, ct_leastOf_3_4_1] [] 4 1 (List.forall_mem_cons.mpr ⟨hct_leastOf_3_4_0, List.forall_mem_cons.mpr ⟨hct_leastOf_3_4_1, fun _ h => absurd h List.not_mem_nil⟩⟩) (by decide +kernel)
def ct_kinOf_3_4_2 : zCt := (184, [.inr (.inr (36, 0)), .inl (2147483650, 2147483650)], [(606209, (2147483651, 2147483651)), (606210, (2147483652, 2147483652))], [], [.inl (some (.inl (2147483650, 2147483650)), [])], 5)
theorem hct_kinOf_3_4_2 : z_ctH zTb ct_kinOf_3_4_2 := z_ct_ok [] z_hds_ok [ct_leastOf_3_4_0, ct_leastOf_3_4_1, ct_leastOf_3_4_2] [] 4 1 (List.forall_mem_cons.mpr ⟨hct_leastOf_3_4_0, List.forall_mem_cons.mpr ⟨hct_leastOf_3_4_1, List.forall_mem_cons.mpr ⟨hct_leastOf_3_4_2, fun _ h => absurd h List.not_mem_nil⟩⟩⟩) (by decide +kernel)
def ct_kinOf_3_4_3 : zCt := (184, [.inr (.inr (36, 0)), .inl (2147483651, 2147483651)], [(606209, (2147483651, 2147483651)), (606210, (2147483652, 2147483652))], [], [.inl (some (.inl (2147483651, 2147483651)), [])], 5)
theorem hct_kinOf_3_4_3 : z_ctH zTb ct_kinOf_3_4_3 := z_ct_ok [] z_hds_ok [ct_leastOf_3_4_0, ct_leastOf_3_4_1, ct_leastOf_3_4_2, ct_leastOf_3_4_3] [] 4 1 (List.forall_mem_cons.mpr ⟨hct_leastOf_3_4_0, List.forall_mem_cons.mpr ⟨hct_leastOf_3_4_1, List.forall_mem_cons.mpr ⟨hct_leastOf_3_4_2, List.forall_mem_cons.mpr ⟨hct_leastOf_3_4_3, fun _ h => absurd h List.not_mem_nil⟩⟩⟩⟩) (by decide +kernel)
def ct_kins_3_8 : zCt := (185, [.inr (.inr (36, 0))], [(606209, (2147483651, 2147483651)), (606210, (2147483656, 2147483656))], [], [.inl (some (.inl (2147483656, 2147483656)), [])], 5)
theorem hct_kins_3_8 : z_ctH zTb ct_kins_3_8 := z_ct_ok [] z_hds_ok [ct_leastOf_3_8_0, ct_leastOf_3_8_1, ct_leastOf_3_8_2, ct_leastOf_3_8_3, ct_leastOf_3_8_4, ct_leastOf_3_8_5, ct_leastOf_3_8_6, ct_leastOf_3_8_7] [] 4 1 (List.forall_mem_cons.mpr ⟨hct_leastOf_3_8_0, List.forall_mem_cons.mpr ⟨hct_leastOf_3_8_1, List.forall_mem_cons.mpr ⟨hct_leastOf_3_8_2, List.forall_mem_cons.mpr ⟨hct_leastOf_3_8_3, List.forall_mem_cons.mpr ⟨hct_leastOf_3_8_4, List.forall_mem_cons.mpr ⟨hct_leastOf_3_8_5, List.forall_mem_cons.mpr ⟨hct_leastOf_3_8_6, List.forall_mem_cons.mpr ⟨hct_leastOf_3_8_7, fun _ h => absurd h List.not_mem_nil⟩⟩⟩⟩⟩⟩⟩⟩) (by decide +kernel)
def ct_kinOf_3_8_0 : zCt := (184, [.inr (.inr (36, 0)), .inl (2147483648, 2147483648)], [(606209, (2147483651, 2147483651)), (606210, (2147483656, 2147483656))], [], [.inl (some (.inl (2147483648, 2147483648)), [])], 5)
theorem hct_kinOf_3_8_0 : z_ctH zTb ct_kinOf_3_8_0 := z_ct_ok [] z_hds_ok [ct_leastOf_3_8_0] [] 4 1 (List.forall_mem_cons.mpr ⟨hct_leastOf_3_8_0, fun _ h => absurd h List.not_mem_nil⟩) (by decide +kernel)
def ct_kinOf_3_8_1 : zCt := (184, [.inr (.inr (36, 0)), .inl (2147483649, 2147483649)], [(606209, (2147483651, 2147483651)), (606210, (2147483656, 2147483656))], [], [.inl (some (.inl (2147483649, 2147483649)), [])], 5)
theorem hct_kinOf_3_8_1 : z_ctH zTb ct_kinOf_3_8_1 := z_ct_ok [] z_hds_ok [ct_leastOf_3_8_0, ct_leastOf_3_8_1] [] 4 1 (List.forall_mem_cons.mpr ⟨hct_leastOf_3_8_0, List.forall_mem_cons.mpr ⟨hct_leastOf_3_8_1, fun _ h => absurd h List.not_mem_nil⟩⟩) (by decide +kernel)
def ct_kinOf_3_8_2 : zCt := (184, [.inr (.inr (36, 0)), .inl (2147483650, 2147483650)], [(606209, (2147483651, 2147483651)), (606210, (2147483656, 2147483656))], [], [.inl (some (.inl (2147483650, 2147483650)), [])], 5)
theorem hct_kinOf_3_8_2 : z_ctH zTb ct_kinOf_3_8_2 := z_ct_ok [] z_hds_ok [ct_leastOf_3_8_0, ct_leastOf_3_8_1, ct_leastOf_3_8_2] [] 4 1 (List.forall_mem_cons.mpr ⟨hct_leastOf_3_8_0, List.forall_mem_cons.mpr ⟨hct_leastOf_3_8_1, List.forall_mem_cons.mpr ⟨hct_leastOf_3_8_2, fun _ h => absurd h List.not_mem_nil⟩⟩⟩) (by decide +kernel)
def ct_kinOf_3_8_3 : zCt := (184, [.inr (.inr (36, 0)), .inl (2147483651, 2147483651)], [(606209, (2147483651, 2147483651)), (606210, (2147483656, 2147483656))], [], [.inl (some (.inl (2147483651, 2147483651)), [])], 5)
theorem hct_kinOf_3_8_3 : z_ctH zTb ct_kinOf_3_8_3 := z_ct_ok [] z_hds_ok [ct_leastOf_3_8_0, ct_leastOf_3_8_1, ct_leastOf_3_8_2, ct_leastOf_3_8_3] [] 4 1 (List.forall_mem_cons.mpr ⟨hct_leastOf_3_8_0, List.forall_mem_cons.mpr ⟨hct_leastOf_3_8_1, List.forall_mem_cons.mpr ⟨hct_leastOf_3_8_2, List.forall_mem_cons.mpr ⟨hct_leastOf_3_8_3, fun _ h => absurd h List.not_mem_nil⟩⟩⟩⟩) (by decide +kernel)
def ct_kinOf_3_8_4 : zCt := (184, [.inr (.inr (36, 0)), .inl (2147483652, 2147483652)], [(606209, (2147483651, 2147483651)), (606210, (2147483656, 2147483656))], [], [.inl (some (.inl (2147483652, 2147483652)), [])], 5)
theorem hct_kinOf_3_8_4 : z_ctH zTb ct_kinOf_3_8_4 := z_ct_ok [] z_hds_ok [ct_leastOf_3_8_0, ct_leastOf_3_8_1, ct_leastOf_3_8_2, ct_leastOf_3_8_3, ct_leastOf_3_8_4] [] 4 1 (List.forall_mem_cons.mpr ⟨hct_leastOf_3_8_0, List.forall_mem_cons.mpr ⟨hct_leastOf_3_8_1, List.forall_mem_cons.mpr ⟨hct_leastOf_3_8_2, List.forall_mem_cons.mpr ⟨hct_leastOf_3_8_3, List.forall_mem_cons.mpr ⟨hct_leastOf_3_8_4, fun _ h => absurd h List.not_mem_nil⟩⟩⟩⟩⟩) (by decide +kernel)
def ct_kinOf_3_8_5 : zCt := (184, [.inr (.inr (36, 0)), .inl (2147483653, 2147483653)], [(606209, (2147483651, 2147483651)), (606210, (2147483656, 2147483656))], [], [.inl (some (.inl (2147483653, 2147483653)), [])], 5)
theorem hct_kinOf_3_8_5 : z_ctH zTb ct_kinOf_3_8_5 := z_ct_ok [] z_hds_ok [ct_leastOf_3_8_0, ct_leastOf_3_8_1, ct_leastOf_3_8_2, ct_leastOf_3_8_3, ct_leastOf_3_8_4, ct_leastOf_3_8_5] [] 4 1 (List.forall_mem_cons.mpr ⟨hct_leastOf_3_8_0, List.forall_mem_cons.mpr ⟨hct_leastOf_3_8_1, List.forall_mem_cons.mpr ⟨hct_leastOf_3_8_2, List.forall_mem_cons.mpr ⟨hct_leastOf_3_8_3, List.forall_mem_cons.mpr ⟨hct_leastOf_3_8_4, List.forall_mem_cons.mpr ⟨hct_leastOf_3_8_5, fun _ h => absurd h List.not_mem_nil⟩⟩⟩⟩⟩⟩) (by decide +kernel)
def ct_kinOf_3_8_6 : zCt := (184, [.inr (.inr (36, 0)), .inl (2147483654, 2147483654)], [(606209, (2147483651, 2147483651)), (606210, (2147483656, 2147483656))], [], [.inl (some (.inl (2147483654, 2147483654)), [])], 5)
theorem hct_kinOf_3_8_6 : z_ctH zTb ct_kinOf_3_8_6 := z_ct_ok [] z_hds_ok [ct_leastOf_3_8_0, ct_leastOf_3_8_1, ct_leastOf_3_8_2, ct_leastOf_3_8_3, ct_leastOf_3_8_4, ct_leastOf_3_8_5, ct_leastOf_3_8_6] [] 4 1 (List.forall_mem_cons.mpr ⟨hct_leastOf_3_8_0, List.forall_mem_cons.mpr ⟨hct_leastOf_3_8_1, List.forall_mem_cons.mpr ⟨hct_leastOf_3_8_2, List.forall_mem_cons.mpr ⟨hct_leastOf_3_8_3, List.forall_mem_cons.mpr ⟨hct_leastOf_3_8_4, List.forall_mem_cons.mpr ⟨hct_leastOf_3_8_5, List.forall_mem_cons.mpr ⟨hct_leastOf_3_8_6, fun _ h => absurd h List.not_mem_nil⟩⟩⟩⟩⟩⟩⟩) (by decide +kernel)
def ct_kinOf_3_8_7 : zCt := (184, [.inr (.inr (36, 0)), .inl (2147483655, 2147483655)], [(606209, (2147483651, 2147483651)), (606210, (2147483656, 2147483656))], [], [.inl (some (.inl (2147483655, 2147483655)), [])], 5)
theorem hct_kinOf_3_8_7 : z_ctH zTb ct_kinOf_3_8_7 := z_ct_ok [] z_hds_ok [ct_leastOf_3_8_0, ct_leastOf_3_8_1, ct_leastOf_3_8_2, ct_leastOf_3_8_3, ct_leastOf_3_8_4, ct_leastOf_3_8_5, ct_leastOf_3_8_6, ct_leastOf_3_8_7] [] 4 1 (List.forall_mem_cons.mpr ⟨hct_leastOf_3_8_0, List.forall_mem_cons.mpr ⟨hct_leastOf_3_8_1, List.forall_mem_cons.mpr ⟨hct_leastOf_3_8_2, List.forall_mem_cons.mpr ⟨hct_leastOf_3_8_3, List.forall_mem_cons.mpr ⟨hct_leastOf_3_8_4, List.forall_mem_cons.mpr ⟨hct_leastOf_3_8_5, List.forall_mem_cons.mpr ⟨hct_leastOf_3_8_6, List.forall_mem_cons.mpr ⟨hct_leastOf_3_8_7, fun _ h => absurd h List.not_mem_nil⟩⟩⟩⟩⟩⟩⟩⟩) (by decide +kernel)
def ct_isTurn : zCt := (188, [.inr (.inr (36, 0)), .inl (0, 4294967295)], [], [], [.inl (some (.inl (2147483648, 2147483649)), [])], 2)
theorem hct_isTurn : z_ctH zTb ct_isTurn := z_ct_ok [] z_hds_ok [] [] 0 2 (fun _ h => absurd h List.not_mem_nil) (by decide +kernel)
def ct_line : zCt := (215, [.inr (.inr (36, 0)), .inl (0, 4294967295), .inl (0, 4294967295), .inl (2147483648, 2147483649)], [], [(36, 0, 0)], [.inl (some (.inl (2147483648, 2147483655)), [(589824, (2147483648, 2147483649))])], 5)
theorem hct_line : z_ctH zTb ct_line := z_ct_ok [(36, 0, 0)] z_hds_ok [ct_lineOf, ct_held] [] 4 1 (List.forall_mem_cons.mpr ⟨hct_lineOf, List.forall_mem_cons.mpr ⟨hct_held, fun _ h => absurd h List.not_mem_nil⟩⟩) (by decide +kernel)
def ct_round : zCt := (219, [.inr (.inr (36, 0)), .inl (0, 4294967295), .inl (0, 4294967295)], [], [(36, 0, 0)], [.inl (some (.inl (2147483648, 2147483655)), [(589824, (2147483648, 2147483649))])], 8)
theorem hct_round : z_ctH zTb ct_round := z_ct_ok [(36, 0, 0)] z_hds_ok [ct_roundOf] [(true, 1, [(0, 2147483647), (2147483648, 2147483648), (2147483649, 2147483649), (2147483650, 2147483650), (2147483651, 4294967295)]), (true, 2, [(0, 2147483647), (2147483648, 2147483648), (2147483649, 2147483649), (2147483650, 2147483650), (2147483651, 4294967295)])] 5 3 (List.forall_mem_cons.mpr ⟨hct_roundOf, fun _ h => absurd h List.not_mem_nil⟩) (by decide +kernel)
def ct_undo_x0 : zCt := (221, [.inr (.inr (36, 0))], [(606216, (2147483648, 2147483648))], [(36, 0, 0), (37, 18, 43), (37, 8, 8)], [.inl (some (.inl (2147483648, 2147483648)), [(589824, (2147483648, 2147483648)), (606216, (2147483648, 2147483648))])], 1)
theorem hct_undo_x0 : z_ctH zTb ct_undo_x0 := z_ct_ok [(36, 0, 0), (37, 8, 8)] z_hds_ok [] [] 0 1 (fun _ h => absurd h List.not_mem_nil) (by decide +kernel)
def ct_redo_xn0 : zCt := (222, [.inr (.inr (36, 0))], [(606216, (2147483648, 2147483648)), (606215, (2147483648, 2147483648))], [(36, 0, 0), (37, 18, 43), (37, 8, 8)], [.inl (some (.inl (2147483648, 2147483648)), [(589824, (2147483648, 2147483648)), (606216, (2147483648, 2147483648))])], 1)
theorem hct_redo_xn0 : z_ctH zTb ct_redo_xn0 := z_ct_ok [(36, 0, 0), (37, 8, 8)] z_hds_ok [] [] 0 1 (fun _ h => absurd h List.not_mem_nil) (by decide +kernel)
def ct_redo_xy0 : zCt := (222, [.inr (.inr (36, 0))], [(606216, (2147483648, 2147483648)), (606215, (2147483649, 2147483668))], [(36, 0, 0), (37, 18, 43), (37, 8, 8)], [.inl (some (.inl (2147483649, 2147483649)), [(606216, (2147483649, 2147483649)), (589824, (2147483648, 2147483648))])], 1)
theorem hct_redo_xy0 : z_ctH zTb ct_redo_xy0 := z_ct_ok [(36, 0, 0), (37, 8, 8)] z_hds_ok [] [] 0 1 (fun _ h => absurd h List.not_mem_nil) (by decide +kernel)
def ct_undo_x1 : zCt := (221, [.inr (.inr (36, 0))], [(606216, (2147483649, 2147483649))], [(36, 0, 0), (37, 18, 43), (37, 8, 8)], [.inl (some (.inl (2147483649, 2147483649)), [(606216, (2147483648, 2147483648)), (589824, (2147483648, 2147483648))])], 1)
theorem hct_undo_x1 : z_ctH zTb ct_undo_x1 := z_ct_ok [(36, 0, 0), (37, 8, 8)] z_hds_ok [] [] 0 1 (fun _ h => absurd h List.not_mem_nil) (by decide +kernel)
