def ct_foldsAll : zCt := (236, [.inr (.inr (36, 0)), .inl (2147483648, 2147483649)], [], [(43, 0, 79), (44, 0, 79)], [.inl (none, [])], 4)
theorem hct_foldsAll : z_ctH zTb ct_foldsAll := z_ct_ok [] z_hds_ok [ct_folds0, ct_foldsSquare] [] 3 1 (List.forall_mem_cons.mpr ⟨hct_folds0, List.forall_mem_cons.mpr ⟨hct_foldsSquare, fun _ h => absurd h List.not_mem_nil⟩⟩) (by decide +kernel)
def ct_byShape : zCt := (237, [.inr (.inr (36, 0)), .inl (2147483648, 2147483657)], [], [], [.inl (some (.inr (.inl none)), [])], 4)
theorem hct_byShape : z_ctH zTb ct_byShape := z_ct_ok [] z_hds_ok [ct_commutators] [] 3 1 (List.forall_mem_cons.mpr ⟨hct_commutators, fun _ h => absurd h List.not_mem_nil⟩) (by decide +kernel)
def ct_foldsPart : zCt := (249, [.inr (.inr (36, 0)), .inl (2147483648, 2147483650)], [], [(43, 0, 79), (44, 0, 79)], [.inl (none, [])], 4)
theorem hct_foldsPart : z_ctH zTb ct_foldsPart := z_ct_ok [] z_hds_ok [ct_times3, ct_times0, ct_commutators, ct_roots] [(false, 606209, [(2147483648, 2147483650), (2147483651, 2147483651)])] 3 1 (List.forall_mem_cons.mpr ⟨hct_times3, List.forall_mem_cons.mpr ⟨hct_times0, List.forall_mem_cons.mpr ⟨hct_commutators, List.forall_mem_cons.mpr ⟨hct_roots, fun _ h => absurd h List.not_mem_nil⟩⟩⟩⟩) (by decide +kernel)
def ct_dualOf : zCt := (251, [.inr (.inr (36, 0)), .inl (0, 4294967295)], [], [], [.inl (some (.inl (0, 4294967295)), [])], 1)
theorem hct_dualOf : z_ctH zTb ct_dualOf := z_ct_ok [] z_hds_ok [] [] 0 1 (fun _ h => absurd h List.not_mem_nil) (by decide +kernel)
def ct_rests0 : zCt := (207, [.inr (.inr (36, 0))], [], [(37, 20, 43)], [.inl (none, [])], 1)
theorem hct_rests0 : z_ctH zTb ct_rests0 := z_ct_ok [] z_hds_ok [] [] 0 1 (fun _ h => absurd h List.not_mem_nil) (by decide +kernel)
def ct_isClosed : zCt := (225, [.inr (.inr (36, 0))], [], [], [.inl (some (.inl (2147483648, 2147483649)), [])], 3)
theorem hct_isClosed : z_ctH zTb ct_isClosed := z_ct_ok [] z_hds_ok [ct_cornerOf9] [] 2 1 (List.forall_mem_cons.mpr ⟨hct_cornerOf9, fun _ h => absurd h List.not_mem_nil⟩) (by decide +kernel)
def ct_isRing : zCt := (243, [.inr (.inr (36, 0))], [], [], [.inl (some (.inl (2147483648, 2147483649)), [])], 4)
set_option maxRecDepth 10000 in
theorem hct_isRing : z_ctH zTb ct_isRing := by
  intro nS d as M hd hS hT hG
  obtain ⟨e, rfl⟩ := h_rk hd
  have h1 := h_S1 (by decide) hS
  subst h1
  show aC nS (e + 3 + 1) 243 _ M _ _
  refine aC_mk rfl rfl ?_
  intro K hK hF
  have s1 : 2147483648 ≤ z_b (M.1 36 0 16) := (h_TR (T := zTb) (k := 36) (i := 0) (j := 16) hT).1
  have s2 : z_b (M.1 36 0 16) ≤ 2147483756 := (h_TR (T := zTb) (k := 36) (i := 0) (j := 16) hT).2
  obtain ⟨N, hN, hNe⟩ : ∃ N, N ≤ 108 ∧ M.1 36 0 16 = Int32.ofNat N := ⟨z_b (M.1 36 0 16) - 2147483648, by omega, z_b_inj (by rw [z_b_ofNat (by omega)]; omega)⟩
  have hNb : z_b (M.1 36 0 16) = N + 2147483648 := by rw [hNe, z_b_ofNat (by omega)]
  have vp : ∀ a : Nat, a < 109 → vp_in (Int32.ofNat a) 109 := fun a h => z_vp.mpr (by rw [z_b_ofNat (by omega)]; omega)
  have r0 : ∀ L : aL, K 64 L [] M := fun L => hK _ _ _ _ (hK _ _ _ _ ⟨Or.inl rfl, _, _, List.mem_singleton.mpr rfl, h_bo (Or.inl rfl), h_M0 hT⟩)
  have r15 : ∀ L : aL, K 15 L [] M := fun L => hK _ _ _ _ (hK _ _ _ _ ⟨Or.inl rfl, _, _, List.mem_singleton.mpr rfl, h_bo (Or.inl rfl), h_M0 hT⟩)
  have inn : ∀ (m j i : Nat), j + m = i → i < N → K 72 [some (vR 36 0), some (vI (Int32.ofNat i)), some (vI (Int32.ofNat i))] [] M → K 29 [some (vR 36 0), some (vI (Int32.ofNat i)), some (vI (Int32.ofNat j))] [] M := by
    intro m
    induction m with
    | zero =>
      intro j i hj hi hn
      have e9 : j = i := by omega
      rw [e9]
      refine hK _ _ _ _ (hK _ _ _ _ (?_))
      exact hK _ _ _ _ ⟨fun _ => hn, fun h => absurd (Int32.le_refl _) h⟩
    | succ m ih =>
      intro j i hj hi hn
      refine hK _ _ _ _ (hK _ _ _ _ (?_))
      refine hK _ _ _ _ ⟨fun h => ?_, fun h => ?_⟩
      · exfalso
        have := (hI_le (by omega) (by omega)).mp h
        omega
      have nx : K 66 [some (vR 36 0), some (vI (Int32.ofNat i)), some (vI (Int32.ofNat j))] [] M := by
        refine hK _ _ _ _ (hK _ _ _ _ ?_)
        rw [hI_s]
        exact ih (j + 1) i (by omega) hi hn
      refine hK _ _ _ _ (hK _ _ _ _ (hK _ _ _ _ (?_)))
      refine hK _ _ _ _ ⟨vp i (by omega), ?_⟩
      refine hK _ _ _ _ (hK _ _ _ _ (hK _ _ _ _ (?_)))
      refine hK _ _ _ _ ⟨vp j (by omega), ?_⟩
      refine hK _ _ _ _ ⟨fun _ => nx, fun _ => ?_⟩
      refine hK _ _ _ _ (hK _ _ _ _ (hK _ _ _ _ (?_)))
      refine hK _ _ _ _ ⟨vp i (by omega), ?_⟩
      refine hK _ _ _ _ (hK _ _ _ _ (hK _ _ _ _ (?_)))
      refine hK _ _ _ _ ⟨vp j (by omega), ?_⟩
      exact hK _ _ _ _ ⟨fun _ => nx, fun _ => r0 _⟩
  have out : ∀ (m i : Nat) (x2 : Option aV), i + m = N → K 19 [some (vR 36 0), some (vI (Int32.ofNat i)), x2] [] M := by
    intro m
    induction m with
    | zero =>
      intro i x2 hi
      have e9 : i = N := by omega
      refine hK _ _ _ _ (hK _ _ _ _ (hK _ _ _ _ (?_)))
      refine hK _ _ _ _ ⟨fun h => ?_, fun h => ?_⟩
      · exact hK _ _ _ _ (hK _ _ _ _ ⟨Or.inr rfl, _, _, List.mem_singleton.mpr rfl, h_bo (Or.inr rfl), h_M0 hT⟩)
      · exfalso
        apply h
        show M.1 36 0 16 ≤ Int32.ofNat i
        rw [hNe, e9]
        exact Int32.le_refl _
    | succ m ih =>
      intro i x2 hi
      refine hK _ _ _ _ (hK _ _ _ _ (hK _ _ _ _ (?_)))
      refine hK _ _ _ _ ⟨fun h => ?_, fun h => ?_⟩
      · exfalso
        have h3 : M.1 36 0 16 ≤ Int32.ofNat i := h
        have := z_b_le.mp h3
        rw [hNb, z_b_ofNat (by omega)] at this
        omega
      refine hK _ _ _ _ (hK _ _ _ _ (?_))
      refine inn i 0 i (by omega) (by omega) ?_
      refine hK _ _ _ _ (hK _ _ _ _ ?_)
      rw [hI_s]
      exact ih (i + 1) _ (by omega)
  refine hK _ _ _ _ (hK _ _ _ _ (hK _ _ _ _ (?_)))
  refine hK _ _ _ _ ⟨fun _ => r15 _, fun _ => ?_⟩
  refine hK _ _ _ _ ?_
  refine hK _ _ _ _ ⟨_, h_pI hct_isClosed rfl rfl rfl (show (3 : Nat) ≤ e + 3 by omega) (h_R trivial) hT, rfl, fun v M2 g => ?_⟩
  obtain ⟨⟨y, rfl, -⟩, rfl⟩ := g
  refine hK _ _ _ _ ⟨fun _ => ?_, fun _ => r15 _⟩
  refine hK _ _ _ _ (hK _ _ _ _ (?_))
  exact out N 0 none (by omega)
def ct_isWithin : zCt := (244, [.inr (.inr (36, 0)), .inl (0, 4294967295), .inl (0, 4294967295)], [], [], [.inl (some (.inl (2147483648, 2147483649)), [])], 1)
theorem hct_isWithin : z_ctH zTb ct_isWithin := z_ct_ok [] z_hds_ok [] [] 0 1 (fun _ h => absurd h List.not_mem_nil) (by decide +kernel)
def ct_isClockwise : zCt := (245, [.inr (.inr (36, 0))], [], [], [.inl (some (.inl (2147483648, 2147483649)), [])], 1)
theorem hct_isClockwise : z_ctH zTb ct_isClockwise := z_ct_ok [] z_hds_ok [] [] 0 1 (fun _ h => absurd h List.not_mem_nil) (by decide +kernel)
def ct_begins : zCt := (210, [.inr (.inr (36, 0))], [], [(36, 6, 9)], [.inl (none, [(589832, (2147483648, 2147483648)), (589830, (2147483648, 2147483648)), (589831, (2147483648, 2147484048)), (589833, (2147483647, 2147483647))])], 1)
theorem hct_begins : z_ctH zTb ct_begins := z_ct_ok [(36, 6, 9)] z_hds_ok [] [] 0 1 (fun _ h => absurd h List.not_mem_nil) (by decide +kernel)
def ct_skip : zCt := (202, [.inr (.inr (36, 0))], [], [(36, 8, 8)], [.inl (none, [(589832, (2147483648, 2147484048))])], 1)
theorem hct_skip : z_ctH zTb ct_skip := z_ct_ok [(36, 8, 8)] z_hds_ok [] [] 0 1 (fun _ h => absurd h List.not_mem_nil) (by decide +kernel)
def ct_isSign : zCt := (203, [.inr (.inr (36, 0)), .inl (0, 4294967295)], [], [(36, 8, 8)], [.inl (some (.inl (2147483648, 2147483648)), [(589832, (2147483648, 2147484048))]), .inl (some (.inl (2147483649, 2147483649)), [(589832, (2147483648, 2147484047))])], 2)
theorem hct_isSign : z_ctH zTb ct_isSign := z_ct_ok [(36, 8, 8)] z_hds_ok [ct_skip] [] 1 1 (List.forall_mem_cons.mpr ⟨hct_skip, fun _ h => absurd h List.not_mem_nil⟩) (by decide +kernel)
def ct_wrong1 : zCt := (205, [.inr (.inr (36, 0)), .inl (2147483648, 2147484048)], [(589833, (2147483647, 2147483647))], [(36, 9, 9)], [.inl (none, [(589833, (2147483648, 2147484048))])], 1)
theorem hct_wrong1 : z_ctH zTb ct_wrong1 := z_ct_ok [(36, 9, 9)] z_hds_ok [] [] 0 1 (fun _ h => absurd h List.not_mem_nil) (by decide +kernel)
def ct_wrong0 : zCt := (205, [.inr (.inr (36, 0)), .inl (2147483648, 2147484048)], [(589833, (2147483648, 2147484048))], [(36, 9, 9)], [.inl (none, [(589833, (2147483648, 2147484048))])], 1)
theorem hct_wrong0 : z_ctH zTb ct_wrong0 := z_ct_ok [(36, 9, 9)] z_hds_ok [] [] 0 1 (fun _ h => absurd h List.not_mem_nil) (by decide +kernel)
def ct_figures0 : zCt := (206, [.inr (.inr (36, 0)), .inl (0, 4294967295), .inl (0, 4294967295)], [(589833, (2147483648, 2147484048))], [(36, 8, 8), (36, 9, 9), (36, 10, 10)], [.inl (some (.inl (2147483648, 2147483648)), [(589833, (2147483648, 2147484048))])], 1)
theorem hct_figures0 : z_ctH zTb ct_figures0 := z_ct_ok [(36, 8, 8), (36, 9, 9), (36, 10, 10)] z_hds_ok [] [] 0 1 (fun _ h => absurd h List.not_mem_nil) (by decide +kernel)
def ct_figures_0_3 : zCt := (206, [.inr (.inr (36, 0)), .inl (2147483648, 2147483648), .inl (2147483651, 2147483651)], [(589833, (2147483647, 2147483647))], [(36, 8, 8), (36, 9, 9), (36, 10, 10)], [.inl (some (.inl (0, 4294967295)), [(589834, (2147483648, 2147484048)), (589832, (2147483648, 2147484048)), (589833, (2147483648, 2147484048))]), .inl (some (.inl (2147483648, 2147483651)), [(589834, (2147483648, 2147484048)), (589832, (2147483648, 2147484048)), (589833, (2147483647, 2147483647))])], 3)
theorem hct_figures_0_3 : z_ctH zTb ct_figures_0_3 := z_ct_ok [(36, 8, 8), (36, 9, 9), (36, 10, 10)] z_hds_ok [ct_skip, ct_wrong1] [] 1 2 (List.forall_mem_cons.mpr ⟨hct_skip, List.forall_mem_cons.mpr ⟨hct_wrong1, fun _ h => absurd h List.not_mem_nil⟩⟩) (by decide +kernel)
def ct_figures_2_8 : zCt := (206, [.inr (.inr (36, 0)), .inl (2147483650, 2147483650), .inl (2147483656, 2147483656)], [(589833, (2147483647, 2147483647))], [(36, 8, 8), (36, 9, 9), (36, 10, 10)], [.inl (some (.inl (0, 4294967295)), [(589834, (2147483648, 2147484048)), (589832, (2147483648, 2147484048)), (589833, (2147483648, 2147484048))]), .inl (some (.inl (2147483650, 2147483656)), [(589834, (2147483648, 2147484048)), (589832, (2147483648, 2147484048)), (589833, (2147483647, 2147483647))])], 3)
theorem hct_figures_2_8 : z_ctH zTb ct_figures_2_8 := z_ct_ok [(36, 8, 8), (36, 9, 9), (36, 10, 10)] z_hds_ok [ct_skip, ct_wrong1] [] 1 2 (List.forall_mem_cons.mpr ⟨hct_skip, List.forall_mem_cons.mpr ⟨hct_wrong1, fun _ h => absurd h List.not_mem_nil⟩⟩) (by decide +kernel)
def ct_figures_1_3 : zCt := (206, [.inr (.inr (36, 0)), .inl (2147483649, 2147483649), .inl (2147483651, 2147483651)], [(589833, (2147483647, 2147483647))], [(36, 8, 8), (36, 9, 9), (36, 10, 10)], [.inl (some (.inl (0, 4294967295)), [(589834, (2147483648, 2147484048)), (589832, (2147483648, 2147484048)), (589833, (2147483648, 2147484048))]), .inl (some (.inl (2147483649, 2147483651)), [(589834, (2147483648, 2147484048)), (589832, (2147483648, 2147484048)), (589833, (2147483647, 2147483647))])], 3)
theorem hct_figures_1_3 : z_ctH zTb ct_figures_1_3 := z_ct_ok [(36, 8, 8), (36, 9, 9), (36, 10, 10)] z_hds_ok [ct_skip, ct_wrong1] [] 1 2 (List.forall_mem_cons.mpr ⟨hct_skip, List.forall_mem_cons.mpr ⟨hct_wrong1, fun _ h => absurd h List.not_mem_nil⟩⟩) (by decide +kernel)
def ct_figures_0_2 : zCt := (206, [.inr (.inr (36, 0)), .inl (2147483648, 2147483648), .inl (2147483650, 2147483650)], [(589833, (2147483647, 2147483647))], [(36, 8, 8), (36, 9, 9), (36, 10, 10)], [.inl (some (.inl (0, 4294967295)), [(589834, (2147483648, 2147484048)), (589832, (2147483648, 2147484048)), (589833, (2147483648, 2147484048))]), .inl (some (.inl (2147483648, 2147483650)), [(589834, (2147483648, 2147484048)), (589832, (2147483648, 2147484048)), (589833, (2147483647, 2147483647))])], 3)
theorem hct_figures_0_2 : z_ctH zTb ct_figures_0_2 := z_ct_ok [(36, 8, 8), (36, 9, 9), (36, 10, 10)] z_hds_ok [ct_skip, ct_wrong1] [] 1 2 (List.forall_mem_cons.mpr ⟨hct_skip, List.forall_mem_cons.mpr ⟨hct_wrong1, fun _ h => absurd h List.not_mem_nil⟩⟩) (by decide +kernel)
def ct_figures_0_9 : zCt := (206, [.inr (.inr (36, 0)), .inl (2147483648, 2147483648), .inl (2147483657, 2147483657)], [(589833, (2147483647, 2147483647))], [(36, 8, 8), (36, 9, 9), (36, 10, 10)], [.inl (some (.inl (0, 4294967295)), [(589834, (2147483648, 2147484048)), (589832, (2147483648, 2147484048)), (589833, (2147483648, 2147484048))]), .inl (some (.inl (2147483648, 2147483657)), [(589834, (2147483648, 2147484048)), (589832, (2147483648, 2147484048)), (589833, (2147483647, 2147483647))])], 3)
theorem hct_figures_0_9 : z_ctH zTb ct_figures_0_9 := z_ct_ok [(36, 8, 8), (36, 9, 9), (36, 10, 10)] z_hds_ok [ct_skip, ct_wrong1] [] 1 2 (List.forall_mem_cons.mpr ⟨hct_skip, List.forall_mem_cons.mpr ⟨hct_wrong1, fun _ h => absurd h List.not_mem_nil⟩⟩) (by decide +kernel)
def ct_figures_1_9 : zCt := (206, [.inr (.inr (36, 0)), .inl (2147483649, 2147483649), .inl (2147483657, 2147483657)], [(589833, (2147483647, 2147483647))], [(36, 8, 8), (36, 9, 9), (36, 10, 10)], [.inl (some (.inl (0, 4294967295)), [(589834, (2147483648, 2147484048)), (589832, (2147483648, 2147484048)), (589833, (2147483648, 2147484048))]), .inl (some (.inl (2147483649, 2147483657)), [(589834, (2147483648, 2147484048)), (589832, (2147483648, 2147484048)), (589833, (2147483647, 2147483647))])], 3)
theorem hct_figures_1_9 : z_ctH zTb ct_figures_1_9 := z_ct_ok [(36, 8, 8), (36, 9, 9), (36, 10, 10)] z_hds_ok [ct_skip, ct_wrong1] [] 1 2 (List.forall_mem_cons.mpr ⟨hct_skip, List.forall_mem_cons.mpr ⟨hct_wrong1, fun _ h => absurd h List.not_mem_nil⟩⟩) (by decide +kernel)
