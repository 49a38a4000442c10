def ct_isInx : zCt := (178, [.inl (0, 4294967295), .inl (0, 4294967295), .inl (0, 4294967295)], [], [], [.inl (some (.inl (2147483648, 2147483649)), [])], 1)
theorem hct_isInx : z_ctH zTb ct_isInx := z_ct_ok [] z_hds_ok [] [] 0 1 (fun _ h => absurd h List.not_mem_nil) (by decide +kernel)
def ct_has_112 : zCt := (204, [.inr (.inr (36, 0)), .inr (.inr (112, 0))], [], [(36, 8, 8)], [.inl (some (.inl (2147483648, 2147483648)), [(589832, (2147483648, 2147484048))]), .inl (some (.inl (2147483649, 2147483649)), [(589832, (2147483648, 2147484048))])], 8)
set_option maxRecDepth 10000 in
theorem h_has {nS e : Nat} {M : aM} {ks : Nat} {bs : List Nat} (hk : a_stx ks = some bs) (hl : bs.length < 1000) (hT : z_MT (zTb, [], []) M) : aC nS (e + 7 + 1) 204 [vR 36 0, vR ks 0] M (z_po (zTb, [(36, 8, 8)], []) M [.inl (some (.inl (2147483648, 2147483648)), [(589832, (2147483648, 2147484048))]), .inl (some (.inl (2147483649, 2147483649)), [(589832, (2147483648, 2147484048))])]) (z_px (zTb, [(36, 8, 8)], []) M [.inl (some (.inl (2147483648, 2147483648)), [(589832, (2147483648, 2147484048))]), .inl (some (.inl (2147483649, 2147483649)), [(589832, (2147483648, 2147484048))])]) := by
  refine aC_mk rfl rfl ?_
  intro K hK hF
  refine hK _ _ _ _ ?_
  refine hK _ _ _ _ ⟨_, h_pW hct_skip rfl rfl (show (1 : Nat) ≤ e + 7 by omega) (h_R trivial) hT, rfl, fun v M1 g => ?_⟩
  obtain ⟨g1, hM⟩ := g
  have g1 := h_ovN g1
  subst g1
  have ha : z_i (2147483648, 2147484048) (M1.1 36 0 8) := h_TR (T := zTb) (k := 36) (i := 0) (j := 8) hM.1
  have he : z_i (2147483648, 2147484048) (M1.1 36 0 7) := h_TR (T := zTb) (k := 36) (i := 0) (j := 7) hM.1
  obtain ⟨ha1, ha2⟩ := ha
  obtain ⟨he1, he2⟩ := he
  dsimp only at ha1 ha2 he1 he2
  have out0 : z_po (zTb, [(36, 8, 8)], []) M [.inl (some (.inl (2147483648, 2147483648)), [(589832, (2147483648, 2147484048))]), .inl (some (.inl (2147483649, 2147483649)), [(589832, (2147483648, 2147484048))])] (some (vI 0)) M1 := ⟨_, _, List.mem_cons_self, ⟨Nat.le_of_eq z_b0.symm, Nat.le_of_eq z_b0⟩, hM.1, hM.2.1, fun e9 h9 k' i' j' q1 q2 q3 => by
    have h9 := List.mem_singleton.mp h9
    subst h9
    obtain ⟨f1, f2, f3⟩ := z_ky_lt (k' := 36) (i' := 0) (j' := 8) q1 q2 (by decide) (by decide) q3
    subst f1
    subst f2
    subst f3
    exact ⟨ha1, ha2⟩⟩
  have lp : ∀ (n : Nat) (x2 : Int32), 4294967296 - z_b x2 = n → 2147483648 ≤ z_b x2 → z_b x2 ≤ 2147484048 → K 9 [some (vR 36 0), some (vR ks 0), some (vI x2), none] [] M1 := by
    intro n
    induction n using Nat.strongRecOn with
    | ind n ih =>
    intro x2 hm hx1 hx2
    have tail : K 39 [some (vR 36 0), some (vR ks 0), some (vI x2), none] [] M1 := by
      refine hK _ _ _ _ (hK _ _ _ _ (hK _ _ _ _ (hK _ _ _ _ (hK _ _ _ _ (?_)))))
      refine hK _ _ _ _ (w_sln rfl hk ⟨b_6 (d := e) rfl, ?_⟩)
      refine hK _ _ _ _ ⟨fun h5 => ?_, fun h5 => hK _ _ _ _ (hK _ _ _ _ ⟨Or.inl rfl, out0⟩)⟩
      have h6 := z_b_eq.mp h5
      rw [z_b_sub, z_b_ofNat (by omega)] at h6
      have lp2 : ∀ m i : Nat, bs.length - i = m → i ≤ bs.length → K 56 [some (vR 36 0), some (vR ks 0), some (vI x2), some (vI (Int32.ofNat i))] [] M1 := by
        intro m
        induction m with
        | zero =>
          intro i hi hil
          have e1 : i = bs.length := by omega
          subst e1
          refine hK _ _ _ _ (hK _ _ _ _ (?_))
          refine hK _ _ _ _ (w_sln rfl hk ⟨b_6 (d := e) rfl, ?_⟩)
          refine hK _ _ _ _ ⟨fun h1 => ?_, fun h1 => absurd (Int32.le_refl _) h1⟩
          have hM3 : z_M (zTb, [(36, 8, 8)], []) M [] (a_pI M1 36 0 8 x2) := h_Mp hM (v := (2147483648, 2147484048)) (by decide) ⟨hx1, hx2⟩
          refine hK _ _ _ _ (hK _ _ _ _ (hK _ _ _ _ (hK _ _ _ _ (hK _ _ _ _ ⟨Or.inr rfl, _, _, List.mem_cons_of_mem _ (List.mem_singleton.mpr rfl), ⟨Nat.le_of_eq z_l1.symm, Nat.le_of_eq z_l1⟩, hM3.1, hM3.2.1, fun e9 h9 k' i' j' q1 q2 q3 => ?_⟩))))
          have h9 := List.mem_singleton.mp h9
          subst h9
          obtain ⟨f1, f2, f3⟩ := z_ky_lt (k' := 36) (i' := 0) (j' := 8) q1 q2 (by decide) (by decide) q3
          subst f1
          subst f2
          subst f3
          rw [h_pIs]
          exact ⟨hx1, hx2⟩
        | succ m ihm =>
          intro i hi hil
          refine hK _ _ _ _ (hK _ _ _ _ (?_))
          refine hK _ _ _ _ (w_sln rfl hk ⟨b_6 (d := e) rfl, ?_⟩)
          refine hK _ _ _ _ ⟨fun h1 => ?_, fun h1 => ?_⟩
          · exfalso
            have := z_b_le.mp h1
            rw [z_b_ofNat (by omega), z_b_ofNat (by omega)] at this
            omega
          refine hK _ _ _ _ (hK _ _ _ _ (hK _ _ _ _ (hK _ _ _ _ (hK _ _ _ _ (hK _ _ _ _ (?_))))))
          refine hK _ _ _ _ ⟨z_vp.mpr ?_, ?_⟩
          · rw [z_b_add, z_b_ofNat (by omega)]
            omega
          refine hK _ _ _ _ (hK _ _ _ _ (?_))
          refine hK _ _ _ _ (w_sch rfl hk ⟨b_6 (d := e) rfl, z_vp.mpr ⟨?_, ?_⟩, ?_⟩)
          · rw [z_b_ofNat (by omega)]
            omega
          · rw [z_b_ofNat (by omega)]
            omega
          refine hK _ _ _ _ ⟨fun h1 => ?_, fun h1 => hK _ _ _ _ (hK _ _ _ _ ⟨Or.inl rfl, out0⟩)⟩
          refine hK _ _ _ _ (hK _ _ _ _ ?_)
          have h3 := ihm (i + 1) (by omega) (by omega)
          rw [← hI_s] at h3
          exact h3
      refine hK _ _ _ _ (hK _ _ _ _ ?_)
      exact lp2 _ 0 rfl (Nat.zero_le _)
    refine hK _ _ _ _ (hK _ _ _ _ (hK _ _ _ _ (?_)))
    refine hK _ _ _ _ ⟨fun h => tail, fun h1 => ?_⟩
    have h2 : z_b x2 < z_b (M1.1 36 0 7) := z_b_ltt.mp (Int32.not_le.mp h1)
    refine hK _ _ _ _ (hK _ _ _ _ (hK _ _ _ _ (?_)))
    refine hK _ _ _ _ ⟨z_vp.mpr ⟨hx1, by omega⟩, ?_⟩
    refine hK _ _ _ _ (hK _ _ _ _ (?_))
    refine hK _ _ _ _ ⟨_, h_pI hct_isInx rfl rfl rfl (show (1 : Nat) ≤ e + 7 by omega) (h_I (h_I (h_I trivial))) hM.1, rfl, fun v M2 g => ?_⟩
    obtain ⟨⟨y, rfl, -⟩, rfl⟩ := g
    refine hK _ _ _ _ ⟨fun h => tail, fun h => ?_⟩
    refine hK _ _ _ _ (hK _ _ _ _ ?_)
    have e2 : z_b (x2 + 1) = z_b x2 + 1 := by
      rw [z_b_add, z_l1]
      omega
    exact ih _ (v_up hm h1) _ rfl (by omega) (by omega)
  refine hK _ _ _ _ (hK _ _ _ _ (hK _ _ _ _ (?_)))
  exact lp _ _ rfl ha1 ha2
theorem hct_has_112 : z_ctH zTb ct_has_112 := by
  intro nS d as M hd hS hT hG
  obtain ⟨e, rfl⟩ := h_rk hd
  obtain ⟨i1, s1, rfl, h1, hS⟩ := z_S_R hS
  obtain ⟨i2, s2, rfl, h2, hS⟩ := z_S_R hS
  have h3 := z_S_N hS
  subst h3
  have h1 := h1.resolve_left (by decide)
  have h2 := h2.resolve_left (by decide)
  subst h1
  subst h2
  exact h_has (e := e) rfl (by decide) hT
def ct_has_113 : zCt := (204, [.inr (.inr (36, 0)), .inr (.inr (113, 0))], [], [(36, 8, 8)], [.inl (some (.inl (2147483648, 2147483648)), [(589832, (2147483648, 2147484048))]), .inl (some (.inl (2147483649, 2147483649)), [(589832, (2147483648, 2147484048))])], 8)
theorem hct_has_113 : z_ctH zTb ct_has_113 := by
  intro nS d as M hd hS hT hG
  obtain ⟨e, rfl⟩ := h_rk hd
  obtain ⟨i1, s1, rfl, h1, hS⟩ := z_S_R hS
  obtain ⟨i2, s2, rfl, h2, hS⟩ := z_S_R hS
  have h3 := z_S_N hS
  subst h3
  have h1 := h1.resolve_left (by decide)
  have h2 := h2.resolve_left (by decide)
  subst h1
  subst h2
  exact h_has (e := e) rfl (by decide) hT
def ct_has_114 : zCt := (204, [.inr (.inr (36, 0)), .inr (.inr (114, 0))], [], [(36, 8, 8)], [.inl (some (.inl (2147483648, 2147483648)), [(589832, (2147483648, 2147484048))]), .inl (some (.inl (2147483649, 2147483649)), [(589832, (2147483648, 2147484048))])], 8)
theorem hct_has_114 : z_ctH zTb ct_has_114 := by
  intro nS d as M hd hS hT hG
  obtain ⟨e, rfl⟩ := h_rk hd
  obtain ⟨i1, s1, rfl, h1, hS⟩ := z_S_R hS
  obtain ⟨i2, s2, rfl, h2, hS⟩ := z_S_R hS
  have h3 := z_S_N hS
  subst h3
  have h1 := h1.resolve_left (by decide)
  have h2 := h2.resolve_left (by decide)
  subst h1
  subst h2
  exact h_has (e := e) rfl (by decide) hT
def ct_has_115 : zCt := (204, [.inr (.inr (36, 0)), .inr (.inr (115, 0))], [], [(36, 8, 8)], [.inl (some (.inl (2147483648, 2147483648)), [(589832, (2147483648, 2147484048))]), .inl (some (.inl (2147483649, 2147483649)), [(589832, (2147483648, 2147484048))])], 8)
theorem hct_has_115 : z_ctH zTb ct_has_115 := by
  intro nS d as M hd hS hT hG
  obtain ⟨e, rfl⟩ := h_rk hd
  obtain ⟨i1, s1, rfl, h1, hS⟩ := z_S_R hS
  obtain ⟨i2, s2, rfl, h2, hS⟩ := z_S_R hS
  have h3 := z_S_N hS
  subst h3
  have h1 := h1.resolve_left (by decide)
  have h2 := h2.resolve_left (by decide)
  subst h1
  subst h2
  exact h_has (e := e) rfl (by decide) hT
def ct_has_116 : zCt := (204, [.inr (.inr (36, 0)), .inr (.inr (116, 0))], [], [(36, 8, 8)], [.inl (some (.inl (2147483648, 2147483648)), [(589832, (2147483648, 2147484048))]), .inl (some (.inl (2147483649, 2147483649)), [(589832, (2147483648, 2147484048))])], 8)
theorem hct_has_116 : z_ctH zTb ct_has_116 := by
  intro nS d as M hd hS hT hG
  obtain ⟨e, rfl⟩ := h_rk hd
  obtain ⟨i1, s1, rfl, h1, hS⟩ := z_S_R hS
  obtain ⟨i2, s2, rfl, h2, hS⟩ := z_S_R hS
  have h3 := z_S_N hS
  subst h3
  have h1 := h1.resolve_left (by decide)
  have h2 := h2.resolve_left (by decide)
  subst h1
  subst h2
  exact h_has (e := e) rfl (by decide) hT
def ct_has_117 : zCt := (204, [.inr (.inr (36, 0)), .inr (.inr (117, 0))], [], [(36, 8, 8)], [.inl (some (.inl (2147483648, 2147483648)), [(589832, (2147483648, 2147484048))]), .inl (some (.inl (2147483649, 2147483649)), [(589832, (2147483648, 2147484048))])], 8)
theorem hct_has_117 : z_ctH zTb ct_has_117 := by
  intro nS d as M hd hS hT hG
  obtain ⟨e, rfl⟩ := h_rk hd
  obtain ⟨i1, s1, rfl, h1, hS⟩ := z_S_R hS
  obtain ⟨i2, s2, rfl, h2, hS⟩ := z_S_R hS
  have h3 := z_S_N hS
  subst h3
  have h1 := h1.resolve_left (by decide)
  have h2 := h2.resolve_left (by decide)
  subst h1
  subst h2
  exact h_has (e := e) rfl (by decide) hT
def ct_has_118 : zCt := (204, [.inr (.inr (36, 0)), .inr (.inr (118, 0))], [], [(36, 8, 8)], [.inl (some (.inl (2147483648, 2147483648)), [(589832, (2147483648, 2147484048))]), .inl (some (.inl (2147483649, 2147483649)), [(589832, (2147483648, 2147484048))])], 8)
theorem hct_has_118 : z_ctH zTb ct_has_118 := by
  intro nS d as M hd hS hT hG
  obtain ⟨e, rfl⟩ := h_rk hd
  obtain ⟨i1, s1, rfl, h1, hS⟩ := z_S_R hS
  obtain ⟨i2, s2, rfl, h2, hS⟩ := z_S_R hS
  have h3 := z_S_N hS
  subst h3
  have h1 := h1.resolve_left (by decide)
  have h2 := h2.resolve_left (by decide)
  subst h1
  subst h2
  exact h_has (e := e) rfl (by decide) hT
def ct_has_119 : zCt := (204, [.inr (.inr (36, 0)), .inr (.inr (119, 0))], [], [(36, 8, 8)], [.inl (some (.inl (2147483648, 2147483648)), [(589832, (2147483648, 2147484048))]), .inl (some (.inl (2147483649, 2147483649)), [(589832, (2147483648, 2147484048))])], 8)
theorem hct_has_119 : z_ctH zTb ct_has_119 := by
  intro nS d as M hd hS hT hG
  obtain ⟨e, rfl⟩ := h_rk hd
  obtain ⟨i1, s1, rfl, h1, hS⟩ := z_S_R hS
  obtain ⟨i2, s2, rfl, h2, hS⟩ := z_S_R hS
  have h3 := z_S_N hS
  subst h3
  have h1 := h1.resolve_left (by decide)
  have h2 := h2.resolve_left (by decide)
  subst h1
  subst h2
  exact h_has (e := e) rfl (by decide) hT
def ct_has_120 : zCt := (204, [.inr (.inr (36, 0)), .inr (.inr (120, 0))], [], [(36, 8, 8)], [.inl (some (.inl (2147483648, 2147483648)), [(589832, (2147483648, 2147484048))]), .inl (some (.inl (2147483649, 2147483649)), [(589832, (2147483648, 2147484048))])], 8)
theorem hct_has_120 : z_ctH zTb ct_has_120 := by
  intro nS d as M hd hS hT hG
  obtain ⟨e, rfl⟩ := h_rk hd
  obtain ⟨i1, s1, rfl, h1, hS⟩ := z_S_R hS
  obtain ⟨i2, s2, rfl, h2, hS⟩ := z_S_R hS
  have h3 := z_S_N hS
  subst h3
  have h1 := h1.resolve_left (by decide)
  have h2 := h2.resolve_left (by decide)
  subst h1
  subst h2
  exact h_has (e := e) rfl (by decide) hT
def ct_has_121 : zCt := (204, [.inr (.inr (36, 0)), .inr (.inr (121, 0))], [], [(36, 8, 8)], [.inl (some (.inl (2147483648, 2147483648)), [(589832, (2147483648, 2147484048))]), .inl (some (.inl (2147483649, 2147483649)), [(589832, (2147483648, 2147484048))])], 8)
theorem hct_has_121 : z_ctH zTb ct_has_121 := by
  intro nS d as M hd hS hT hG
  obtain ⟨e, rfl⟩ := h_rk hd
  obtain ⟨i1, s1, rfl, h1, hS⟩ := z_S_R hS
  obtain ⟨i2, s2, rfl, h2, hS⟩ := z_S_R hS
  have h3 := z_S_N hS
  subst h3
  have h1 := h1.resolve_left (by decide)
  have h2 := h2.resolve_left (by decide)
  subst h1
  subst h2
  exact h_has (e := e) rfl (by decide) hT
def ct_figures_t2 : zCt := (206, [.inr (.inr (36, 0)), .inl (2147483648, 2147483648), .inl (2147483649, 2147483649)], [(589833, (2147483647, 2147483647))], [(36, 8, 8), (36, 9, 9), (36, 10, 10)], [.inl (some (.inl (0, 4294967295)), [(589834, (2147483648, 2147484048)), (589832, (2147483648, 2147484048)), (589833, (2147483648, 2147484048))]), .inl (some (.inl (2147483648, 2147483649)), [(589834, (2147483648, 2147484048)), (589832, (2147483648, 2147484048)), (589833, (2147483647, 2147483647))])], 3)
theorem hct_figures_t2 : z_ctH zTb ct_figures_t2 := z_ct_ok [(36, 8, 8), (36, 9, 9), (36, 10, 10)] z_hds_ok [ct_skip, ct_wrong1] [] 1 2 (List.forall_mem_cons.mpr ⟨hct_skip, List.forall_mem_cons.mpr ⟨hct_wrong1, fun _ h => absurd h List.not_mem_nil⟩⟩) (by decide +kernel)
def ct_figures_t3 : zCt := (206, [.inr (.inr (36, 0)), .inl (2147483648, 2147483648), .inl (2147483650, 2147483650)], [(589833, (2147483647, 2147483647))], [(36, 8, 8), (36, 9, 9), (36, 10, 10)], [.inl (some (.inl (0, 4294967295)), [(589834, (2147483648, 2147484048)), (589832, (2147483648, 2147484048)), (589833, (2147483648, 2147484048))]), .inl (some (.inl (2147483648, 2147483650)), [(589834, (2147483648, 2147484048)), (589832, (2147483648, 2147484048)), (589833, (2147483647, 2147483647))])], 3)
theorem hct_figures_t3 : z_ctH zTb ct_figures_t3 := z_ct_ok [(36, 8, 8), (36, 9, 9), (36, 10, 10)] z_hds_ok [ct_skip, ct_wrong1] [] 1 2 (List.forall_mem_cons.mpr ⟨hct_skip, List.forall_mem_cons.mpr ⟨hct_wrong1, fun _ h => absurd h List.not_mem_nil⟩⟩) (by decide +kernel)
def ct_figures_t4 : zCt := (206, [.inr (.inr (36, 0)), .inl (2147483648, 2147483648), .inl (2147483651, 2147483651)], [(589833, (2147483647, 2147483647))], [(36, 8, 8), (36, 9, 9), (36, 10, 10)], [.inl (some (.inl (0, 4294967295)), [(589834, (2147483648, 2147484048)), (589832, (2147483648, 2147484048)), (589833, (2147483648, 2147484048))]), .inl (some (.inl (2147483648, 2147483651)), [(589834, (2147483648, 2147484048)), (589832, (2147483648, 2147484048)), (589833, (2147483647, 2147483647))])], 3)
theorem hct_figures_t4 : z_ctH zTb ct_figures_t4 := z_ct_ok [(36, 8, 8), (36, 9, 9), (36, 10, 10)] z_hds_ok [ct_skip, ct_wrong1] [] 1 2 (List.forall_mem_cons.mpr ⟨hct_skip, List.forall_mem_cons.mpr ⟨hct_wrong1, fun _ h => absurd h List.not_mem_nil⟩⟩) (by decide +kernel)
def ct_figures_t5 : zCt := (206, [.inr (.inr (36, 0)), .inl (2147483648, 2147483648), .inl (2147483652, 2147483652)], [(589833, (2147483647, 2147483647))], [(36, 8, 8), (36, 9, 9), (36, 10, 10)], [.inl (some (.inl (0, 4294967295)), [(589834, (2147483648, 2147484048)), (589832, (2147483648, 2147484048)), (589833, (2147483648, 2147484048))]), .inl (some (.inl (2147483648, 2147483652)), [(589834, (2147483648, 2147484048)), (589832, (2147483648, 2147484048)), (589833, (2147483647, 2147483647))])], 3)
theorem hct_figures_t5 : z_ctH zTb ct_figures_t5 := z_ct_ok [(36, 8, 8), (36, 9, 9), (36, 10, 10)] z_hds_ok [ct_skip, ct_wrong1] [] 1 2 (List.forall_mem_cons.mpr ⟨hct_skip, List.forall_mem_cons.mpr ⟨hct_wrong1, fun _ h => absurd h List.not_mem_nil⟩⟩) (by decide +kernel)
def ct_figures_t6 : zCt := (206, [.inr (.inr (36, 0)), .inl (2147483648, 2147483648), .inl (2147483653, 2147483653)], [(589833, (2147483647, 2147483647))], [(36, 8, 8), (36, 9, 9), (36, 10, 10)], [.inl (some (.inl (0, 4294967295)), [(589834, (2147483648, 2147484048)), (589832, (2147483648, 2147484048)), (589833, (2147483648, 2147484048))]), .inl (some (.inl (2147483648, 2147483653)), [(589834, (2147483648, 2147484048)), (589832, (2147483648, 2147484048)), (589833, (2147483647, 2147483647))])], 3)
theorem hct_figures_t6 : z_ctH zTb ct_figures_t6 := z_ct_ok [(36, 8, 8), (36, 9, 9), (36, 10, 10)] z_hds_ok [ct_skip, ct_wrong1] [] 1 2 (List.forall_mem_cons.mpr ⟨hct_skip, List.forall_mem_cons.mpr ⟨hct_wrong1, fun _ h => absurd h List.not_mem_nil⟩⟩) (by decide +kernel)
def ct_figures_t7 : zCt := (206, [.inr (.inr (36, 0)), .inl (2147483648, 2147483648), .inl (2147483654, 2147483654)], [(589833, (2147483647, 2147483647))], [(36, 8, 8), (36, 9, 9), (36, 10, 10)], [.inl (some (.inl (0, 4294967295)), [(589834, (2147483648, 2147484048)), (589832, (2147483648, 2147484048)), (589833, (2147483648, 2147484048))]), .inl (some (.inl (2147483648, 2147483654)), [(589834, (2147483648, 2147484048)), (589832, (2147483648, 2147484048)), (589833, (2147483647, 2147483647))])], 3)
theorem hct_figures_t7 : z_ctH zTb ct_figures_t7 := z_ct_ok [(36, 8, 8), (36, 9, 9), (36, 10, 10)] z_hds_ok [ct_skip, ct_wrong1] [] 1 2 (List.forall_mem_cons.mpr ⟨hct_skip, List.forall_mem_cons.mpr ⟨hct_wrong1, fun _ h => absurd h List.not_mem_nil⟩⟩) (by decide +kernel)
def ct_figures_t8 : zCt := (206, [.inr (.inr (36, 0)), .inl (2147483648, 2147483648), .inl (2147483655, 2147483655)], [(589833, (2147483647, 2147483647))], [(36, 8, 8), (36, 9, 9), (36, 10, 10)], [.inl (some (.inl (0, 4294967295)), [(589834, (2147483648, 2147484048)), (589832, (2147483648, 2147484048)), (589833, (2147483648, 2147484048))]), .inl (some (.inl (2147483648, 2147483655)), [(589834, (2147483648, 2147484048)), (589832, (2147483648, 2147484048)), (589833, (2147483647, 2147483647))])], 3)
theorem hct_figures_t8 : z_ctH zTb ct_figures_t8 := z_ct_ok [(36, 8, 8), (36, 9, 9), (36, 10, 10)] z_hds_ok [ct_skip, ct_wrong1] [] 1 2 (List.forall_mem_cons.mpr ⟨hct_skip, List.forall_mem_cons.mpr ⟨hct_wrong1, fun _ h => absurd h List.not_mem_nil⟩⟩) (by decide +kernel)
def ct_lineTold : zCt := (208, [.inr (.inr (36, 0)), .inl (2147483648, 2147483649)], [(589833, (2147483647, 2147483647))], [(36, 8, 8), (36, 9, 9), (36, 10, 10), (37, 18, 43)], [.inl (none, [(589834, (2147483648, 2147484048)), (589832, (2147483648, 2147484048)), (589833, (2147483647, 2147483647))]), .inl (none, [(589833, (2147483648, 2147484048))])], 4)
theorem hct_lineTold : z_ctH zTb ct_lineTold := z_ct_ok [(36, 8, 8), (36, 9, 9), (36, 10, 10)] z_hds_ok [ct_lineOf, ct_wrong1, ct_figures0, ct_figures_0_3, ct_figures_0_2, ct_figures_t2, ct_figures_t5, ct_figures_t6, ct_figures_t7, ct_figures_t8] [(false, 606210, [(2147483650, 2147483650), (2147483651, 2147483651), (2147483652, 2147483652), (2147483653, 2147483653), (2147483654, 2147483654), (2147483655, 2147483655), (2147483656, 2147483656)])] 3 1 (List.forall_mem_cons.mpr ⟨hct_lineOf, List.forall_mem_cons.mpr ⟨hct_wrong1, List.forall_mem_cons.mpr ⟨hct_figures0, List.forall_mem_cons.mpr ⟨hct_figures_0_3, List.forall_mem_cons.mpr ⟨hct_figures_0_2, List.forall_mem_cons.mpr ⟨hct_figures_t2, List.forall_mem_cons.mpr ⟨hct_figures_t5, List.forall_mem_cons.mpr ⟨hct_figures_t6, List.forall_mem_cons.mpr ⟨hct_figures_t7, List.forall_mem_cons.mpr ⟨hct_figures_t8, fun _ h => absurd h List.not_mem_nil⟩⟩⟩⟩⟩⟩⟩⟩⟩⟩) (by decide +kernel)
def ct_isSquare : zCt := (192, [.inr (.inr (36, 0)), .inl (0, 4294967295), .inl (0, 4294967295)], [], [], [.inl (some (.inl (2147483648, 2147483649)), [])], 2)
theorem hct_isSquare : z_ctH zTb ct_isSquare := z_ct_ok [] z_hds_ok [] [] 0 2 (fun _ h => absurd h List.not_mem_nil) (by decide +kernel)
def ct_boardLine_0_2 : zCt := (209, [.inr (.inr (36, 0))], [(589833, (2147483647, 2147483647)), (606209, (2147483648, 2147483648)), (606210, (2147483650, 2147483650))], [(36, 8, 8), (36, 9, 9), (36, 10, 10), (37, 1, 6), (37, 10, 17), (37, 18, 43)], [.inl (none, [(606210, (2147483656, 2147483656)), (606209, (2147483651, 2147483651)), (589834, (2147483648, 2147484048)), (589832, (2147483648, 2147484048)), (589833, (2147483647, 2147483647))]), .inl (none, [(606209, (2147483648, 2147483648)), (606210, (2147483650, 2147483650)), (589833, (2147483648, 2147484048))]), .inl (none, [(606210, (2147483652, 2147483652)), (606209, (2147483651, 2147483651)), (589834, (2147483648, 2147484048)), (589832, (2147483648, 2147484048)), (589833, (2147483647, 2147483647))]), .inl (none, [(606210, (2147483650, 2147483650)), (606209, (2147483651, 2147483651)), (589834, (2147483648, 2147484048)), (589832, (2147483648, 2147484048)), (589833, (2147483647, 2147483647))]), .inl (none, [(606210, (2147483656, 2147483656)), (606209, (2147483650, 2147483650)), (589834, (2147483648, 2147484048)), (589832, (2147483648, 2147484048)), (589833, (2147483647, 2147483647))]), .inl (none, [(606210, (2147483656, 2147483656)), (606209, (2147483649, 2147483649)), (589834, (2147483648, 2147484048)), (589832, (2147483648, 2147484048)), (589833, (2147483647, 2147483647))]), .inl (none, [(606210, (2147483654, 2147483654)), (606209, (2147483649, 2147483649)), (589834, (2147483648, 2147484048)), (589832, (2147483648, 2147484048)), (589833, (2147483647, 2147483647))]), .inl (none, [(606210, (2147483652, 2147483652)), (606209, (2147483649, 2147483649)), (589834, (2147483648, 2147484048)), (589832, (2147483648, 2147484048)), (589833, (2147483647, 2147483647))]), .inl (none, [(606210, (2147483656, 2147483656)), (606209, (2147483648, 2147483648)), (589834, (2147483648, 2147484048)), (589832, (2147483648, 2147484048)), (589833, (2147483647, 2147483647))]), .inl (none, [(606210, (2147483655, 2147483655)), (606209, (2147483648, 2147483648)), (589834, (2147483648, 2147484048)), (589832, (2147483648, 2147484048)), (589833, (2147483647, 2147483647))]), .inl (none, [(606210, (2147483654, 2147483654)), (606209, (2147483648, 2147483648)), (589834, (2147483648, 2147484048)), (589832, (2147483648, 2147484048)), (589833, (2147483647, 2147483647))]), .inl (none, [(606210, (2147483653, 2147483653)), (606209, (2147483648, 2147483648)), (589834, (2147483648, 2147484048)), (589832, (2147483648, 2147484048)), (589833, (2147483647, 2147483647))]), .inl (none, [(606210, (2147483652, 2147483652)), (606209, (2147483648, 2147483648)), (589834, (2147483648, 2147484048)), (589832, (2147483648, 2147484048)), (589833, (2147483647, 2147483647))]), .inl (none, [(606210, (2147483651, 2147483651)), (606209, (2147483648, 2147483648)), (589834, (2147483648, 2147484048)), (589832, (2147483648, 2147484048)), (589833, (2147483647, 2147483647))]), .inl (none, [(606209, (2147483648, 2147483648)), (606210, (2147483650, 2147483650)), (589834, (2147483648, 2147484048)), (589832, (2147483648, 2147484048)), (589833, (2147483647, 2147483647))])], 10)
theorem hct_boardLine_0_2 : z_ctH zTb ct_boardLine_0_2 := z_ct_ok [(36, 8, 8), (36, 9, 9), (36, 10, 10), (37, 1, 2)] z_hds_ok [ct_isKin, ct_rests0, ct_wrong1, ct_figures0, ct_figures_0_3, ct_figures_2_8, ct_figures_1_3, ct_figures_0_2, ct_figures_0_9, ct_has_112, ct_has_113, ct_has_114, ct_has_115, ct_has_116, ct_has_117, ct_has_118, ct_figures_t2, ct_lineTold, ct_isSquare] [] 8 2 (List.forall_mem_cons.mpr ⟨hct_isKin, List.forall_mem_cons.mpr ⟨hct_rests0, List.forall_mem_cons.mpr ⟨hct_wrong1, List.forall_mem_cons.mpr ⟨hct_figures0, List.forall_mem_cons.mpr ⟨hct_figures_0_3, List.forall_mem_cons.mpr ⟨hct_figures_2_8, List.forall_mem_cons.mpr ⟨hct_figures_1_3, List.forall_mem_cons.mpr ⟨hct_figures_0_2, List.forall_mem_cons.mpr ⟨hct_figures_0_9, List.forall_mem_cons.mpr ⟨hct_has_112, List.forall_mem_cons.mpr ⟨hct_has_113, List.forall_mem_cons.mpr ⟨hct_has_114, List.forall_mem_cons.mpr ⟨hct_has_115, List.forall_mem_cons.mpr ⟨hct_has_116, List.forall_mem_cons.mpr ⟨hct_has_117, List.forall_mem_cons.mpr ⟨hct_has_118, List.forall_mem_cons.mpr ⟨hct_figures_t2, List.forall_mem_cons.mpr ⟨hct_lineTold, List.forall_mem_cons.mpr ⟨hct_isSquare, fun _ h => absurd h List.not_mem_nil⟩⟩⟩⟩⟩⟩⟩⟩⟩⟩⟩⟩⟩⟩⟩⟩⟩⟩⟩) (by decide +kernel)
def ct_boardLine_0_3 : zCt := (209, [.inr (.inr (36, 0))], [(589833, (2147483647, 2147483647)), (606209, (2147483648, 2147483648)), (606210, (2147483651, 2147483651))], [(36, 8, 8), (36, 9, 9), (36, 10, 10), (37, 1, 6), (37, 10, 17), (37, 18, 43)], [.inl (none, [(606210, (2147483656, 2147483656)), (606209, (2147483651, 2147483651)), (589834, (2147483648, 2147484048)), (589832, (2147483648, 2147484048)), (589833, (2147483647, 2147483647))]), .inl (none, [(606209, (2147483648, 2147483648)), (606210, (2147483651, 2147483651)), (589833, (2147483648, 2147484048))]), .inl (none, [(606210, (2147483652, 2147483652)), (606209, (2147483651, 2147483651)), (589834, (2147483648, 2147484048)), (589832, (2147483648, 2147484048)), (589833, (2147483647, 2147483647))]), .inl (none, [(606210, (2147483650, 2147483650)), (606209, (2147483651, 2147483651)), (589834, (2147483648, 2147484048)), (589832, (2147483648, 2147484048)), (589833, (2147483647, 2147483647))]), .inl (none, [(606210, (2147483656, 2147483656)), (606209, (2147483650, 2147483650)), (589834, (2147483648, 2147484048)), (589832, (2147483648, 2147484048)), (589833, (2147483647, 2147483647))]), .inl (none, [(606210, (2147483656, 2147483656)), (606209, (2147483649, 2147483649)), (589834, (2147483648, 2147484048)), (589832, (2147483648, 2147484048)), (589833, (2147483647, 2147483647))]), .inl (none, [(606210, (2147483654, 2147483654)), (606209, (2147483649, 2147483649)), (589834, (2147483648, 2147484048)), (589832, (2147483648, 2147484048)), (589833, (2147483647, 2147483647))]), .inl (none, [(606210, (2147483652, 2147483652)), (606209, (2147483649, 2147483649)), (589834, (2147483648, 2147484048)), (589832, (2147483648, 2147484048)), (589833, (2147483647, 2147483647))]), .inl (none, [(606210, (2147483656, 2147483656)), (606209, (2147483648, 2147483648)), (589834, (2147483648, 2147484048)), (589832, (2147483648, 2147484048)), (589833, (2147483647, 2147483647))]), .inl (none, [(606210, (2147483655, 2147483655)), (606209, (2147483648, 2147483648)), (589834, (2147483648, 2147484048)), (589832, (2147483648, 2147484048)), (589833, (2147483647, 2147483647))]), .inl (none, [(606210, (2147483654, 2147483654)), (606209, (2147483648, 2147483648)), (589834, (2147483648, 2147484048)), (589832, (2147483648, 2147484048)), (589833, (2147483647, 2147483647))]), .inl (none, [(606210, (2147483653, 2147483653)), (606209, (2147483648, 2147483648)), (589834, (2147483648, 2147484048)), (589832, (2147483648, 2147484048)), (589833, (2147483647, 2147483647))]), .inl (none, [(606210, (2147483652, 2147483652)), (606209, (2147483648, 2147483648)), (589834, (2147483648, 2147484048)), (589832, (2147483648, 2147484048)), (589833, (2147483647, 2147483647))]), .inl (none, [(606209, (2147483648, 2147483648)), (606210, (2147483651, 2147483651)), (589834, (2147483648, 2147484048)), (589832, (2147483648, 2147484048)), (589833, (2147483647, 2147483647))]), .inl (none, [(606210, (2147483650, 2147483650)), (606209, (2147483648, 2147483648)), (589834, (2147483648, 2147484048)), (589832, (2147483648, 2147484048)), (589833, (2147483647, 2147483647))])], 10)
theorem hct_boardLine_0_3 : z_ctH zTb ct_boardLine_0_3 := z_ct_ok [(36, 8, 8), (36, 9, 9), (36, 10, 10), (37, 1, 2)] z_hds_ok [ct_isKin, ct_rests0, ct_wrong1, ct_figures0, ct_figures_0_3, ct_figures_2_8, ct_figures_1_3, ct_figures_0_2, ct_figures_0_9, ct_has_112, ct_has_113, ct_has_114, ct_has_115, ct_has_116, ct_has_117, ct_has_118, ct_lineTold, ct_isSquare] [] 8 2 (List.forall_mem_cons.mpr ⟨hct_isKin, List.forall_mem_cons.mpr ⟨hct_rests0, List.forall_mem_cons.mpr ⟨hct_wrong1, List.forall_mem_cons.mpr ⟨hct_figures0, List.forall_mem_cons.mpr ⟨hct_figures_0_3, List.forall_mem_cons.mpr ⟨hct_figures_2_8, List.forall_mem_cons.mpr ⟨hct_figures_1_3, List.forall_mem_cons.mpr ⟨hct_figures_0_2, List.forall_mem_cons.mpr ⟨hct_figures_0_9, List.forall_mem_cons.mpr ⟨hct_has_112, List.forall_mem_cons.mpr ⟨hct_has_113, List.forall_mem_cons.mpr ⟨hct_has_114, List.forall_mem_cons.mpr ⟨hct_has_115, List.forall_mem_cons.mpr ⟨hct_has_116, List.forall_mem_cons.mpr ⟨hct_has_117, List.forall_mem_cons.mpr ⟨hct_has_118, List.forall_mem_cons.mpr ⟨hct_lineTold, List.forall_mem_cons.mpr ⟨hct_isSquare, fun _ h => absurd h List.not_mem_nil⟩⟩⟩⟩⟩⟩⟩⟩⟩⟩⟩⟩⟩⟩⟩⟩⟩⟩) (by decide +kernel)
