/-- a contract, put together from one for each piece of an argument's range, or of a cell's -/
theorem z_ct_joinA {T : zT} {c : zCt} (i : Nat) (ps : List zI) (v : zI) (ha : c.2.1[i]? = some (.inl v)) (hcov : z_cvI v.1 v.2 ps = true) (h : ∀ p ∈ ps, z_ctH T (c.1, c.2.1.set i (.inl p), c.2.2.1, c.2.2.2.1, c.2.2.2.2.1, c.2.2.2.2.2)) : z_ctH T c := by
  intro nS d as' M hd hS hT hg
  obtain ⟨x, h1, h2⟩ := z_S_setx hS ha
  obtain ⟨p, hp, hi⟩ := z_cvI_ok (x := x) hcov h1.1 h1.2
  exact h p hp nS d as' M hd (h2 p hi) hT hg
theorem z_ct_joinC {T : zT} {c : zCt} (i : Nat) (ps : List zI) (hcov : z_cvI (z_rn T c.2.2.1 i).1 (z_rn T c.2.2.1 i).2 ps = true) (h : ∀ p ∈ ps, z_ctH T (c.1, c.2.1, (i, p) :: z_oD c.2.2.1 i i, c.2.2.2.1, c.2.2.2.2.1, c.2.2.2.2.2)) : z_ctH T c := by
  intro nS d as' M hd hS hT hg
  have hky : z_ky (i / 16384) (i / 4096 % 4) (i % 4096) = i := by unfold z_ky; omega
  have hrn := z_rn_ok (n := i) hT hg (k := i / 16384) (i := i / 4096 % 4) (j := i % 4096) (Nat.mod_lt _ (by decide)) (Nat.mod_lt _ (by decide)) hky
  obtain ⟨p, hp, hpi⟩ := z_cvI_ok (x := M.1 (i / 16384) (i / 4096 % 4) (i % 4096)) hcov hrn.1 hrn.2
  refine h p hp nS d as' M hd hS hT (List.forall_mem_cons.mpr ⟨fun k i' j' q1 q2 q3 => ?_, fun e he => hg e (z_oD_ok he).1⟩)
  obtain ⟨e1, e2, e3⟩ := z_ky_lt q1 q2 (Nat.mod_lt (i / 4096) (show 0 < 4 by decide)) (Nat.mod_lt i (show 0 < 4096 by decide)) (q3.trans hky.symm)
  subst e1
  subst e2
  subst e3
  exact hpi
def ct_foldsSquare : zCt := (235, [.inr (.inr (36, 0)), .inl (2147483648, 2147483650), .inl (2147483648, 2147483650), .inl (2147483648, 2147483649)], [], [(43, 0, 79), (44, 0, 79)], [.inl (none, [])], 3)
def ct_foldsSquare_p0 : zCt := (235, [.inr (.inr (36, 0)), .inl (2147483648, 2147483650), .inl (2147483648, 2147483650), .inl (2147483648, 2147483648)], [], [(43, 0, 79), (44, 0, 79)], [.inl (none, [])], 3)
def ct_foldsSquare_p0_p0 : zCt := (235, [.inr (.inr (36, 0)), .inl (2147483648, 2147483650), .inl (2147483648, 2147483650), .inl (2147483648, 2147483648)], [(606209, (2147483648, 2147483650))], [(43, 0, 79), (44, 0, 79)], [.inl (none, [])], 3)
theorem hct_foldsSquare_p0_p0 : z_ctH zTb ct_foldsSquare_p0_p0 := z_ct_ok [] z_hds_ok [ct_times3, ct_times0, ct_isHole, ct_weightOf] [] 2 1 (List.forall_mem_cons.mpr ⟨hct_times3, List.forall_mem_cons.mpr ⟨hct_times0, List.forall_mem_cons.mpr ⟨hct_isHole, List.forall_mem_cons.mpr ⟨hct_weightOf, fun _ h => absurd h List.not_mem_nil⟩⟩⟩⟩) (by decide +kernel)
def ct_foldsSquare_p0_p1 : zCt := (235, [.inr (.inr (36, 0)), .inl (2147483648, 2147483650), .inl (2147483648, 2147483650), .inl (2147483648, 2147483648)], [(606209, (2147483651, 2147483651))], [(43, 0, 79), (44, 0, 79)], [.inl (none, [])], 3)
theorem hct_foldsSquare_p0_p1 : z_ctH zTb ct_foldsSquare_p0_p1 := z_ct_ok [] z_hds_ok [ct_times3, ct_times0, ct_isHole, ct_weightOf] [] 2 1 (List.forall_mem_cons.mpr ⟨hct_times3, List.forall_mem_cons.mpr ⟨hct_times0, List.forall_mem_cons.mpr ⟨hct_isHole, List.forall_mem_cons.mpr ⟨hct_weightOf, fun _ h => absurd h List.not_mem_nil⟩⟩⟩⟩) (by decide +kernel)
theorem hct_foldsSquare_p0 : z_ctH zTb ct_foldsSquare_p0 := z_ct_joinC (c := ct_foldsSquare_p0) 606209 [(2147483648, 2147483650), (2147483651, 2147483651)] (by decide +kernel) (List.forall_mem_cons.mpr ⟨hct_foldsSquare_p0_p0, List.forall_mem_cons.mpr ⟨hct_foldsSquare_p0_p1, fun _ h => absurd h List.not_mem_nil⟩⟩)
def ct_foldsSquare_p1 : zCt := (235, [.inr (.inr (36, 0)), .inl (2147483648, 2147483650), .inl (2147483648, 2147483650), .inl (2147483649, 2147483649)], [], [(43, 0, 79), (44, 0, 79)], [.inl (none, [])], 3)
def ct_foldsSquare_p1_p0 : zCt := (235, [.inr (.inr (36, 0)), .inl (2147483648, 2147483650), .inl (2147483648, 2147483650), .inl (2147483649, 2147483649)], [(606209, (2147483648, 2147483650))], [(43, 0, 79), (44, 0, 79)], [.inl (none, [])], 3)
theorem hct_foldsSquare_p1_p0 : z_ctH zTb ct_foldsSquare_p1_p0 := z_ct_ok [] z_hds_ok [ct_times3, ct_times0, ct_isHole, ct_weightOf] [] 2 1 (List.forall_mem_cons.mpr ⟨hct_times3, List.forall_mem_cons.mpr ⟨hct_times0, List.forall_mem_cons.mpr ⟨hct_isHole, List.forall_mem_cons.mpr ⟨hct_weightOf, fun _ h => absurd h List.not_mem_nil⟩⟩⟩⟩) (by decide +kernel)
def ct_foldsSquare_p1_p1 : zCt := (235, [.inr (.inr (36, 0)), .inl (2147483648, 2147483650), .inl (2147483648, 2147483650), .inl (2147483649, 2147483649)], [(606209, (2147483651, 2147483651))], [(43, 0, 79), (44, 0, 79)], [.inl (none, [])], 3)
theorem hct_foldsSquare_p1_p1 : z_ctH zTb ct_foldsSquare_p1_p1 := z_ct_ok [] z_hds_ok [ct_times3, ct_times0, ct_isHole, ct_weightOf] [] 2 1 (List.forall_mem_cons.mpr ⟨hct_times3, List.forall_mem_cons.mpr ⟨hct_times0, List.forall_mem_cons.mpr ⟨hct_isHole, List.forall_mem_cons.mpr ⟨hct_weightOf, fun _ h => absurd h List.not_mem_nil⟩⟩⟩⟩) (by decide +kernel)
theorem hct_foldsSquare_p1 : z_ctH zTb ct_foldsSquare_p1 := z_ct_joinC (c := ct_foldsSquare_p1) 606209 [(2147483648, 2147483650), (2147483651, 2147483651)] (by decide +kernel) (List.forall_mem_cons.mpr ⟨hct_foldsSquare_p1_p0, List.forall_mem_cons.mpr ⟨hct_foldsSquare_p1_p1, fun _ h => absurd h List.not_mem_nil⟩⟩)
theorem hct_foldsSquare : z_ctH zTb ct_foldsSquare := z_ct_joinA (c := ct_foldsSquare) 3 [(2147483648, 2147483648), (2147483649, 2147483649)] (2147483648, 2147483649) rfl (by decide +kernel) (List.forall_mem_cons.mpr ⟨hct_foldsSquare_p0, List.forall_mem_cons.mpr ⟨hct_foldsSquare_p1, fun _ h => absurd h List.not_mem_nil⟩⟩)
