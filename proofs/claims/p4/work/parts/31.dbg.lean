/-- a contract, put together from one for each piece of an argument's range, or of a cell's -/
theorem z_ct_joinA {T : zT} {c : zCt} (i : Nat) (ps : List zI) (v : zI) (ha : c.2.1[i]? = some (.inl v)) (hcov : z_cvI v.1 v.2 ps = true) (h : ∀ p ∈ ps, z_ctH T (c.1, c.2.1.set i (.inl p), c.2.2.1, c.2.2.2.1, c.2.2.2.2.1, c.2.2.2.2.2)) : z_ctH T c := by
  intro nS d as' M hd hS hT hg
  obtain ⟨x, h1, h2⟩ := z_S_setx hS ha
  obtain ⟨p, hp, hi⟩ := z_cvI_ok (x := x) hcov h1.1 h1.2
  exact h p hp nS d as' M hd (h2 p hi) hT hg
theorem z_ct_joinC {T : zT} {c : zCt} (i : Nat) (ps : List zI) (hcov : z_cvI (z_rn T c.2.2.1 i).1 (z_rn T c.2.2.1 i).2 ps = true) (h : ∀ p ∈ ps, z_ctH T (c.1, c.2.1, (i, p) :: z_oD c.2.2.1 i i, c.2.2.2.1, c.2.2.2.2.1, c.2.2.2.2.2)) : z_ctH T c := by
  intro nS d as' M hd hS hT hg
  have hky : z_ky (i / 16384) (i / 4096 % 4) (i % 4096) = i := by unfold z_ky; omega
  have hrn := z_rn_ok (n := i) hT hg (k := i / 16384) (i := i / 4096 % 4) (j := i % 4096) (Nat.mod_lt _ (by decide)) (Nat.mod_lt _ (by decide)) hky
  obtain ⟨p, hp, hpi⟩ := z_cvI_ok (x := M.1 (i / 16384) (i / 4096 % 4) (i % 4096)) hcov hrn.1 hrn.2
  refine h p hp nS d as' M hd hS hT (List.forall_mem_cons.mpr ⟨fun k i' j' q1 q2 q3 => ?_, fun e he => hg e (z_oD_ok he).1⟩)
  obtain ⟨e1, e2, e3⟩ := z_ky_lt q1 q2 (Nat.mod_lt (i / 4096) (show 0 < 4 by decide)) (Nat.mod_lt i (show 0 < 4096 by decide)) (q3.trans hky.symm)
  subst e1
  subst e2
  subst e3
  exact hpi
def ct_times3 : zCt := (181, [.inr (.inr (36, 0)), .inl (2147483648, 2147483655), .inl (2147483648, 2147483655)], [(606209, (2147483651, 2147483651))], [], [.inl (some (.inl (2147483648, 2147483655)), [])], 1)
theorem hct_times3 : z_ctH zTb ct_times3 := sorry
def ct_times0 : zCt := (181, [.inr (.inr (36, 0)), .inl (2147483648, 2147483663), .inl (2147483648, 2147483663)], [(606209, (2147483648, 2147483650))], [], [.inl (some (.inl (2147483648, 2147483655)), [])], 1)
theorem hct_times0 : z_ctH zTb ct_times0 := sorry
def ct_against3 : zCt := (182, [.inr (.inr (36, 0)), .inl (2147483648, 2147483655)], [(606209, (2147483651, 2147483651))], [], [.inl (some (.inl (2147483648, 2147483655)), [])], 2)
theorem hct_against3 : z_ctH zTb ct_against3 := sorry
def ct_against0 : zCt := (182, [.inr (.inr (36, 0)), .inl (2147483648, 2147483656)], [(606209, (2147483648, 2147483650))], [], [.inl (some (.inl (2147483648, 2147483656)), [])], 2)
theorem hct_against0 : z_ctH zTb ct_against0 := sorry
def ct_isKin : zCt := (183, [.inr (.inr (36, 0)), .inl (2147483648, 2147483655), .inl (2147483648, 2147483655)], [], [], [.inl (some (.inl (2147483648, 2147483649)), [])], 3)
theorem hct_isKin : z_ctH zTb ct_isKin := sorry
def ct_areLike : zCt := (248, [.inr (.inr (36, 0)), .inl (2147483648, 2147483655), .inl (2147483648, 2147483655)], [], [], [.inl (some (.inl (2147483648, 2147483649)), [])], 2)
theorem hct_areLike : z_ctH zTb ct_areLike := sorry
def ct_commutators : zCt := (187, [.inr (.inr (36, 0)), .inl (2147483648, 2147483655)], [], [], [.inl (some (.inl (2147483648, 2147483712)), [])], 3)
theorem hct_commutators : z_ctH zTb ct_commutators := sorry
def ct_roots : zCt := (188, [.inr (.inr (36, 0)), .inl (2147483648, 2147483655)], [], [], [.inl (some (.inl (2147483648, 2147483656)), [])], 2)
theorem hct_roots : z_ctH zTb ct_roots := sorry
def ct_isHole : zCt := (194, [.inr (.inr (36, 0)), .inl (0, 4294967295), .inl (0, 4294967295)], [], [], [.inl (some (.inl (2147483648, 2147483649)), [])], 1)
theorem hct_isHole : z_ctH zTb ct_isHole := sorry
def ct_columns : zCt := (190, [.inr (.inr (36, 0))], [], [], [.inl (some (.inl (2147483649, 2147483652)), [])], 1)
theorem hct_columns : z_ctH zTb ct_columns := sorry
def ct_rowsOf : zCt := (191, [.inr (.inr (36, 0))], [], [], [.inl (some (.inl (2147483649, 2147483652)), [])], 1)
theorem hct_rowsOf : z_ctH zTb ct_rowsOf := sorry
def ct_lineMany : zCt := (196, [.inr (.inr (36, 0))], [], [], [.inl (some (.inl (2147483650, 2147483672)), [])], 2)
theorem hct_lineMany : z_ctH zTb ct_lineMany := sorry
def ct_lineOf : zCt := (195, [.inr (.inr (36, 0)), .inl (0, 4294967295), .inl (0, 4294967295), .inl (2147483648, 2147483649)], [], [], [.inl (some (.inl (2147483647, 2147483647)), []), .inl (some (.inl (2147483648, 2147483671)), [])], 3)
theorem hct_lineOf : z_ctH zTb ct_lineOf := hz_lineOf
def ct_cornerOf : zCt := (197, [.inr (.inr (36, 0)), .inl (2147483648, 2147483651), .inl (2147483648, 2147483651)], [], [], [.inl (some (.inl (2147483648, 2147483663)), [])], 2)
theorem hct_cornerOf : z_ctH zTb ct_cornerOf := sorry
def ct_cornerOf9 : zCt := (197, [.inr (.inr (36, 0)), .inl (0, 4294967295), .inl (0, 4294967295)], [], [], [.inl (some (.inl (0, 4294967295)), [])], 2)
theorem hct_cornerOf9 : z_ctH zTb ct_cornerOf9 := sorry
def ct_endOf : zCt := (198, [.inr (.inr (36, 0)), .inl (2147483648, 2147483671), .inl (2147483648, 2147483649)], [], [], [.inl (some (.inl (2147483648, 2147483663)), [])], 3)
theorem hct_endOf : z_ctH zTb ct_endOf := hz_endOf
def ct_held : zCt := (199, [.inr (.inr (36, 0)), .inl (0, 4294967295), .inl (0, 4294967295), .inl (2147483648, 2147483649)], [], [], [.inl (some (.inl (2147483648, 2147483655)), [])], 4)
theorem hct_held : z_ctH zTb ct_held := sorry
def ct_roundOf : zCt := (200, [.inr (.inr (36, 0)), .inl (2147483648, 2147483650), .inl (2147483648, 2147483650)], [], [], [.inl (some (.inl (2147483648, 2147483655)), [])], 5)
theorem hct_roundOf : z_ctH zTb ct_roundOf := sorry
def ct_worthNow : zCt := (228, [.inr (.inr (36, 0))], [], [], [.inl (some (.inr (.inl none)), [])], 6)
theorem hct_worthNow : z_ctH zTb ct_worthNow := sorry
def ct_turnedNow : zCt := (230, [.inr (.inr (36, 0))], [], [], [.inl (some (.inl (2147483648, 2147483657)), [])], 6)
theorem hct_turnedNow : z_ctH zTb ct_turnedNow := sorry
def ct_weightOf : zCt := (234, [.inr (.inr (36, 0)), .inl (2147483648, 2147483650), .inl (2147483648, 2147483650), .inl (2147483648, 2147483655)], [], [], [.inl (some (.inl (2147483648, 2147483657)), [])], 2)
theorem hct_weightOf : z_ctH zTb ct_weightOf := sorry
def ct_folds0 : zCt := (235, [.inr (.inr (36, 0))], [], [(43, 0, 79), (44, 0, 79)], [.inl (none, [])], 1)
theorem hct_folds0 : z_ctH zTb ct_folds0 := sorry
def ct_foldsSquare : zCt := (236, [.inr (.inr (36, 0)), .inl (2147483648, 2147483650), .inl (2147483648, 2147483650), .inl (2147483648, 2147483649)], [], [(43, 0, 79), (44, 0, 79)], [.inl (none, [])], 3)
def ct_foldsSquare_p0 : zCt := (236, [.inr (.inr (36, 0)), .inl (2147483648, 2147483650), .inl (2147483648, 2147483650), .inl (2147483648, 2147483648)], [], [(43, 0, 79), (44, 0, 79)], [.inl (none, [])], 3)
def ct_foldsSquare_p0_p0 : zCt := (236, [.inr (.inr (36, 0)), .inl (2147483648, 2147483650), .inl (2147483648, 2147483650), .inl (2147483648, 2147483648)], [(606209, (2147483648, 2147483650))], [(43, 0, 79), (44, 0, 79)], [.inl (none, [])], 3)
theorem hct_foldsSquare_p0_p0 : z_ctH zTb ct_foldsSquare_p0_p0 := sorry
def ct_foldsSquare_p0_p1 : zCt := (236, [.inr (.inr (36, 0)), .inl (2147483648, 2147483650), .inl (2147483648, 2147483650), .inl (2147483648, 2147483648)], [(606209, (2147483651, 2147483651))], [(43, 0, 79), (44, 0, 79)], [.inl (none, [])], 3)
theorem hct_foldsSquare_p0_p1 : z_ctH zTb ct_foldsSquare_p0_p1 := sorry
theorem hct_foldsSquare_p0 : z_ctH zTb ct_foldsSquare_p0 := z_ct_joinC (c := ct_foldsSquare_p0) 606209 [(2147483648, 2147483650), (2147483651, 2147483651)] (by decide +kernel) (List.forall_mem_cons.mpr ⟨hct_foldsSquare_p0_p0, List.forall_mem_cons.mpr ⟨hct_foldsSquare_p0_p1, fun _ h => absurd h List.not_mem_nil⟩⟩)
def ct_foldsSquare_p1 : zCt := (236, [.inr (.inr (36, 0)), .inl (2147483648, 2147483650), .inl (2147483648, 2147483650), .inl (2147483649, 2147483649)], [], [(43, 0, 79), (44, 0, 79)], [.inl (none, [])], 3)
def ct_foldsSquare_p1_p0 : zCt := (236, [.inr (.inr (36, 0)), .inl (2147483648, 2147483650), .inl (2147483648, 2147483650), .inl (2147483649, 2147483649)], [(606209, (2147483648, 2147483650))], [(43, 0, 79), (44, 0, 79)], [.inl (none, [])], 3)
theorem hct_foldsSquare_p1_p0 : z_ctH zTb ct_foldsSquare_p1_p0 := sorry
def ct_foldsSquare_p1_p1 : zCt := (236, [.inr (.inr (36, 0)), .inl (2147483648, 2147483650), .inl (2147483648, 2147483650), .inl (2147483649, 2147483649)], [(606209, (2147483651, 2147483651))], [(43, 0, 79), (44, 0, 79)], [.inl (none, [])], 3)
theorem hct_foldsSquare_p1_p1 : z_ctH zTb ct_foldsSquare_p1_p1 := sorry
theorem hct_foldsSquare_p1 : z_ctH zTb ct_foldsSquare_p1 := z_ct_joinC (c := ct_foldsSquare_p1) 606209 [(2147483648, 2147483650), (2147483651, 2147483651)] (by decide +kernel) (List.forall_mem_cons.mpr ⟨hct_foldsSquare_p1_p0, List.forall_mem_cons.mpr ⟨hct_foldsSquare_p1_p1, fun _ h => absurd h List.not_mem_nil⟩⟩)
theorem hct_foldsSquare : z_ctH zTb ct_foldsSquare := z_ct_joinA (c := ct_foldsSquare) 3 [(2147483648, 2147483648), (2147483649, 2147483649)] (2147483648, 2147483649) rfl (by decide +kernel) (List.forall_mem_cons.mpr ⟨hct_foldsSquare_p0, List.forall_mem_cons.mpr ⟨hct_foldsSquare_p1, fun _ h => absurd h List.not_mem_nil⟩⟩)

def ct_foldsAll : zCt := (237, [.inr (.inr (36, 0)), .inl (2147483648, 2147483649)], [], [(43, 0, 79), (44, 0, 79)], [.inl (none, [])], 4)
theorem hct_foldsAll : z_ctH zTb ct_foldsAll := sorry
def ct_byShape : zCt := (238, [.inr (.inr (36, 0)), .inl (2147483648, 2147483657)], [], [], [.inl (some (.inr (.inl none)), [])], 4)
theorem hct_byShape : z_ctH zTb ct_byShape := sorry
def ct_foldsPart : zCt := (250, [.inr (.inr (36, 0)), .inl (2147483648, 2147483650)], [], [(43, 0, 79), (44, 0, 79)], [.inl (none, [])], 4)
theorem hct_foldsPart : z_ctH zTb ct_foldsPart := sorry
def ct_dualOf : zCt := (252, [.inr (.inr (36, 0)), .inl (0, 4294967295)], [], [], [.inl (some (.inl (0, 4294967295)), [])], 1)
theorem hct_dualOf : z_ctH zTb ct_dualOf := sorry
def ct_rests0 : zCt := (208, [.inr (.inr (36, 0))], [], [(37, 20, 43)], [.inl (none, [])], 1)
theorem hct_rests0 : z_ctH zTb ct_rests0 := sorry
def ct_isClosed : zCt := (226, [.inr (.inr (36, 0))], [], [], [.inl (some (.inl (2147483648, 2147483649)), [])], 3)
theorem hct_isClosed : z_ctH zTb ct_isClosed := sorry
def ct_isRing : zCt := (244, [.inr (.inr (36, 0))], [], [], [.inl (some (.inl (2147483648, 2147483649)), [])], 4)
set_option maxRecDepth 10000 in
theorem hct_isRing : z_ctH zTb ct_isRing := by
  intro nS d as M hd hS hT hG
  obtain ⟨e, rfl⟩ := h_rk hd
  have h1 := h_S1 (by decide) hS
  subst h1
  show aC nS (e + 3 + 1) 244 _ M _ _
  refine aC_mk rfl rfl ?_
  intro K hK hF
  have s1 : 2147483648 ≤ z_b (M.1 36 0 16) := (h_TR (T := zTb) (k := 36) (i := 0) (j := 16) hT).1
  have s2 : z_b (M.1 36 0 16) ≤ 2147483756 := (h_TR (T := zTb) (k := 36) (i := 0) (j := 16) hT).2
  obtain ⟨N, hN, hNe⟩ : ∃ N, N ≤ 108 ∧ M.1 36 0 16 = Int32.ofNat N := ⟨z_b (M.1 36 0 16) - 2147483648, by omega, z_b_inj (by rw [z_b_ofNat (by omega)]; omega)⟩
  have hNb : z_b (M.1 36 0 16) = N + 2147483648 := by rw [hNe, z_b_ofNat (by omega)]
  have vp : ∀ a : Nat, a < 109 → vp_in (Int32.ofNat a) 109 := fun a h => z_vp.mpr (by rw [z_b_ofNat (by omega)]; omega)
  have r0 : ∀ L : aL, K 64 L [] M := fun L => hK _ _ _ _ (hK _ _ _ _ ⟨Or.inl rfl, _, _, List.mem_singleton.mpr rfl, h_bo (Or.inl rfl), h_M0 hT⟩)
  have r15 : ∀ L : aL, K 15 L [] M := fun L => hK _ _ _ _ (hK _ _ _ _ ⟨Or.inl rfl, _, _, List.mem_singleton.mpr rfl, h_bo (Or.inl rfl), h_M0 hT⟩)
  have inn : ∀ (m j i : Nat), j + m = i → i < N → K 72 [some (vR 36 0), some (vI (Int32.ofNat i)), some (vI (Int32.ofNat i))] [] M → K 29 [some (vR 36 0), some (vI (Int32.ofNat i)), some (vI (Int32.ofNat j))] [] M := by
    intro m
    induction m with
    | zero =>
      intro j i hj hi hn
      have e9 : j = i := by omega
      rw [e9]
      refine hK _ _ _ _ (hK _ _ _ _ (?_))
      exact hK _ _ _ _ ⟨fun _ => hn, fun h => absurd (Int32.le_refl _) h⟩
    | succ m ih =>
      intro j i hj hi hn
      refine hK _ _ _ _ (hK _ _ _ _ (?_))
      refine hK _ _ _ _ ⟨fun h => ?_, fun h => ?_⟩
      · exfalso
        have := (hI_le (by omega) (by omega)).mp h
        omega
      have nx : K 66 [some (vR 36 0), some (vI (Int32.ofNat i)), some (vI (Int32.ofNat j))] [] M := by
        refine hK _ _ _ _ (hK _ _ _ _ ?_)
        rw [hI_s]
        exact ih (j + 1) i (by omega) hi hn
      refine hK _ _ _ _ (hK _ _ _ _ (hK _ _ _ _ (?_)))
      refine hK _ _ _ _ ⟨vp i (by omega), ?_⟩
      refine hK _ _ _ _ (hK _ _ _ _ (hK _ _ _ _ (?_)))
      refine hK _ _ _ _ ⟨vp j (by omega), ?_⟩
      refine hK _ _ _ _ ⟨fun _ => nx, fun _ => ?_⟩
      refine hK _ _ _ _ (hK _ _ _ _ (hK _ _ _ _ (?_)))
      refine hK _ _ _ _ ⟨vp i (by omega), ?_⟩
      refine hK _ _ _ _ (hK _ _ _ _ (hK _ _ _ _ (?_)))
      refine hK _ _ _ _ ⟨vp j (by omega), ?_⟩
      exact hK _ _ _ _ ⟨fun _ => nx, fun _ => r0 _⟩
  have out : ∀ (m i : Nat) (x2 : Option aV), i + m = N → K 19 [some (vR 36 0), some (vI (Int32.ofNat i)), x2] [] M := by
    intro m
    induction m with
    | zero =>
      intro i x2 hi
      have e9 : i = N := by omega
      refine hK _ _ _ _ (hK _ _ _ _ (hK _ _ _ _ (?_)))
      refine hK _ _ _ _ ⟨fun h => ?_, fun h => ?_⟩
      · exact hK _ _ _ _ (hK _ _ _ _ ⟨Or.inr rfl, _, _, List.mem_singleton.mpr rfl, h_bo (Or.inr rfl), h_M0 hT⟩)
      · exfalso
        apply h
        show M.1 36 0 16 ≤ Int32.ofNat i
        rw [hNe, e9]
        exact Int32.le_refl _
    | succ m ih =>
      intro i x2 hi
      refine hK _ _ _ _ (hK _ _ _ _ (hK _ _ _ _ (?_)))
      refine hK _ _ _ _ ⟨fun h => ?_, fun h => ?_⟩
      · exfalso
        have h3 : M.1 36 0 16 ≤ Int32.ofNat i := h
        have := z_b_le.mp h3
        rw [hNb, z_b_ofNat (by omega)] at this
        omega
      refine hK _ _ _ _ (hK _ _ _ _ (?_))
      refine inn i 0 i (by omega) (by omega) ?_
      refine hK _ _ _ _ (hK _ _ _ _ ?_)
      rw [hI_s]
      exact ih (i + 1) _ (by omega)
  refine hK _ _ _ _ (hK _ _ _ _ (hK _ _ _ _ (?_)))
  refine hK _ _ _ _ ⟨fun _ => r15 _, fun _ => ?_⟩
  refine hK _ _ _ _ ?_
  refine hK _ _ _ _ ⟨_, h_pI hct_isClosed rfl rfl rfl (show (3 : Nat) ≤ e + 3 by omega) (h_R trivial) hT, rfl, fun v M2 g => ?_⟩
  obtain ⟨⟨y, rfl, -⟩, rfl⟩ := g
  refine hK _ _ _ _ ⟨fun _ => ?_, fun _ => r15 _⟩
  refine hK _ _ _ _ (hK _ _ _ _ (?_))
  exact out N 0 none (by omega)
def ct_isWithin : zCt := (245, [.inr (.inr (36, 0)), .inl (0, 4294967295), .inl (0, 4294967295)], [], [], [.inl (some (.inl (2147483648, 2147483649)), [])], 1)
theorem hct_isWithin : z_ctH zTb ct_isWithin := sorry
def ct_isClockwise : zCt := (246, [.inr (.inr (36, 0))], [], [], [.inl (some (.inl (2147483648, 2147483649)), [])], 1)
theorem hct_isClockwise : z_ctH zTb ct_isClockwise := sorry
def ct_begins : zCt := (211, [.inr (.inr (36, 0))], [], [(36, 6, 9)], [.inl (none, [(589832, (2147483648, 2147483648)), (589830, (2147483648, 2147483648)), (589831, (2147483648, 2147484048)), (589833, (2147483647, 2147483647))])], 1)
theorem hct_begins : z_ctH zTb ct_begins := sorry
def ct_skip : zCt := (203, [.inr (.inr (36, 0))], [], [(36, 8, 8)], [.inl (none, [(589832, (2147483648, 2147484048))])], 1)
theorem hct_skip : z_ctH zTb ct_skip := sorry
def ct_isSign : zCt := (204, [.inr (.inr (36, 0)), .inl (0, 4294967295)], [], [(36, 8, 8)], [.inl (some (.inl (2147483648, 2147483648)), [(589832, (2147483648, 2147484048))]), .inl (some (.inl (2147483649, 2147483649)), [(589832, (2147483648, 2147484047))])], 2)
theorem hct_isSign : z_ctH zTb ct_isSign := sorry
def ct_wrong1 : zCt := (206, [.inr (.inr (36, 0)), .inl (2147483648, 2147484048)], [(589833, (2147483647, 2147483647))], [(36, 9, 9)], [.inl (none, [(589833, (2147483648, 2147484048))])], 1)
theorem hct_wrong1 : z_ctH zTb ct_wrong1 := sorry
def ct_wrong0 : zCt := (206, [.inr (.inr (36, 0)), .inl (2147483648, 2147484048)], [(589833, (2147483648, 2147484048))], [(36, 9, 9)], [.inl (none, [(589833, (2147483648, 2147484048))])], 1)
theorem hct_wrong0 : z_ctH zTb ct_wrong0 := sorry
def ct_figures0 : zCt := (207, [.inr (.inr (36, 0)), .inl (0, 4294967295), .inl (0, 4294967295)], [(589833, (2147483648, 2147484048))], [(36, 8, 8), (36, 9, 9), (36, 10, 10)], [.inl (some (.inl (2147483648, 2147483648)), [(589833, (2147483648, 2147484048))])], 1)
theorem hct_figures0 : z_ctH zTb ct_figures0 := sorry
def ct_figures_0_3 : zCt := (207, [.inr (.inr (36, 0)), .inl (2147483648, 2147483648), .inl (2147483651, 2147483651)], [(589833, (2147483647, 2147483647))], [(36, 8, 8), (36, 9, 9), (36, 10, 10)], [.inl (some (.inl (0, 4294967295)), [(589834, (2147483648, 2147484048)), (589832, (2147483648, 2147484048)), (589833, (2147483648, 2147484048))]), .inl (some (.inl (2147483648, 2147483651)), [(589834, (2147483648, 2147484048)), (589832, (2147483648, 2147484048)), (589833, (2147483647, 2147483647))])], 3)
theorem hct_figures_0_3 : z_ctH zTb ct_figures_0_3 := hz_figures
def ct_figures_2_8 : zCt := (207, [.inr (.inr (36, 0)), .inl (2147483650, 2147483650), .inl (2147483656, 2147483656)], [(589833, (2147483647, 2147483647))], [(36, 8, 8), (36, 9, 9), (36, 10, 10)], [.inl (some (.inl (0, 4294967295)), [(589834, (2147483648, 2147484048)), (589832, (2147483648, 2147484048)), (589833, (2147483648, 2147484048))]), .inl (some (.inl (2147483650, 2147483656)), [(589834, (2147483648, 2147484048)), (589832, (2147483648, 2147484048)), (589833, (2147483647, 2147483647))])], 3)
theorem hct_figures_2_8 : z_ctH zTb ct_figures_2_8 := hz_figures
def ct_figures_1_3 : zCt := (207, [.inr (.inr (36, 0)), .inl (2147483649, 2147483649), .inl (2147483651, 2147483651)], [(589833, (2147483647, 2147483647))], [(36, 8, 8), (36, 9, 9), (36, 10, 10)], [.inl (some (.inl (0, 4294967295)), [(589834, (2147483648, 2147484048)), (589832, (2147483648, 2147484048)), (589833, (2147483648, 2147484048))]), .inl (some (.inl (2147483649, 2147483651)), [(589834, (2147483648, 2147484048)), (589832, (2147483648, 2147484048)), (589833, (2147483647, 2147483647))])], 3)
theorem hct_figures_1_3 : z_ctH zTb ct_figures_1_3 := hz_figures
def ct_figures_0_2 : zCt := (207, [.inr (.inr (36, 0)), .inl (2147483648, 2147483648), .inl (2147483650, 2147483650)], [(589833, (2147483647, 2147483647))], [(36, 8, 8), (36, 9, 9), (36, 10, 10)], [.inl (some (.inl (0, 4294967295)), [(589834, (2147483648, 2147484048)), (589832, (2147483648, 2147484048)), (589833, (2147483648, 2147484048))]), .inl (some (.inl (2147483648, 2147483650)), [(589834, (2147483648, 2147484048)), (589832, (2147483648, 2147484048)), (589833, (2147483647, 2147483647))])], 3)
theorem hct_figures_0_2 : z_ctH zTb ct_figures_0_2 := hz_figures
def ct_figures_0_9 : zCt := (207, [.inr (.inr (36, 0)), .inl (2147483648, 2147483648), .inl (2147483657, 2147483657)], [(589833, (2147483647, 2147483647))], [(36, 8, 8), (36, 9, 9), (36, 10, 10)], [.inl (some (.inl (0, 4294967295)), [(589834, (2147483648, 2147484048)), (589832, (2147483648, 2147484048)), (589833, (2147483648, 2147484048))]), .inl (some (.inl (2147483648, 2147483657)), [(589834, (2147483648, 2147484048)), (589832, (2147483648, 2147484048)), (589833, (2147483647, 2147483647))])], 3)
theorem hct_figures_0_9 : z_ctH zTb ct_figures_0_9 := hz_figures
def ct_figures_1_9 : zCt := (207, [.inr (.inr (36, 0)), .inl (2147483649, 2147483649), .inl (2147483657, 2147483657)], [(589833, (2147483647, 2147483647))], [(36, 8, 8), (36, 9, 9), (36, 10, 10)], [.inl (some (.inl (0, 4294967295)), [(589834, (2147483648, 2147484048)), (589832, (2147483648, 2147484048)), (589833, (2147483648, 2147484048))]), .inl (some (.inl (2147483649, 2147483657)), [(589834, (2147483648, 2147484048)), (589832, (2147483648, 2147484048)), (589833, (2147483647, 2147483647))])], 3)
theorem hct_figures_1_9 : z_ctH zTb ct_figures_1_9 := hz_figures
def ct_isInx : zCt := (179, [.inl (0, 4294967295), .inl (0, 4294967295), .inl (0, 4294967295)], [], [], [.inl (some (.inl (2147483648, 2147483649)), [])], 1)
theorem hct_isInx : z_ctH zTb ct_isInx := sorry
def ct_has_112 : zCt := (205, [.inr (.inr (36, 0)), .inr (.inr (112, 0))], [], [(36, 8, 8)], [.inl (some (.inl (2147483648, 2147483648)), [(589832, (2147483648, 2147484048))]), .inl (some (.inl (2147483649, 2147483649)), [(589832, (2147483648, 2147484048))])], 8)
set_option maxRecDepth 10000 in
theorem h_has {nS e : Nat} {M : aM} {ks : Nat} {bs : List Nat} (hk : a_stx ks = some bs) (hl : bs.length < 1000) (hT : z_MT (zTb, [], []) M) : aC nS (e + 7 + 1) 205 [vR 36 0, vR ks 0] M (z_po (zTb, [(36, 8, 8)], []) M [.inl (some (.inl (2147483648, 2147483648)), [(589832, (2147483648, 2147484048))]), .inl (some (.inl (2147483649, 2147483649)), [(589832, (2147483648, 2147484048))])]) (z_px (zTb, [(36, 8, 8)], []) M [.inl (some (.inl (2147483648, 2147483648)), [(589832, (2147483648, 2147484048))]), .inl (some (.inl (2147483649, 2147483649)), [(589832, (2147483648, 2147484048))])]) := by
  refine aC_mk rfl rfl ?_
  intro K hK hF
  refine hK _ _ _ _ ?_
  refine hK _ _ _ _ ⟨_, h_pW hct_skip rfl rfl (show (1 : Nat) ≤ e + 7 by omega) (h_R trivial) hT, rfl, fun v M1 g => ?_⟩
  obtain ⟨g1, hM⟩ := g
  have g1 := h_ovN g1
  subst g1
  have ha : z_i (2147483648, 2147484048) (M1.1 36 0 8) := h_TR (T := zTb) (k := 36) (i := 0) (j := 8) hM.1
  have he : z_i (2147483648, 2147484048) (M1.1 36 0 7) := h_TR (T := zTb) (k := 36) (i := 0) (j := 7) hM.1
  obtain ⟨ha1, ha2⟩ := ha
  obtain ⟨he1, he2⟩ := he
  dsimp only at ha1 ha2 he1 he2
  have out0 : z_po (zTb, [(36, 8, 8)], []) M [.inl (some (.inl (2147483648, 2147483648)), [(589832, (2147483648, 2147484048))]), .inl (some (.inl (2147483649, 2147483649)), [(589832, (2147483648, 2147484048))])] (some (vI 0)) M1 := ⟨_, _, List.mem_cons_self, ⟨Nat.le_of_eq z_b0.symm, Nat.le_of_eq z_b0⟩, hM.1, hM.2.1, fun e9 h9 k' i' j' q1 q2 q3 => by
    have h9 := List.mem_singleton.mp h9
    subst h9
    obtain ⟨f1, f2, f3⟩ := z_ky_lt (k' := 36) (i' := 0) (j' := 8) q1 q2 (by decide) (by decide) q3
    subst f1
    subst f2
    subst f3
    exact ⟨ha1, ha2⟩⟩
  have lp : ∀ (n : Nat) (x2 : Int32), 4294967296 - z_b x2 = n → 2147483648 ≤ z_b x2 → z_b x2 ≤ 2147484048 → K 9 [some (vR 36 0), some (vR ks 0), some (vI x2), none] [] M1 := by
    intro n
    induction n using Nat.strongRecOn with
    | ind n ih =>
    intro x2 hm hx1 hx2
    have tail : K 39 [some (vR 36 0), some (vR ks 0), some (vI x2), none] [] M1 := by
      refine hK _ _ _ _ (hK _ _ _ _ (hK _ _ _ _ (hK _ _ _ _ (hK _ _ _ _ (?_)))))
      refine hK _ _ _ _ (w_sln rfl hk ⟨b_6 (d := e) rfl, ?_⟩)
      refine hK _ _ _ _ ⟨fun h5 => ?_, fun h5 => hK _ _ _ _ (hK _ _ _ _ ⟨Or.inl rfl, out0⟩)⟩
      have h6 := z_b_eq.mp h5
      rw [z_b_sub, z_b_ofNat (by omega)] at h6
      have lp2 : ∀ m i : Nat, bs.length - i = m → i ≤ bs.length → K 56 [some (vR 36 0), some (vR ks 0), some (vI x2), some (vI (Int32.ofNat i))] [] M1 := by
        intro m
        induction m with
        | zero =>
          intro i hi hil
          have e1 : i = bs.length := by omega
          subst e1
          refine hK _ _ _ _ (hK _ _ _ _ (?_))
          refine hK _ _ _ _ (w_sln rfl hk ⟨b_6 (d := e) rfl, ?_⟩)
          refine hK _ _ _ _ ⟨fun h1 => ?_, fun h1 => absurd (Int32.le_refl _) h1⟩
          have hM3 : z_M (zTb, [(36, 8, 8)], []) M [] (a_pI M1 36 0 8 x2) := h_Mp hM (v := (2147483648, 2147484048)) (by decide) ⟨hx1, hx2⟩
          refine hK _ _ _ _ (hK _ _ _ _ (hK _ _ _ _ (hK _ _ _ _ (hK _ _ _ _ ⟨Or.inr rfl, _, _, List.mem_cons_of_mem _ (List.mem_singleton.mpr rfl), ⟨Nat.le_of_eq z_l1.symm, Nat.le_of_eq z_l1⟩, hM3.1, hM3.2.1, fun e9 h9 k' i' j' q1 q2 q3 => ?_⟩))))
          have h9 := List.mem_singleton.mp h9
          subst h9
          obtain ⟨f1, f2, f3⟩ := z_ky_lt (k' := 36) (i' := 0) (j' := 8) q1 q2 (by decide) (by decide) q3
          subst f1
          subst f2
          subst f3
          rw [h_pIs]
          exact ⟨hx1, hx2⟩
        | succ m ihm =>
          intro i hi hil
          refine hK _ _ _ _ (hK _ _ _ _ (?_))
          refine hK _ _ _ _ (w_sln rfl hk ⟨b_6 (d := e) rfl, ?_⟩)
          refine hK _ _ _ _ ⟨fun h1 => ?_, fun h1 => ?_⟩
          · exfalso
            have := z_b_le.mp h1
            rw [z_b_ofNat (by omega), z_b_ofNat (by omega)] at this
            omega
          refine hK _ _ _ _ (hK _ _ _ _ (hK _ _ _ _ (hK _ _ _ _ (hK _ _ _ _ (hK _ _ _ _ (?_))))))
          refine hK _ _ _ _ ⟨z_vp.mpr ?_, ?_⟩
          · rw [z_b_add, z_b_ofNat (by omega)]
            omega
          refine hK _ _ _ _ (hK _ _ _ _ (?_))
          refine hK _ _ _ _ (w_sch rfl hk ⟨b_6 (d := e) rfl, z_vp.mpr ⟨?_, ?_⟩, ?_⟩)
          · rw [z_b_ofNat (by omega)]
            omega
          · rw [z_b_ofNat (by omega)]
            omega
          refine hK _ _ _ _ ⟨fun h1 => ?_, fun h1 => hK _ _ _ _ (hK _ _ _ _ ⟨Or.inl rfl, out0⟩)⟩
          refine hK _ _ _ _ (hK _ _ _ _ ?_)
          have h3 := ihm (i + 1) (by omega) (by omega)
          rw [← hI_s] at h3
          exact h3
      refine hK _ _ _ _ (hK _ _ _ _ ?_)
      exact lp2 _ 0 rfl (Nat.zero_le _)
    refine hK _ _ _ _ (hK _ _ _ _ (hK _ _ _ _ (?_)))
    refine hK _ _ _ _ ⟨fun h => tail, fun h1 => ?_⟩
    have h2 : z_b x2 < z_b (M1.1 36 0 7) := z_b_ltt.mp (Int32.not_le.mp h1)
    refine hK _ _ _ _ (hK _ _ _ _ (hK _ _ _ _ (?_)))
    refine hK _ _ _ _ ⟨z_vp.mpr ⟨hx1, by omega⟩, ?_⟩
    refine hK _ _ _ _ (hK _ _ _ _ (?_))
    refine hK _ _ _ _ ⟨_, h_pI hct_isInx rfl rfl rfl (show (1 : Nat) ≤ e + 7 by omega) (h_I (h_I (h_I trivial))) hM.1, rfl, fun v M2 g => ?_⟩
    obtain ⟨⟨y, rfl, -⟩, rfl⟩ := g
    refine hK _ _ _ _ ⟨fun h => tail, fun h => ?_⟩
    refine hK _ _ _ _ (hK _ _ _ _ ?_)
    have e2 : z_b (x2 + 1) = z_b x2 + 1 := by
      rw [z_b_add, z_l1]
      omega
    exact ih _ (v_up hm h1) _ rfl (by omega) (by omega)
  refine hK _ _ _ _ (hK _ _ _ _ (hK _ _ _ _ (?_)))
  exact lp _ _ rfl ha1 ha2
theorem hct_has_112 : z_ctH zTb ct_has_112 := by
  intro nS d as M hd hS hT hG
  obtain ⟨e, rfl⟩ := h_rk hd
  obtain ⟨i1, s1, rfl, h1, hS⟩ := z_S_R hS
  obtain ⟨i2, s2, rfl, h2, hS⟩ := z_S_R hS
  have h3 := z_S_N hS
  subst h3
  have h1 := h1.resolve_left (by decide)
  have h2 := h2.resolve_left (by decide)
  subst h1
  subst h2
  exact h_has (e := e) rfl (by decide) hT
def ct_has_113 : zCt := (205, [.inr (.inr (36, 0)), .inr (.inr (113, 0))], [], [(36, 8, 8)], [.inl (some (.inl (2147483648, 2147483648)), [(589832, (2147483648, 2147484048))]), .inl (some (.inl (2147483649, 2147483649)), [(589832, (2147483648, 2147484048))])], 8)
theorem hct_has_113 : z_ctH zTb ct_has_113 := by
  intro nS d as M hd hS hT hG
  obtain ⟨e, rfl⟩ := h_rk hd
  obtain ⟨i1, s1, rfl, h1, hS⟩ := z_S_R hS
  obtain ⟨i2, s2, rfl, h2, hS⟩ := z_S_R hS
  have h3 := z_S_N hS
  subst h3
  have h1 := h1.resolve_left (by decide)
  have h2 := h2.resolve_left (by decide)
  subst h1
  subst h2
  exact h_has (e := e) rfl (by decide) hT
def ct_has_114 : zCt := (205, [.inr (.inr (36, 0)), .inr (.inr (114, 0))], [], [(36, 8, 8)], [.inl (some (.inl (2147483648, 2147483648)), [(589832, (2147483648, 2147484048))]), .inl (some (.inl (2147483649, 2147483649)), [(589832, (2147483648, 2147484048))])], 8)
theorem hct_has_114 : z_ctH zTb ct_has_114 := by
  intro nS d as M hd hS hT hG
  obtain ⟨e, rfl⟩ := h_rk hd
  obtain ⟨i1, s1, rfl, h1, hS⟩ := z_S_R hS
  obtain ⟨i2, s2, rfl, h2, hS⟩ := z_S_R hS
  have h3 := z_S_N hS
  subst h3
  have h1 := h1.resolve_left (by decide)
  have h2 := h2.resolve_left (by decide)
  subst h1
  subst h2
  exact h_has (e := e) rfl (by decide) hT
def ct_has_115 : zCt := (205, [.inr (.inr (36, 0)), .inr (.inr (115, 0))], [], [(36, 8, 8)], [.inl (some (.inl (2147483648, 2147483648)), [(589832, (2147483648, 2147484048))]), .inl (some (.inl (2147483649, 2147483649)), [(589832, (2147483648, 2147484048))])], 8)
theorem hct_has_115 : z_ctH zTb ct_has_115 := by
  intro nS d as M hd hS hT hG
  obtain ⟨e, rfl⟩ := h_rk hd
  obtain ⟨i1, s1, rfl, h1, hS⟩ := z_S_R hS
  obtain ⟨i2, s2, rfl, h2, hS⟩ := z_S_R hS
  have h3 := z_S_N hS
  subst h3
  have h1 := h1.resolve_left (by decide)
  have h2 := h2.resolve_left (by decide)
  subst h1
  subst h2
  exact h_has (e := e) rfl (by decide) hT
def ct_has_116 : zCt := (205, [.inr (.inr (36, 0)), .inr (.inr (116, 0))], [], [(36, 8, 8)], [.inl (some (.inl (2147483648, 2147483648)), [(589832, (2147483648, 2147484048))]), .inl (some (.inl (2147483649, 2147483649)), [(589832, (2147483648, 2147484048))])], 8)
theorem hct_has_116 : z_ctH zTb ct_has_116 := by
  intro nS d as M hd hS hT hG
  obtain ⟨e, rfl⟩ := h_rk hd
  obtain ⟨i1, s1, rfl, h1, hS⟩ := z_S_R hS
  obtain ⟨i2, s2, rfl, h2, hS⟩ := z_S_R hS
  have h3 := z_S_N hS
  subst h3
  have h1 := h1.resolve_left (by decide)
  have h2 := h2.resolve_left (by decide)
  subst h1
  subst h2
  exact h_has (e := e) rfl (by decide) hT
def ct_has_117 : zCt := (205, [.inr (.inr (36, 0)), .inr (.inr (117, 0))], [], [(36, 8, 8)], [.inl (some (.inl (2147483648, 2147483648)), [(589832, (2147483648, 2147484048))]), .inl (some (.inl (2147483649, 2147483649)), [(589832, (2147483648, 2147484048))])], 8)
theorem hct_has_117 : z_ctH zTb ct_has_117 := by
  intro nS d as M hd hS hT hG
  obtain ⟨e, rfl⟩ := h_rk hd
  obtain ⟨i1, s1, rfl, h1, hS⟩ := z_S_R hS
  obtain ⟨i2, s2, rfl, h2, hS⟩ := z_S_R hS
  have h3 := z_S_N hS
  subst h3
  have h1 := h1.resolve_left (by decide)
  have h2 := h2.resolve_left (by decide)
  subst h1
  subst h2
  exact h_has (e := e) rfl (by decide) hT
def ct_has_118 : zCt := (205, [.inr (.inr (36, 0)), .inr (.inr (118, 0))], [], [(36, 8, 8)], [.inl (some (.inl (2147483648, 2147483648)), [(589832, (2147483648, 2147484048))]), .inl (some (.inl (2147483649, 2147483649)), [(589832, (2147483648, 2147484048))])], 8)
theorem hct_has_118 : z_ctH zTb ct_has_118 := by
  intro nS d as M hd hS hT hG
  obtain ⟨e, rfl⟩ := h_rk hd
  obtain ⟨i1, s1, rfl, h1, hS⟩ := z_S_R hS
  obtain ⟨i2, s2, rfl, h2, hS⟩ := z_S_R hS
  have h3 := z_S_N hS
  subst h3
  have h1 := h1.resolve_left (by decide)
  have h2 := h2.resolve_left (by decide)
  subst h1
  subst h2
  exact h_has (e := e) rfl (by decide) hT
def ct_has_119 : zCt := (205, [.inr (.inr (36, 0)), .inr (.inr (119, 0))], [], [(36, 8, 8)], [.inl (some (.inl (2147483648, 2147483648)), [(589832, (2147483648, 2147484048))]), .inl (some (.inl (2147483649, 2147483649)), [(589832, (2147483648, 2147484048))])], 8)
theorem hct_has_119 : z_ctH zTb ct_has_119 := by
  intro nS d as M hd hS hT hG
  obtain ⟨e, rfl⟩ := h_rk hd
  obtain ⟨i1, s1, rfl, h1, hS⟩ := z_S_R hS
  obtain ⟨i2, s2, rfl, h2, hS⟩ := z_S_R hS
  have h3 := z_S_N hS
  subst h3
  have h1 := h1.resolve_left (by decide)
  have h2 := h2.resolve_left (by decide)
  subst h1
  subst h2
  exact h_has (e := e) rfl (by decide) hT
def ct_has_120 : zCt := (205, [.inr (.inr (36, 0)), .inr (.inr (120, 0))], [], [(36, 8, 8)], [.inl (some (.inl (2147483648, 2147483648)), [(589832, (2147483648, 2147484048))]), .inl (some (.inl (2147483649, 2147483649)), [(589832, (2147483648, 2147484048))])], 8)
theorem hct_has_120 : z_ctH zTb ct_has_120 := by
  intro nS d as M hd hS hT hG
  obtain ⟨e, rfl⟩ := h_rk hd
  obtain ⟨i1, s1, rfl, h1, hS⟩ := z_S_R hS
  obtain ⟨i2, s2, rfl, h2, hS⟩ := z_S_R hS
  have h3 := z_S_N hS
  subst h3
  have h1 := h1.resolve_left (by decide)
  have h2 := h2.resolve_left (by decide)
  subst h1
  subst h2
  exact h_has (e := e) rfl (by decide) hT
def ct_has_121 : zCt := (205, [.inr (.inr (36, 0)), .inr (.inr (121, 0))], [], [(36, 8, 8)], [.inl (some (.inl (2147483648, 2147483648)), [(589832, (2147483648, 2147484048))]), .inl (some (.inl (2147483649, 2147483649)), [(589832, (2147483648, 2147484048))])], 8)
theorem hct_has_121 : z_ctH zTb ct_has_121 := by
  intro nS d as M hd hS hT hG
  obtain ⟨e, rfl⟩ := h_rk hd
  obtain ⟨i1, s1, rfl, h1, hS⟩ := z_S_R hS
  obtain ⟨i2, s2, rfl, h2, hS⟩ := z_S_R hS
  have h3 := z_S_N hS
  subst h3
  have h1 := h1.resolve_left (by decide)
  have h2 := h2.resolve_left (by decide)
  subst h1
  subst h2
  exact h_has (e := e) rfl (by decide) hT
def ct_figures_t2 : zCt := (207, [.inr (.inr (36, 0)), .inl (2147483648, 2147483648), .inl (2147483649, 2147483649)], [(589833, (2147483647, 2147483647))], [(36, 8, 8), (36, 9, 9), (36, 10, 10)], [.inl (some (.inl (0, 4294967295)), [(589834, (2147483648, 2147484048)), (589832, (2147483648, 2147484048)), (589833, (2147483648, 2147484048))]), .inl (some (.inl (2147483648, 2147483649)), [(589834, (2147483648, 2147484048)), (589832, (2147483648, 2147484048)), (589833, (2147483647, 2147483647))])], 3)
theorem hct_figures_t2 : z_ctH zTb ct_figures_t2 := hz_figures
def ct_figures_t3 : zCt := (207, [.inr (.inr (36, 0)), .inl (2147483648, 2147483648), .inl (2147483650, 2147483650)], [(589833, (2147483647, 2147483647))], [(36, 8, 8), (36, 9, 9), (36, 10, 10)], [.inl (some (.inl (0, 4294967295)), [(589834, (2147483648, 2147484048)), (589832, (2147483648, 2147484048)), (589833, (2147483648, 2147484048))]), .inl (some (.inl (2147483648, 2147483650)), [(589834, (2147483648, 2147484048)), (589832, (2147483648, 2147484048)), (589833, (2147483647, 2147483647))])], 3)
theorem hct_figures_t3 : z_ctH zTb ct_figures_t3 := hz_figures
def ct_figures_t4 : zCt := (207, [.inr (.inr (36, 0)), .inl (2147483648, 2147483648), .inl (2147483651, 2147483651)], [(589833, (2147483647, 2147483647))], [(36, 8, 8), (36, 9, 9), (36, 10, 10)], [.inl (some (.inl (0, 4294967295)), [(589834, (2147483648, 2147484048)), (589832, (2147483648, 2147484048)), (589833, (2147483648, 2147484048))]), .inl (some (.inl (2147483648, 2147483651)), [(589834, (2147483648, 2147484048)), (589832, (2147483648, 2147484048)), (589833, (2147483647, 2147483647))])], 3)
theorem hct_figures_t4 : z_ctH zTb ct_figures_t4 := hz_figures
def ct_figures_t5 : zCt := (207, [.inr (.inr (36, 0)), .inl (2147483648, 2147483648), .inl (2147483652, 2147483652)], [(589833, (2147483647, 2147483647))], [(36, 8, 8), (36, 9, 9), (36, 10, 10)], [.inl (some (.inl (0, 4294967295)), [(589834, (2147483648, 2147484048)), (589832, (2147483648, 2147484048)), (589833, (2147483648, 2147484048))]), .inl (some (.inl (2147483648, 2147483652)), [(589834, (2147483648, 2147484048)), (589832, (2147483648, 2147484048)), (589833, (2147483647, 2147483647))])], 3)
theorem hct_figures_t5 : z_ctH zTb ct_figures_t5 := hz_figures
def ct_figures_t6 : zCt := (207, [.inr (.inr (36, 0)), .inl (2147483648, 2147483648), .inl (2147483653, 2147483653)], [(589833, (2147483647, 2147483647))], [(36, 8, 8), (36, 9, 9), (36, 10, 10)], [.inl (some (.inl (0, 4294967295)), [(589834, (2147483648, 2147484048)), (589832, (2147483648, 2147484048)), (589833, (2147483648, 2147484048))]), .inl (some (.inl (2147483648, 2147483653)), [(589834, (2147483648, 2147484048)), (589832, (2147483648, 2147484048)), (589833, (2147483647, 2147483647))])], 3)
theorem hct_figures_t6 : z_ctH zTb ct_figures_t6 := hz_figures
def ct_figures_t7 : zCt := (207, [.inr (.inr (36, 0)), .inl (2147483648, 2147483648), .inl (2147483654, 2147483654)], [(589833, (2147483647, 2147483647))], [(36, 8, 8), (36, 9, 9), (36, 10, 10)], [.inl (some (.inl (0, 4294967295)), [(589834, (2147483648, 2147484048)), (589832, (2147483648, 2147484048)), (589833, (2147483648, 2147484048))]), .inl (some (.inl (2147483648, 2147483654)), [(589834, (2147483648, 2147484048)), (589832, (2147483648, 2147484048)), (589833, (2147483647, 2147483647))])], 3)
theorem hct_figures_t7 : z_ctH zTb ct_figures_t7 := hz_figures
def ct_figures_t8 : zCt := (207, [.inr (.inr (36, 0)), .inl (2147483648, 2147483648), .inl (2147483655, 2147483655)], [(589833, (2147483647, 2147483647))], [(36, 8, 8), (36, 9, 9), (36, 10, 10)], [.inl (some (.inl (0, 4294967295)), [(589834, (2147483648, 2147484048)), (589832, (2147483648, 2147484048)), (589833, (2147483648, 2147484048))]), .inl (some (.inl (2147483648, 2147483655)), [(589834, (2147483648, 2147484048)), (589832, (2147483648, 2147484048)), (589833, (2147483647, 2147483647))])], 3)
theorem hct_figures_t8 : z_ctH zTb ct_figures_t8 := hz_figures
def ct_lineTold : zCt := (209, [.inr (.inr (36, 0)), .inl (2147483648, 2147483649)], [(589833, (2147483647, 2147483647))], [(36, 8, 8), (36, 9, 9), (36, 10, 10), (37, 18, 43)], [.inl (none, [(589834, (2147483648, 2147484048)), (589832, (2147483648, 2147484048)), (589833, (2147483647, 2147483647))]), .inl (none, [(589833, (2147483648, 2147484048))])], 4)
theorem hct_lineTold : z_ctH zTb ct_lineTold := sorry
def ct_isSquare : zCt := (193, [.inr (.inr (36, 0)), .inl (0, 4294967295), .inl (0, 4294967295)], [], [], [.inl (some (.inl (2147483648, 2147483649)), [])], 2)
theorem hct_isSquare : z_ctH zTb ct_isSquare := sorry
def ct_boardLine_0_2 : zCt := (210, [.inr (.inr (36, 0))], [(589833, (2147483647, 2147483647)), (606209, (2147483648, 2147483648)), (606210, (2147483650, 2147483650))], [(36, 8, 8), (36, 9, 9), (36, 10, 10), (37, 1, 6), (37, 10, 17), (37, 18, 43)], [.inl (none, [(606210, (2147483656, 2147483656)), (606209, (2147483651, 2147483651)), (589834, (2147483648, 2147484048)), (589832, (2147483648, 2147484048)), (589833, (2147483647, 2147483647))]), .inl (none, [(606209, (2147483648, 2147483648)), (606210, (2147483650, 2147483650)), (589833, (2147483648, 2147484048))]), .inl (none, [(606210, (2147483652, 2147483652)), (606209, (2147483651, 2147483651)), (589834, (2147483648, 2147484048)), (589832, (2147483648, 2147484048)), (589833, (2147483647, 2147483647))]), .inl (none, [(606210, (2147483650, 2147483650)), (606209, (2147483651, 2147483651)), (589834, (2147483648, 2147484048)), (589832, (2147483648, 2147484048)), (589833, (2147483647, 2147483647))]), .inl (none, [(606210, (2147483656, 2147483656)), (606209, (2147483650, 2147483650)), (589834, (2147483648, 2147484048)), (589832, (2147483648, 2147484048)), (589833, (2147483647, 2147483647))]), .inl (none, [(606210, (2147483656, 2147483656)), (606209, (2147483649, 2147483649)), (589834, (2147483648, 2147484048)), (589832, (2147483648, 2147484048)), (589833, (2147483647, 2147483647))]), .inl (none, [(606210, (2147483654, 2147483654)), (606209, (2147483649, 2147483649)), (589834, (2147483648, 2147484048)), (589832, (2147483648, 2147484048)), (589833, (2147483647, 2147483647))]), .inl (none, [(606210, (2147483652, 2147483652)), (606209, (2147483649, 2147483649)), (589834, (2147483648, 2147484048)), (589832, (2147483648, 2147484048)), (589833, (2147483647, 2147483647))]), .inl (none, [(606210, (2147483656, 2147483656)), (606209, (2147483648, 2147483648)), (589834, (2147483648, 2147484048)), (589832, (2147483648, 2147484048)), (589833, (2147483647, 2147483647))]), .inl (none, [(606210, (2147483655, 2147483655)), (606209, (2147483648, 2147483648)), (589834, (2147483648, 2147484048)), (589832, (2147483648, 2147484048)), (589833, (2147483647, 2147483647))]), .inl (none, [(606210, (2147483654, 2147483654)), (606209, (2147483648, 2147483648)), (589834, (2147483648, 2147484048)), (589832, (2147483648, 2147484048)), (589833, (2147483647, 2147483647))]), .inl (none, [(606210, (2147483653, 2147483653)), (606209, (2147483648, 2147483648)), (589834, (2147483648, 2147484048)), (589832, (2147483648, 2147484048)), (589833, (2147483647, 2147483647))]), .inl (none, [(606210, (2147483652, 2147483652)), (606209, (2147483648, 2147483648)), (589834, (2147483648, 2147484048)), (589832, (2147483648, 2147484048)), (589833, (2147483647, 2147483647))]), .inl (none, [(606210, (2147483651, 2147483651)), (606209, (2147483648, 2147483648)), (589834, (2147483648, 2147484048)), (589832, (2147483648, 2147484048)), (589833, (2147483647, 2147483647))]), .inl (none, [(606209, (2147483648, 2147483648)), (606210, (2147483650, 2147483650)), (589834, (2147483648, 2147484048)), (589832, (2147483648, 2147484048)), (589833, (2147483647, 2147483647))])], 10)
theorem hct_boardLine_0_2 : z_ctH zTb ct_boardLine_0_2 := sorry
def ct_boardLine_0_3 : zCt := (210, [.inr (.inr (36, 0))], [(589833, (2147483647, 2147483647)), (606209, (2147483648, 2147483648)), (606210, (2147483651, 2147483651))], [(36, 8, 8), (36, 9, 9), (36, 10, 10), (37, 1, 6), (37, 10, 17), (37, 18, 43)], [.inl (none, [(606210, (2147483656, 2147483656)), (606209, (2147483651, 2147483651)), (589834, (2147483648, 2147484048)), (589832, (2147483648, 2147484048)), (589833, (2147483647, 2147483647))]), .inl (none, [(606209, (2147483648, 2147483648)), (606210, (2147483651, 2147483651)), (589833, (2147483648, 2147484048))]), .inl (none, [(606210, (2147483652, 2147483652)), (606209, (2147483651, 2147483651)), (589834, (2147483648, 2147484048)), (589832, (2147483648, 2147484048)), (589833, (2147483647, 2147483647))]), .inl (none, [(606210, (2147483650, 2147483650)), (606209, (2147483651, 2147483651)), (589834, (2147483648, 2147484048)), (589832, (2147483648, 2147484048)), (589833, (2147483647, 2147483647))]), .inl (none, [(606210, (2147483656, 2147483656)), (606209, (2147483650, 2147483650)), (589834, (2147483648, 2147484048)), (589832, (2147483648, 2147484048)), (589833, (2147483647, 2147483647))]), .inl (none, [(606210, (2147483656, 2147483656)), (606209, (2147483649, 2147483649)), (589834, (2147483648, 2147484048)), (589832, (2147483648, 2147484048)), (589833, (2147483647, 2147483647))]), .inl (none, [(606210, (2147483654, 2147483654)), (606209, (2147483649, 2147483649)), (589834, (2147483648, 2147484048)), (589832, (2147483648, 2147484048)), (589833, (2147483647, 2147483647))]), .inl (none, [(606210, (2147483652, 2147483652)), (606209, (2147483649, 2147483649)), (589834, (2147483648, 2147484048)), (589832, (2147483648, 2147484048)), (589833, (2147483647, 2147483647))]), .inl (none, [(606210, (2147483656, 2147483656)), (606209, (2147483648, 2147483648)), (589834, (2147483648, 2147484048)), (589832, (2147483648, 2147484048)), (589833, (2147483647, 2147483647))]), .inl (none, [(606210, (2147483655, 2147483655)), (606209, (2147483648, 2147483648)), (589834, (2147483648, 2147484048)), (589832, (2147483648, 2147484048)), (589833, (2147483647, 2147483647))]), .inl (none, [(606210, (2147483654, 2147483654)), (606209, (2147483648, 2147483648)), (589834, (2147483648, 2147484048)), (589832, (2147483648, 2147484048)), (589833, (2147483647, 2147483647))]), .inl (none, [(606210, (2147483653, 2147483653)), (606209, (2147483648, 2147483648)), (589834, (2147483648, 2147484048)), (589832, (2147483648, 2147484048)), (589833, (2147483647, 2147483647))]), .inl (none, [(606210, (2147483652, 2147483652)), (606209, (2147483648, 2147483648)), (589834, (2147483648, 2147484048)), (589832, (2147483648, 2147484048)), (589833, (2147483647, 2147483647))]), .inl (none, [(606209, (2147483648, 2147483648)), (606210, (2147483651, 2147483651)), (589834, (2147483648, 2147484048)), (589832, (2147483648, 2147484048)), (589833, (2147483647, 2147483647))]), .inl (none, [(606210, (2147483650, 2147483650)), (606209, (2147483648, 2147483648)), (589834, (2147483648, 2147484048)), (589832, (2147483648, 2147484048)), (589833, (2147483647, 2147483647))])], 10)
theorem hct_boardLine_0_3 : z_ctH zTb ct_boardLine_0_3 := sorry
def ct_boardLine_0_4 : zCt := (210, [.inr (.inr (36, 0))], [(589833, (2147483647, 2147483647)), (606209, (2147483648, 2147483648)), (606210, (2147483652, 2147483652))], [(36, 8, 8), (36, 9, 9), (36, 10, 10), (37, 1, 6), (37, 10, 17), (37, 18, 43)], [.inl (none, [(606210, (2147483656, 2147483656)), (606209, (2147483651, 2147483651)), (589834, (2147483648, 2147484048)), (589832, (2147483648, 2147484048)), (589833, (2147483647, 2147483647))]), .inl (none, [(606209, (2147483648, 2147483648)), (606210, (2147483652, 2147483652)), (589833, (2147483648, 2147484048))]), .inl (none, [(606210, (2147483652, 2147483652)), (606209, (2147483651, 2147483651)), (589834, (2147483648, 2147484048)), (589832, (2147483648, 2147484048)), (589833, (2147483647, 2147483647))]), .inl (none, [(606210, (2147483650, 2147483650)), (606209, (2147483651, 2147483651)), (589834, (2147483648, 2147484048)), (589832, (2147483648, 2147484048)), (589833, (2147483647, 2147483647))]), .inl (none, [(606210, (2147483656, 2147483656)), (606209, (2147483650, 2147483650)), (589834, (2147483648, 2147484048)), (589832, (2147483648, 2147484048)), (589833, (2147483647, 2147483647))]), .inl (none, [(606210, (2147483656, 2147483656)), (606209, (2147483649, 2147483649)), (589834, (2147483648, 2147484048)), (589832, (2147483648, 2147484048)), (589833, (2147483647, 2147483647))]), .inl (none, [(606210, (2147483654, 2147483654)), (606209, (2147483649, 2147483649)), (589834, (2147483648, 2147484048)), (589832, (2147483648, 2147484048)), (589833, (2147483647, 2147483647))]), .inl (none, [(606210, (2147483652, 2147483652)), (606209, (2147483649, 2147483649)), (589834, (2147483648, 2147484048)), (589832, (2147483648, 2147484048)), (589833, (2147483647, 2147483647))]), .inl (none, [(606210, (2147483656, 2147483656)), (606209, (2147483648, 2147483648)), (589834, (2147483648, 2147484048)), (589832, (2147483648, 2147484048)), (589833, (2147483647, 2147483647))]), .inl (none, [(606210, (2147483655, 2147483655)), (606209, (2147483648, 2147483648)), (589834, (2147483648, 2147484048)), (589832, (2147483648, 2147484048)), (589833, (2147483647, 2147483647))]), .inl (none, [(606210, (2147483654, 2147483654)), (606209, (2147483648, 2147483648)), (589834, (2147483648, 2147484048)), (589832, (2147483648, 2147484048)), (589833, (2147483647, 2147483647))]), .inl (none, [(606210, (2147483653, 2147483653)), (606209, (2147483648, 2147483648)), (589834, (2147483648, 2147484048)), (589832, (2147483648, 2147484048)), (589833, (2147483647, 2147483647))]), .inl (none, [(606209, (2147483648, 2147483648)), (606210, (2147483652, 2147483652)), (589834, (2147483648, 2147484048)), (589832, (2147483648, 2147484048)), (589833, (2147483647, 2147483647))]), .inl (none, [(606210, (2147483651, 2147483651)), (606209, (2147483648, 2147483648)), (589834, (2147483648, 2147484048)), (589832, (2147483648, 2147484048)), (589833, (2147483647, 2147483647))]), .inl (none, [(606210, (2147483650, 2147483650)), (606209, (2147483648, 2147483648)), (589834, (2147483648, 2147484048)), (589832, (2147483648, 2147484048)), (589833, (2147483647, 2147483647))])], 10)
theorem hct_boardLine_0_4 : z_ctH zTb ct_boardLine_0_4 := sorry
def ct_boardLine_0_5 : zCt := (210, [.inr (.inr (36, 0))], [(589833, (2147483647, 2147483647)), (606209, (2147483648, 2147483648)), (606210, (2147483653, 2147483653))], [(36, 8, 8), (36, 9, 9), (36, 10, 10), (37, 1, 6), (37, 10, 17), (37, 18, 43)], [.inl (none, [(606210, (2147483656, 2147483656)), (606209, (2147483651, 2147483651)), (589834, (2147483648, 2147484048)), (589832, (2147483648, 2147484048)), (589833, (2147483647, 2147483647))]), .inl (none, [(606209, (2147483648, 2147483648)), (606210, (2147483653, 2147483653)), (589833, (2147483648, 2147484048))]), .inl (none, [(606210, (2147483652, 2147483652)), (606209, (2147483651, 2147483651)), (589834, (2147483648, 2147484048)), (589832, (2147483648, 2147484048)), (589833, (2147483647, 2147483647))]), .inl (none, [(606210, (2147483650, 2147483650)), (606209, (2147483651, 2147483651)), (589834, (2147483648, 2147484048)), (589832, (2147483648, 2147484048)), (589833, (2147483647, 2147483647))]), .inl (none, [(606210, (2147483656, 2147483656)), (606209, (2147483650, 2147483650)), (589834, (2147483648, 2147484048)), (589832, (2147483648, 2147484048)), (589833, (2147483647, 2147483647))]), .inl (none, [(606210, (2147483656, 2147483656)), (606209, (2147483649, 2147483649)), (589834, (2147483648, 2147484048)), (589832, (2147483648, 2147484048)), (589833, (2147483647, 2147483647))]), .inl (none, [(606210, (2147483654, 2147483654)), (606209, (2147483649, 2147483649)), (589834, (2147483648, 2147484048)), (589832, (2147483648, 2147484048)), (589833, (2147483647, 2147483647))]), .inl (none, [(606210, (2147483652, 2147483652)), (606209, (2147483649, 2147483649)), (589834, (2147483648, 2147484048)), (589832, (2147483648, 2147484048)), (589833, (2147483647, 2147483647))]), .inl (none, [(606210, (2147483656, 2147483656)), (606209, (2147483648, 2147483648)), (589834, (2147483648, 2147484048)), (589832, (2147483648, 2147484048)), (589833, (2147483647, 2147483647))]), .inl (none, [(606210, (2147483655, 2147483655)), (606209, (2147483648, 2147483648)), (589834, (2147483648, 2147484048)), (589832, (2147483648, 2147484048)), (589833, (2147483647, 2147483647))]), .inl (none, [(606210, (2147483654, 2147483654)), (606209, (2147483648, 2147483648)), (589834, (2147483648, 2147484048)), (589832, (2147483648, 2147484048)), (589833, (2147483647, 2147483647))]), .inl (none, [(606209, (2147483648, 2147483648)), (606210, (2147483653, 2147483653)), (589834, (2147483648, 2147484048)), (589832, (2147483648, 2147484048)), (589833, (2147483647, 2147483647))]), .inl (none, [(606210, (2147483652, 2147483652)), (606209, (2147483648, 2147483648)), (589834, (2147483648, 2147484048)), (589832, (2147483648, 2147484048)), (589833, (2147483647, 2147483647))]), .inl (none, [(606210, (2147483651, 2147483651)), (606209, (2147483648, 2147483648)), (589834, (2147483648, 2147484048)), (589832, (2147483648, 2147484048)), (589833, (2147483647, 2147483647))]), .inl (none, [(606210, (2147483650, 2147483650)), (606209, (2147483648, 2147483648)), (589834, (2147483648, 2147484048)), (589832, (2147483648, 2147484048)), (589833, (2147483647, 2147483647))])], 10)
theorem hct_boardLine_0_5 : z_ctH zTb ct_boardLine_0_5 := sorry
def ct_boardLine_0_6 : zCt := (210, [.inr (.inr (36, 0))], [(589833, (2147483647, 2147483647)), (606209, (2147483648, 2147483648)), (606210, (2147483654, 2147483654))], [(36, 8, 8), (36, 9, 9), (36, 10, 10), (37, 1, 6), (37, 10, 17), (37, 18, 43)], [.inl (none, [(606210, (2147483656, 2147483656)), (606209, (2147483651, 2147483651)), (589834, (2147483648, 2147484048)), (589832, (2147483648, 2147484048)), (589833, (2147483647, 2147483647))]), .inl (none, [(606209, (2147483648, 2147483648)), (606210, (2147483654, 2147483654)), (589833, (2147483648, 2147484048))]), .inl (none, [(606210, (2147483652, 2147483652)), (606209, (2147483651, 2147483651)), (589834, (2147483648, 2147484048)), (589832, (2147483648, 2147484048)), (589833, (2147483647, 2147483647))]), .inl (none, [(606210, (2147483650, 2147483650)), (606209, (2147483651, 2147483651)), (589834, (2147483648, 2147484048)), (589832, (2147483648, 2147484048)), (589833, (2147483647, 2147483647))]), .inl (none, [(606210, (2147483656, 2147483656)), (606209, (2147483650, 2147483650)), (589834, (2147483648, 2147484048)), (589832, (2147483648, 2147484048)), (589833, (2147483647, 2147483647))]), .inl (none, [(606210, (2147483656, 2147483656)), (606209, (2147483649, 2147483649)), (589834, (2147483648, 2147484048)), (589832, (2147483648, 2147484048)), (589833, (2147483647, 2147483647))]), .inl (none, [(606210, (2147483654, 2147483654)), (606209, (2147483649, 2147483649)), (589834, (2147483648, 2147484048)), (589832, (2147483648, 2147484048)), (589833, (2147483647, 2147483647))]), .inl (none, [(606210, (2147483652, 2147483652)), (606209, (2147483649, 2147483649)), (589834, (2147483648, 2147484048)), (589832, (2147483648, 2147484048)), (589833, (2147483647, 2147483647))]), .inl (none, [(606210, (2147483656, 2147483656)), (606209, (2147483648, 2147483648)), (589834, (2147483648, 2147484048)), (589832, (2147483648, 2147484048)), (589833, (2147483647, 2147483647))]), .inl (none, [(606210, (2147483655, 2147483655)), (606209, (2147483648, 2147483648)), (589834, (2147483648, 2147484048)), (589832, (2147483648, 2147484048)), (589833, (2147483647, 2147483647))]), .inl (none, [(606209, (2147483648, 2147483648)), (606210, (2147483654, 2147483654)), (589834, (2147483648, 2147484048)), (589832, (2147483648, 2147484048)), (589833, (2147483647, 2147483647))]), .inl (none, [(606210, (2147483653, 2147483653)), (606209, (2147483648, 2147483648)), (589834, (2147483648, 2147484048)), (589832, (2147483648, 2147484048)), (589833, (2147483647, 2147483647))]), .inl (none, [(606210, (2147483652, 2147483652)), (606209, (2147483648, 2147483648)), (589834, (2147483648, 2147484048)), (589832, (2147483648, 2147484048)), (589833, (2147483647, 2147483647))]), .inl (none, [(606210, (2147483651, 2147483651)), (606209, (2147483648, 2147483648)), (589834, (2147483648, 2147484048)), (589832, (2147483648, 2147484048)), (589833, (2147483647, 2147483647))]), .inl (none, [(606210, (2147483650, 2147483650)), (606209, (2147483648, 2147483648)), (589834, (2147483648, 2147484048)), (589832, (2147483648, 2147484048)), (589833, (2147483647, 2147483647))])], 10)
theorem hct_boardLine_0_6 : z_ctH zTb ct_boardLine_0_6 := sorry
def ct_boardLine_0_7 : zCt := (210, [.inr (.inr (36, 0))], [(589833, (2147483647, 2147483647)), (606209, (2147483648, 2147483648)), (606210, (2147483655, 2147483655))], [(36, 8, 8), (36, 9, 9), (36, 10, 10), (37, 1, 6), (37, 10, 17), (37, 18, 43)], [.inl (none, [(606210, (2147483656, 2147483656)), (606209, (2147483651, 2147483651)), (589834, (2147483648, 2147484048)), (589832, (2147483648, 2147484048)), (589833, (2147483647, 2147483647))]), .inl (none, [(606209, (2147483648, 2147483648)), (606210, (2147483655, 2147483655)), (589833, (2147483648, 2147484048))]), .inl (none, [(606210, (2147483652, 2147483652)), (606209, (2147483651, 2147483651)), (589834, (2147483648, 2147484048)), (589832, (2147483648, 2147484048)), (589833, (2147483647, 2147483647))]), .inl (none, [(606210, (2147483650, 2147483650)), (606209, (2147483651, 2147483651)), (589834, (2147483648, 2147484048)), (589832, (2147483648, 2147484048)), (589833, (2147483647, 2147483647))]), .inl (none, [(606210, (2147483656, 2147483656)), (606209, (2147483650, 2147483650)), (589834, (2147483648, 2147484048)), (589832, (2147483648, 2147484048)), (589833, (2147483647, 2147483647))]), .inl (none, [(606210, (2147483656, 2147483656)), (606209, (2147483649, 2147483649)), (589834, (2147483648, 2147484048)), (589832, (2147483648, 2147484048)), (589833, (2147483647, 2147483647))]), .inl (none, [(606210, (2147483654, 2147483654)), (606209, (2147483649, 2147483649)), (589834, (2147483648, 2147484048)), (589832, (2147483648, 2147484048)), (589833, (2147483647, 2147483647))]), .inl (none, [(606210, (2147483652, 2147483652)), (606209, (2147483649, 2147483649)), (589834, (2147483648, 2147484048)), (589832, (2147483648, 2147484048)), (589833, (2147483647, 2147483647))]), .inl (none, [(606210, (2147483656, 2147483656)), (606209, (2147483648, 2147483648)), (589834, (2147483648, 2147484048)), (589832, (2147483648, 2147484048)), (589833, (2147483647, 2147483647))]), .inl (none, [(606209, (2147483648, 2147483648)), (606210, (2147483655, 2147483655)), (589834, (2147483648, 2147484048)), (589832, (2147483648, 2147484048)), (589833, (2147483647, 2147483647))]), .inl (none, [(606210, (2147483654, 2147483654)), (606209, (2147483648, 2147483648)), (589834, (2147483648, 2147484048)), (589832, (2147483648, 2147484048)), (589833, (2147483647, 2147483647))]), .inl (none, [(606210, (2147483653, 2147483653)), (606209, (2147483648, 2147483648)), (589834, (2147483648, 2147484048)), (589832, (2147483648, 2147484048)), (589833, (2147483647, 2147483647))]), .inl (none, [(606210, (2147483652, 2147483652)), (606209, (2147483648, 2147483648)), (589834, (2147483648, 2147484048)), (589832, (2147483648, 2147484048)), (589833, (2147483647, 2147483647))]), .inl (none, [(606210, (2147483651, 2147483651)), (606209, (2147483648, 2147483648)), (589834, (2147483648, 2147484048)), (589832, (2147483648, 2147484048)), (589833, (2147483647, 2147483647))]), .inl (none, [(606210, (2147483650, 2147483650)), (606209, (2147483648, 2147483648)), (589834, (2147483648, 2147484048)), (589832, (2147483648, 2147484048)), (589833, (2147483647, 2147483647))])], 10)
theorem hct_boardLine_0_7 : z_ctH zTb ct_boardLine_0_7 := sorry
def ct_boardLine_0_8 : zCt := (210, [.inr (.inr (36, 0))], [(589833, (2147483647, 2147483647)), (606209, (2147483648, 2147483648)), (606210, (2147483656, 2147483656))], [(36, 8, 8), (36, 9, 9), (36, 10, 10), (37, 1, 6), (37, 10, 17), (37, 18, 43)], [.inl (none, [(606210, (2147483656, 2147483656)), (606209, (2147483651, 2147483651)), (589834, (2147483648, 2147484048)), (589832, (2147483648, 2147484048)), (589833, (2147483647, 2147483647))]), .inl (none, [(606209, (2147483648, 2147483648)), (606210, (2147483656, 2147483656)), (589833, (2147483648, 2147484048))]), .inl (none, [(606210, (2147483652, 2147483652)), (606209, (2147483651, 2147483651)), (589834, (2147483648, 2147484048)), (589832, (2147483648, 2147484048)), (589833, (2147483647, 2147483647))]), .inl (none, [(606210, (2147483650, 2147483650)), (606209, (2147483651, 2147483651)), (589834, (2147483648, 2147484048)), (589832, (2147483648, 2147484048)), (589833, (2147483647, 2147483647))]), .inl (none, [(606210, (2147483656, 2147483656)), (606209, (2147483650, 2147483650)), (589834, (2147483648, 2147484048)), (589832, (2147483648, 2147484048)), (589833, (2147483647, 2147483647))]), .inl (none, [(606210, (2147483656, 2147483656)), (606209, (2147483649, 2147483649)), (589834, (2147483648, 2147484048)), (589832, (2147483648, 2147484048)), (589833, (2147483647, 2147483647))]), .inl (none, [(606210, (2147483654, 2147483654)), (606209, (2147483649, 2147483649)), (589834, (2147483648, 2147484048)), (589832, (2147483648, 2147484048)), (589833, (2147483647, 2147483647))]), .inl (none, [(606210, (2147483652, 2147483652)), (606209, (2147483649, 2147483649)), (589834, (2147483648, 2147484048)), (589832, (2147483648, 2147484048)), (589833, (2147483647, 2147483647))]), .inl (none, [(606209, (2147483648, 2147483648)), (606210, (2147483656, 2147483656)), (589834, (2147483648, 2147484048)), (589832, (2147483648, 2147484048)), (589833, (2147483647, 2147483647))]), .inl (none, [(606210, (2147483655, 2147483655)), (606209, (2147483648, 2147483648)), (589834, (2147483648, 2147484048)), (589832, (2147483648, 2147484048)), (589833, (2147483647, 2147483647))]), .inl (none, [(606210, (2147483654, 2147483654)), (606209, (2147483648, 2147483648)), (589834, (2147483648, 2147484048)), (589832, (2147483648, 2147484048)), (589833, (2147483647, 2147483647))]), .inl (none, [(606210, (2147483653, 2147483653)), (606209, (2147483648, 2147483648)), (589834, (2147483648, 2147484048)), (589832, (2147483648, 2147484048)), (589833, (2147483647, 2147483647))]), .inl (none, [(606210, (2147483652, 2147483652)), (606209, (2147483648, 2147483648)), (589834, (2147483648, 2147484048)), (589832, (2147483648, 2147484048)), (589833, (2147483647, 2147483647))]), .inl (none, [(606210, (2147483651, 2147483651)), (606209, (2147483648, 2147483648)), (589834, (2147483648, 2147484048)), (589832, (2147483648, 2147484048)), (589833, (2147483647, 2147483647))]), .inl (none, [(606210, (2147483650, 2147483650)), (606209, (2147483648, 2147483648)), (589834, (2147483648, 2147484048)), (589832, (2147483648, 2147484048)), (589833, (2147483647, 2147483647))])], 10)
theorem hct_boardLine_0_8 : z_ctH zTb ct_boardLine_0_8 := sorry
def ct_boardLine_1_4 : zCt := (210, [.inr (.inr (36, 0))], [(589833, (2147483647, 2147483647)), (606209, (2147483649, 2147483649)), (606210, (2147483652, 2147483652))], [(36, 8, 8), (36, 9, 9), (36, 10, 10), (37, 1, 6), (37, 10, 17), (37, 18, 43)], [.inl (none, [(606210, (2147483656, 2147483656)), (606209, (2147483651, 2147483651)), (589834, (2147483648, 2147484048)), (589832, (2147483648, 2147484048)), (589833, (2147483647, 2147483647))]), .inl (none, [(606209, (2147483649, 2147483649)), (606210, (2147483652, 2147483652)), (589833, (2147483648, 2147484048))]), .inl (none, [(606210, (2147483652, 2147483652)), (606209, (2147483651, 2147483651)), (589834, (2147483648, 2147484048)), (589832, (2147483648, 2147484048)), (589833, (2147483647, 2147483647))]), .inl (none, [(606210, (2147483650, 2147483650)), (606209, (2147483651, 2147483651)), (589834, (2147483648, 2147484048)), (589832, (2147483648, 2147484048)), (589833, (2147483647, 2147483647))]), .inl (none, [(606210, (2147483656, 2147483656)), (606209, (2147483650, 2147483650)), (589834, (2147483648, 2147484048)), (589832, (2147483648, 2147484048)), (589833, (2147483647, 2147483647))]), .inl (none, [(606210, (2147483656, 2147483656)), (606209, (2147483649, 2147483649)), (589834, (2147483648, 2147484048)), (589832, (2147483648, 2147484048)), (589833, (2147483647, 2147483647))]), .inl (none, [(606210, (2147483654, 2147483654)), (606209, (2147483649, 2147483649)), (589834, (2147483648, 2147484048)), (589832, (2147483648, 2147484048)), (589833, (2147483647, 2147483647))]), .inl (none, [(606209, (2147483649, 2147483649)), (606210, (2147483652, 2147483652)), (589834, (2147483648, 2147484048)), (589832, (2147483648, 2147484048)), (589833, (2147483647, 2147483647))]), .inl (none, [(606210, (2147483656, 2147483656)), (606209, (2147483648, 2147483648)), (589834, (2147483648, 2147484048)), (589832, (2147483648, 2147484048)), (589833, (2147483647, 2147483647))]), .inl (none, [(606210, (2147483655, 2147483655)), (606209, (2147483648, 2147483648)), (589834, (2147483648, 2147484048)), (589832, (2147483648, 2147484048)), (589833, (2147483647, 2147483647))]), .inl (none, [(606210, (2147483654, 2147483654)), (606209, (2147483648, 2147483648)), (589834, (2147483648, 2147484048)), (589832, (2147483648, 2147484048)), (589833, (2147483647, 2147483647))]), .inl (none, [(606210, (2147483653, 2147483653)), (606209, (2147483648, 2147483648)), (589834, (2147483648, 2147484048)), (589832, (2147483648, 2147484048)), (589833, (2147483647, 2147483647))]), .inl (none, [(606210, (2147483652, 2147483652)), (606209, (2147483648, 2147483648)), (589834, (2147483648, 2147484048)), (589832, (2147483648, 2147484048)), (589833, (2147483647, 2147483647))]), .inl (none, [(606210, (2147483651, 2147483651)), (606209, (2147483648, 2147483648)), (589834, (2147483648, 2147484048)), (589832, (2147483648, 2147484048)), (589833, (2147483647, 2147483647))]), .inl (none, [(606210, (2147483650, 2147483650)), (606209, (2147483648, 2147483648)), (589834, (2147483648, 2147484048)), (589832, (2147483648, 2147484048)), (589833, (2147483647, 2147483647))])], 10)
theorem hct_boardLine_1_4 : z_ctH zTb ct_boardLine_1_4 := sorry
def ct_boardLine_1_6 : zCt := (210, [.inr (.inr (36, 0))], [(589833, (2147483647, 2147483647)), (606209, (2147483649, 2147483649)), (606210, (2147483654, 2147483654))], [(36, 8, 8), (36, 9, 9), (36, 10, 10), (37, 1, 6), (37, 10, 17), (37, 18, 43)], [.inl (none, [(606210, (2147483656, 2147483656)), (606209, (2147483651, 2147483651)), (589834, (2147483648, 2147484048)), (589832, (2147483648, 2147484048)), (589833, (2147483647, 2147483647))]), .inl (none, [(606209, (2147483649, 2147483649)), (606210, (2147483654, 2147483654)), (589833, (2147483648, 2147484048))]), .inl (none, [(606210, (2147483652, 2147483652)), (606209, (2147483651, 2147483651)), (589834, (2147483648, 2147484048)), (589832, (2147483648, 2147484048)), (589833, (2147483647, 2147483647))]), .inl (none, [(606210, (2147483650, 2147483650)), (606209, (2147483651, 2147483651)), (589834, (2147483648, 2147484048)), (589832, (2147483648, 2147484048)), (589833, (2147483647, 2147483647))]), .inl (none, [(606210, (2147483656, 2147483656)), (606209, (2147483650, 2147483650)), (589834, (2147483648, 2147484048)), (589832, (2147483648, 2147484048)), (589833, (2147483647, 2147483647))]), .inl (none, [(606210, (2147483656, 2147483656)), (606209, (2147483649, 2147483649)), (589834, (2147483648, 2147484048)), (589832, (2147483648, 2147484048)), (589833, (2147483647, 2147483647))]), .inl (none, [(606209, (2147483649, 2147483649)), (606210, (2147483654, 2147483654)), (589834, (2147483648, 2147484048)), (589832, (2147483648, 2147484048)), (589833, (2147483647, 2147483647))]), .inl (none, [(606210, (2147483652, 2147483652)), (606209, (2147483649, 2147483649)), (589834, (2147483648, 2147484048)), (589832, (2147483648, 2147484048)), (589833, (2147483647, 2147483647))]), .inl (none, [(606210, (2147483656, 2147483656)), (606209, (2147483648, 2147483648)), (589834, (2147483648, 2147484048)), (589832, (2147483648, 2147484048)), (589833, (2147483647, 2147483647))]), .inl (none, [(606210, (2147483655, 2147483655)), (606209, (2147483648, 2147483648)), (589834, (2147483648, 2147484048)), (589832, (2147483648, 2147484048)), (589833, (2147483647, 2147483647))]), .inl (none, [(606210, (2147483654, 2147483654)), (606209, (2147483648, 2147483648)), (589834, (2147483648, 2147484048)), (589832, (2147483648, 2147484048)), (589833, (2147483647, 2147483647))]), .inl (none, [(606210, (2147483653, 2147483653)), (606209, (2147483648, 2147483648)), (589834, (2147483648, 2147484048)), (589832, (2147483648, 2147484048)), (589833, (2147483647, 2147483647))]), .inl (none, [(606210, (2147483652, 2147483652)), (606209, (2147483648, 2147483648)), (589834, (2147483648, 2147484048)), (589832, (2147483648, 2147484048)), (589833, (2147483647, 2147483647))]), .inl (none, [(606210, (2147483651, 2147483651)), (606209, (2147483648, 2147483648)), (589834, (2147483648, 2147484048)), (589832, (2147483648, 2147484048)), (589833, (2147483647, 2147483647))]), .inl (none, [(606210, (2147483650, 2147483650)), (606209, (2147483648, 2147483648)), (589834, (2147483648, 2147484048)), (589832, (2147483648, 2147484048)), (589833, (2147483647, 2147483647))])], 10)
theorem hct_boardLine_1_6 : z_ctH zTb ct_boardLine_1_6 := sorry
def ct_boardLine_1_8 : zCt := (210, [.inr (.inr (36, 0))], [(589833, (2147483647, 2147483647)), (606209, (2147483649, 2147483649)), (606210, (2147483656, 2147483656))], [(36, 8, 8), (36, 9, 9), (36, 10, 10), (37, 1, 6), (37, 10, 17), (37, 18, 43)], [.inl (none, [(606210, (2147483656, 2147483656)), (606209, (2147483651, 2147483651)), (589834, (2147483648, 2147484048)), (589832, (2147483648, 2147484048)), (589833, (2147483647, 2147483647))]), .inl (none, [(606209, (2147483649, 2147483649)), (606210, (2147483656, 2147483656)), (589833, (2147483648, 2147484048))]), .inl (none, [(606210, (2147483652, 2147483652)), (606209, (2147483651, 2147483651)), (589834, (2147483648, 2147484048)), (589832, (2147483648, 2147484048)), (589833, (2147483647, 2147483647))]), .inl (none, [(606210, (2147483650, 2147483650)), (606209, (2147483651, 2147483651)), (589834, (2147483648, 2147484048)), (589832, (2147483648, 2147484048)), (589833, (2147483647, 2147483647))]), .inl (none, [(606210, (2147483656, 2147483656)), (606209, (2147483650, 2147483650)), (589834, (2147483648, 2147484048)), (589832, (2147483648, 2147484048)), (589833, (2147483647, 2147483647))]), .inl (none, [(606209, (2147483649, 2147483649)), (606210, (2147483656, 2147483656)), (589834, (2147483648, 2147484048)), (589832, (2147483648, 2147484048)), (589833, (2147483647, 2147483647))]), .inl (none, [(606210, (2147483654, 2147483654)), (606209, (2147483649, 2147483649)), (589834, (2147483648, 2147484048)), (589832, (2147483648, 2147484048)), (589833, (2147483647, 2147483647))]), .inl (none, [(606210, (2147483652, 2147483652)), (606209, (2147483649, 2147483649)), (589834, (2147483648, 2147484048)), (589832, (2147483648, 2147484048)), (589833, (2147483647, 2147483647))]), .inl (none, [(606210, (2147483656, 2147483656)), (606209, (2147483648, 2147483648)), (589834, (2147483648, 2147484048)), (589832, (2147483648, 2147484048)), (589833, (2147483647, 2147483647))]), .inl (none, [(606210, (2147483655, 2147483655)), (606209, (2147483648, 2147483648)), (589834, (2147483648, 2147484048)), (589832, (2147483648, 2147484048)), (589833, (2147483647, 2147483647))]), .inl (none, [(606210, (2147483654, 2147483654)), (606209, (2147483648, 2147483648)), (589834, (2147483648, 2147484048)), (589832, (2147483648, 2147484048)), (589833, (2147483647, 2147483647))]), .inl (none, [(606210, (2147483653, 2147483653)), (606209, (2147483648, 2147483648)), (589834, (2147483648, 2147484048)), (589832, (2147483648, 2147484048)), (589833, (2147483647, 2147483647))]), .inl (none, [(606210, (2147483652, 2147483652)), (606209, (2147483648, 2147483648)), (589834, (2147483648, 2147484048)), (589832, (2147483648, 2147484048)), (589833, (2147483647, 2147483647))]), .inl (none, [(606210, (2147483651, 2147483651)), (606209, (2147483648, 2147483648)), (589834, (2147483648, 2147484048)), (589832, (2147483648, 2147484048)), (589833, (2147483647, 2147483647))]), .inl (none, [(606210, (2147483650, 2147483650)), (606209, (2147483648, 2147483648)), (589834, (2147483648, 2147484048)), (589832, (2147483648, 2147484048)), (589833, (2147483647, 2147483647))])], 10)
theorem hct_boardLine_1_8 : z_ctH zTb ct_boardLine_1_8 := sorry
def ct_boardLine_2_8 : zCt := (210, [.inr (.inr (36, 0))], [(589833, (2147483647, 2147483647)), (606209, (2147483650, 2147483650)), (606210, (2147483656, 2147483656))], [(36, 8, 8), (36, 9, 9), (36, 10, 10), (37, 1, 6), (37, 10, 17), (37, 18, 43)], [.inl (none, [(606210, (2147483656, 2147483656)), (606209, (2147483651, 2147483651)), (589834, (2147483648, 2147484048)), (589832, (2147483648, 2147484048)), (589833, (2147483647, 2147483647))]), .inl (none, [(606209, (2147483650, 2147483650)), (606210, (2147483656, 2147483656)), (589833, (2147483648, 2147484048))]), .inl (none, [(606210, (2147483652, 2147483652)), (606209, (2147483651, 2147483651)), (589834, (2147483648, 2147484048)), (589832, (2147483648, 2147484048)), (589833, (2147483647, 2147483647))]), .inl (none, [(606210, (2147483650, 2147483650)), (606209, (2147483651, 2147483651)), (589834, (2147483648, 2147484048)), (589832, (2147483648, 2147484048)), (589833, (2147483647, 2147483647))]), .inl (none, [(606209, (2147483650, 2147483650)), (606210, (2147483656, 2147483656)), (589834, (2147483648, 2147484048)), (589832, (2147483648, 2147484048)), (589833, (2147483647, 2147483647))]), .inl (none, [(606210, (2147483656, 2147483656)), (606209, (2147483649, 2147483649)), (589834, (2147483648, 2147484048)), (589832, (2147483648, 2147484048)), (589833, (2147483647, 2147483647))]), .inl (none, [(606210, (2147483654, 2147483654)), (606209, (2147483649, 2147483649)), (589834, (2147483648, 2147484048)), (589832, (2147483648, 2147484048)), (589833, (2147483647, 2147483647))]), .inl (none, [(606210, (2147483652, 2147483652)), (606209, (2147483649, 2147483649)), (589834, (2147483648, 2147484048)), (589832, (2147483648, 2147484048)), (589833, (2147483647, 2147483647))]), .inl (none, [(606210, (2147483656, 2147483656)), (606209, (2147483648, 2147483648)), (589834, (2147483648, 2147484048)), (589832, (2147483648, 2147484048)), (589833, (2147483647, 2147483647))]), .inl (none, [(606210, (2147483655, 2147483655)), (606209, (2147483648, 2147483648)), (589834, (2147483648, 2147484048)), (589832, (2147483648, 2147484048)), (589833, (2147483647, 2147483647))]), .inl (none, [(606210, (2147483654, 2147483654)), (606209, (2147483648, 2147483648)), (589834, (2147483648, 2147484048)), (589832, (2147483648, 2147484048)), (589833, (2147483647, 2147483647))]), .inl (none, [(606210, (2147483653, 2147483653)), (606209, (2147483648, 2147483648)), (589834, (2147483648, 2147484048)), (589832, (2147483648, 2147484048)), (589833, (2147483647, 2147483647))]), .inl (none, [(606210, (2147483652, 2147483652)), (606209, (2147483648, 2147483648)), (589834, (2147483648, 2147484048)), (589832, (2147483648, 2147484048)), (589833, (2147483647, 2147483647))]), .inl (none, [(606210, (2147483651, 2147483651)), (606209, (2147483648, 2147483648)), (589834, (2147483648, 2147484048)), (589832, (2147483648, 2147484048)), (589833, (2147483647, 2147483647))]), .inl (none, [(606210, (2147483650, 2147483650)), (606209, (2147483648, 2147483648)), (589834, (2147483648, 2147484048)), (589832, (2147483648, 2147484048)), (589833, (2147483647, 2147483647))])], 10)
theorem hct_boardLine_2_8 : z_ctH zTb ct_boardLine_2_8 := sorry
def ct_boardLine_3_2 : zCt := (210, [.inr (.inr (36, 0))], [(589833, (2147483647, 2147483647)), (606209, (2147483651, 2147483651)), (606210, (2147483650, 2147483650))], [(36, 8, 8), (36, 9, 9), (36, 10, 10), (37, 1, 6), (37, 10, 17), (37, 18, 43)], [.inl (none, [(606210, (2147483656, 2147483656)), (606209, (2147483651, 2147483651)), (589834, (2147483648, 2147484048)), (589832, (2147483648, 2147484048)), (589833, (2147483647, 2147483647))]), .inl (none, [(606209, (2147483651, 2147483651)), (606210, (2147483650, 2147483650)), (589833, (2147483648, 2147484048))]), .inl (none, [(606210, (2147483652, 2147483652)), (606209, (2147483651, 2147483651)), (589834, (2147483648, 2147484048)), (589832, (2147483648, 2147484048)), (589833, (2147483647, 2147483647))]), .inl (none, [(606209, (2147483651, 2147483651)), (606210, (2147483650, 2147483650)), (589834, (2147483648, 2147484048)), (589832, (2147483648, 2147484048)), (589833, (2147483647, 2147483647))]), .inl (none, [(606210, (2147483656, 2147483656)), (606209, (2147483650, 2147483650)), (589834, (2147483648, 2147484048)), (589832, (2147483648, 2147484048)), (589833, (2147483647, 2147483647))]), .inl (none, [(606210, (2147483656, 2147483656)), (606209, (2147483649, 2147483649)), (589834, (2147483648, 2147484048)), (589832, (2147483648, 2147484048)), (589833, (2147483647, 2147483647))]), .inl (none, [(606210, (2147483654, 2147483654)), (606209, (2147483649, 2147483649)), (589834, (2147483648, 2147484048)), (589832, (2147483648, 2147484048)), (589833, (2147483647, 2147483647))]), .inl (none, [(606210, (2147483652, 2147483652)), (606209, (2147483649, 2147483649)), (589834, (2147483648, 2147484048)), (589832, (2147483648, 2147484048)), (589833, (2147483647, 2147483647))]), .inl (none, [(606210, (2147483656, 2147483656)), (606209, (2147483648, 2147483648)), (589834, (2147483648, 2147484048)), (589832, (2147483648, 2147484048)), (589833, (2147483647, 2147483647))]), .inl (none, [(606210, (2147483655, 2147483655)), (606209, (2147483648, 2147483648)), (589834, (2147483648, 2147484048)), (589832, (2147483648, 2147484048)), (589833, (2147483647, 2147483647))]), .inl (none, [(606210, (2147483654, 2147483654)), (606209, (2147483648, 2147483648)), (589834, (2147483648, 2147484048)), (589832, (2147483648, 2147484048)), (589833, (2147483647, 2147483647))]), .inl (none, [(606210, (2147483653, 2147483653)), (606209, (2147483648, 2147483648)), (589834, (2147483648, 2147484048)), (589832, (2147483648, 2147484048)), (589833, (2147483647, 2147483647))]), .inl (none, [(606210, (2147483652, 2147483652)), (606209, (2147483648, 2147483648)), (589834, (2147483648, 2147484048)), (589832, (2147483648, 2147484048)), (589833, (2147483647, 2147483647))]), .inl (none, [(606210, (2147483651, 2147483651)), (606209, (2147483648, 2147483648)), (589834, (2147483648, 2147484048)), (589832, (2147483648, 2147484048)), (589833, (2147483647, 2147483647))]), .inl (none, [(606210, (2147483650, 2147483650)), (606209, (2147483648, 2147483648)), (589834, (2147483648, 2147484048)), (589832, (2147483648, 2147484048)), (589833, (2147483647, 2147483647))])], 10)
theorem hct_boardLine_3_2 : z_ctH zTb ct_boardLine_3_2 := sorry
def ct_boardLine_3_4 : zCt := (210, [.inr (.inr (36, 0))], [(589833, (2147483647, 2147483647)), (606209, (2147483651, 2147483651)), (606210, (2147483652, 2147483652))], [(36, 8, 8), (36, 9, 9), (36, 10, 10), (37, 1, 6), (37, 10, 17), (37, 18, 43)], [.inl (none, [(606210, (2147483656, 2147483656)), (606209, (2147483651, 2147483651)), (589834, (2147483648, 2147484048)), (589832, (2147483648, 2147484048)), (589833, (2147483647, 2147483647))]), .inl (none, [(606209, (2147483651, 2147483651)), (606210, (2147483652, 2147483652)), (589833, (2147483648, 2147484048))]), .inl (none, [(606209, (2147483651, 2147483651)), (606210, (2147483652, 2147483652)), (589834, (2147483648, 2147484048)), (589832, (2147483648, 2147484048)), (589833, (2147483647, 2147483647))]), .inl (none, [(606210, (2147483650, 2147483650)), (606209, (2147483651, 2147483651)), (589834, (2147483648, 2147484048)), (589832, (2147483648, 2147484048)), (589833, (2147483647, 2147483647))]), .inl (none, [(606210, (2147483656, 2147483656)), (606209, (2147483650, 2147483650)), (589834, (2147483648, 2147484048)), (589832, (2147483648, 2147484048)), (589833, (2147483647, 2147483647))]), .inl (none, [(606210, (2147483656, 2147483656)), (606209, (2147483649, 2147483649)), (589834, (2147483648, 2147484048)), (589832, (2147483648, 2147484048)), (589833, (2147483647, 2147483647))]), .inl (none, [(606210, (2147483654, 2147483654)), (606209, (2147483649, 2147483649)), (589834, (2147483648, 2147484048)), (589832, (2147483648, 2147484048)), (589833, (2147483647, 2147483647))]), .inl (none, [(606210, (2147483652, 2147483652)), (606209, (2147483649, 2147483649)), (589834, (2147483648, 2147484048)), (589832, (2147483648, 2147484048)), (589833, (2147483647, 2147483647))]), .inl (none, [(606210, (2147483656, 2147483656)), (606209, (2147483648, 2147483648)), (589834, (2147483648, 2147484048)), (589832, (2147483648, 2147484048)), (589833, (2147483647, 2147483647))]), .inl (none, [(606210, (2147483655, 2147483655)), (606209, (2147483648, 2147483648)), (589834, (2147483648, 2147484048)), (589832, (2147483648, 2147484048)), (589833, (2147483647, 2147483647))]), .inl (none, [(606210, (2147483654, 2147483654)), (606209, (2147483648, 2147483648)), (589834, (2147483648, 2147484048)), (589832, (2147483648, 2147484048)), (589833, (2147483647, 2147483647))]), .inl (none, [(606210, (2147483653, 2147483653)), (606209, (2147483648, 2147483648)), (589834, (2147483648, 2147484048)), (589832, (2147483648, 2147484048)), (589833, (2147483647, 2147483647))]), .inl (none, [(606210, (2147483652, 2147483652)), (606209, (2147483648, 2147483648)), (589834, (2147483648, 2147484048)), (589832, (2147483648, 2147484048)), (589833, (2147483647, 2147483647))]), .inl (none, [(606210, (2147483651, 2147483651)), (606209, (2147483648, 2147483648)), (589834, (2147483648, 2147484048)), (589832, (2147483648, 2147484048)), (589833, (2147483647, 2147483647))]), .inl (none, [(606210, (2147483650, 2147483650)), (606209, (2147483648, 2147483648)), (589834, (2147483648, 2147484048)), (589832, (2147483648, 2147484048)), (589833, (2147483647, 2147483647))])], 10)
theorem hct_boardLine_3_4 : z_ctH zTb ct_boardLine_3_4 := sorry
def ct_boardLine_3_8 : zCt := (210, [.inr (.inr (36, 0))], [(589833, (2147483647, 2147483647)), (606209, (2147483651, 2147483651)), (606210, (2147483656, 2147483656))], [(36, 8, 8), (36, 9, 9), (36, 10, 10), (37, 1, 6), (37, 10, 17), (37, 18, 43)], [.inl (none, [(606209, (2147483651, 2147483651)), (606210, (2147483656, 2147483656)), (589834, (2147483648, 2147484048)), (589832, (2147483648, 2147484048)), (589833, (2147483647, 2147483647))]), .inl (none, [(606209, (2147483651, 2147483651)), (606210, (2147483656, 2147483656)), (589833, (2147483648, 2147484048))]), .inl (none, [(606210, (2147483652, 2147483652)), (606209, (2147483651, 2147483651)), (589834, (2147483648, 2147484048)), (589832, (2147483648, 2147484048)), (589833, (2147483647, 2147483647))]), .inl (none, [(606210, (2147483650, 2147483650)), (606209, (2147483651, 2147483651)), (589834, (2147483648, 2147484048)), (589832, (2147483648, 2147484048)), (589833, (2147483647, 2147483647))]), .inl (none, [(606210, (2147483656, 2147483656)), (606209, (2147483650, 2147483650)), (589834, (2147483648, 2147484048)), (589832, (2147483648, 2147484048)), (589833, (2147483647, 2147483647))]), .inl (none, [(606210, (2147483656, 2147483656)), (606209, (2147483649, 2147483649)), (589834, (2147483648, 2147484048)), (589832, (2147483648, 2147484048)), (589833, (2147483647, 2147483647))]), .inl (none, [(606210, (2147483654, 2147483654)), (606209, (2147483649, 2147483649)), (589834, (2147483648, 2147484048)), (589832, (2147483648, 2147484048)), (589833, (2147483647, 2147483647))]), .inl (none, [(606210, (2147483652, 2147483652)), (606209, (2147483649, 2147483649)), (589834, (2147483648, 2147484048)), (589832, (2147483648, 2147484048)), (589833, (2147483647, 2147483647))]), .inl (none, [(606210, (2147483656, 2147483656)), (606209, (2147483648, 2147483648)), (589834, (2147483648, 2147484048)), (589832, (2147483648, 2147484048)), (589833, (2147483647, 2147483647))]), .inl (none, [(606210, (2147483655, 2147483655)), (606209, (2147483648, 2147483648)), (589834, (2147483648, 2147484048)), (589832, (2147483648, 2147484048)), (589833, (2147483647, 2147483647))]), .inl (none, [(606210, (2147483654, 2147483654)), (606209, (2147483648, 2147483648)), (589834, (2147483648, 2147484048)), (589832, (2147483648, 2147484048)), (589833, (2147483647, 2147483647))]), .inl (none, [(606210, (2147483653, 2147483653)), (606209, (2147483648, 2147483648)), (589834, (2147483648, 2147484048)), (589832, (2147483648, 2147484048)), (589833, (2147483647, 2147483647))]), .inl (none, [(606210, (2147483652, 2147483652)), (606209, (2147483648, 2147483648)), (589834, (2147483648, 2147484048)), (589832, (2147483648, 2147484048)), (589833, (2147483647, 2147483647))]), .inl (none, [(606210, (2147483651, 2147483651)), (606209, (2147483648, 2147483648)), (589834, (2147483648, 2147484048)), (589832, (2147483648, 2147484048)), (589833, (2147483647, 2147483647))]), .inl (none, [(606210, (2147483650, 2147483650)), (606209, (2147483648, 2147483648)), (589834, (2147483648, 2147484048)), (589832, (2147483648, 2147484048)), (589833, (2147483647, 2147483647))])], 10)
theorem hct_boardLine_3_8 : z_ctH zTb ct_boardLine_3_8 := sorry
def ct_against_0_2_0 : zCt := (182, [.inr (.inr (36, 0)), .inl (2147483648, 2147483648)], [(606209, (2147483648, 2147483648)), (606210, (2147483650, 2147483650))], [], [.inl (some (.inl (2147483648, 2147483648)), [])], 2)
theorem hct_against_0_2_0 : z_ctH zTb ct_against_0_2_0 := sorry
def ct_against_0_2_1 : zCt := (182, [.inr (.inr (36, 0)), .inl (2147483649, 2147483649)], [(606209, (2147483648, 2147483648)), (606210, (2147483650, 2147483650))], [], [.inl (some (.inl (2147483649, 2147483649)), [])], 2)
theorem hct_against_0_2_1 : z_ctH zTb ct_against_0_2_1 := sorry
def ct_against_0_3_0 : zCt := (182, [.inr (.inr (36, 0)), .inl (2147483648, 2147483648)], [(606209, (2147483648, 2147483648)), (606210, (2147483651, 2147483651))], [], [.inl (some (.inl (2147483648, 2147483648)), [])], 2)
theorem hct_against_0_3_0 : z_ctH zTb ct_against_0_3_0 := sorry
def ct_against_0_3_1 : zCt := (182, [.inr (.inr (36, 0)), .inl (2147483649, 2147483649)], [(606209, (2147483648, 2147483648)), (606210, (2147483651, 2147483651))], [], [.inl (some (.inl (2147483650, 2147483650)), [])], 2)
theorem hct_against_0_3_1 : z_ctH zTb ct_against_0_3_1 := sorry
def ct_against_0_3_2 : zCt := (182, [.inr (.inr (36, 0)), .inl (2147483650, 2147483650)], [(606209, (2147483648, 2147483648)), (606210, (2147483651, 2147483651))], [], [.inl (some (.inl (2147483649, 2147483649)), [])], 2)
theorem hct_against_0_3_2 : z_ctH zTb ct_against_0_3_2 := sorry
def ct_against_0_4_0 : zCt := (182, [.inr (.inr (36, 0)), .inl (2147483648, 2147483648)], [(606209, (2147483648, 2147483648)), (606210, (2147483652, 2147483652))], [], [.inl (some (.inl (2147483648, 2147483648)), [])], 2)
theorem hct_against_0_4_0 : z_ctH zTb ct_against_0_4_0 := sorry
def ct_against_0_4_1 : zCt := (182, [.inr (.inr (36, 0)), .inl (2147483649, 2147483649)], [(606209, (2147483648, 2147483648)), (606210, (2147483652, 2147483652))], [], [.inl (some (.inl (2147483651, 2147483651)), [])], 2)
theorem hct_against_0_4_1 : z_ctH zTb ct_against_0_4_1 := sorry
def ct_against_0_4_2 : zCt := (182, [.inr (.inr (36, 0)), .inl (2147483650, 2147483650)], [(606209, (2147483648, 2147483648)), (606210, (2147483652, 2147483652))], [], [.inl (some (.inl (2147483650, 2147483650)), [])], 2)
theorem hct_against_0_4_2 : z_ctH zTb ct_against_0_4_2 := sorry
def ct_against_0_4_3 : zCt := (182, [.inr (.inr (36, 0)), .inl (2147483651, 2147483651)], [(606209, (2147483648, 2147483648)), (606210, (2147483652, 2147483652))], [], [.inl (some (.inl (2147483649, 2147483649)), [])], 2)
theorem hct_against_0_4_3 : z_ctH zTb ct_against_0_4_3 := sorry
def ct_against_0_5_0 : zCt := (182, [.inr (.inr (36, 0)), .inl (2147483648, 2147483648)], [(606209, (2147483648, 2147483648)), (606210, (2147483653, 2147483653))], [], [.inl (some (.inl (2147483648, 2147483648)), [])], 2)
theorem hct_against_0_5_0 : z_ctH zTb ct_against_0_5_0 := sorry
def ct_against_0_5_1 : zCt := (182, [.inr (.inr (36, 0)), .inl (2147483649, 2147483649)], [(606209, (2147483648, 2147483648)), (606210, (2147483653, 2147483653))], [], [.inl (some (.inl (2147483652, 2147483652)), [])], 2)
theorem hct_against_0_5_1 : z_ctH zTb ct_against_0_5_1 := sorry
def ct_against_0_5_2 : zCt := (182, [.inr (.inr (36, 0)), .inl (2147483650, 2147483650)], [(606209, (2147483648, 2147483648)), (606210, (2147483653, 2147483653))], [], [.inl (some (.inl (2147483651, 2147483651)), [])], 2)
theorem hct_against_0_5_2 : z_ctH zTb ct_against_0_5_2 := sorry
def ct_against_0_5_3 : zCt := (182, [.inr (.inr (36, 0)), .inl (2147483651, 2147483651)], [(606209, (2147483648, 2147483648)), (606210, (2147483653, 2147483653))], [], [.inl (some (.inl (2147483650, 2147483650)), [])], 2)
theorem hct_against_0_5_3 : z_ctH zTb ct_against_0_5_3 := sorry
def ct_against_0_5_4 : zCt := (182, [.inr (.inr (36, 0)), .inl (2147483652, 2147483652)], [(606209, (2147483648, 2147483648)), (606210, (2147483653, 2147483653))], [], [.inl (some (.inl (2147483649, 2147483649)), [])], 2)
theorem hct_against_0_5_4 : z_ctH zTb ct_against_0_5_4 := sorry
def ct_against_0_6_0 : zCt := (182, [.inr (.inr (36, 0)), .inl (2147483648, 2147483648)], [(606209, (2147483648, 2147483648)), (606210, (2147483654, 2147483654))], [], [.inl (some (.inl (2147483648, 2147483648)), [])], 2)
theorem hct_against_0_6_0 : z_ctH zTb ct_against_0_6_0 := sorry
def ct_against_0_6_1 : zCt := (182, [.inr (.inr (36, 0)), .inl (2147483649, 2147483649)], [(606209, (2147483648, 2147483648)), (606210, (2147483654, 2147483654))], [], [.inl (some (.inl (2147483653, 2147483653)), [])], 2)
theorem hct_against_0_6_1 : z_ctH zTb ct_against_0_6_1 := sorry
def ct_against_0_6_2 : zCt := (182, [.inr (.inr (36, 0)), .inl (2147483650, 2147483650)], [(606209, (2147483648, 2147483648)), (606210, (2147483654, 2147483654))], [], [.inl (some (.inl (2147483652, 2147483652)), [])], 2)
theorem hct_against_0_6_2 : z_ctH zTb ct_against_0_6_2 := sorry
def ct_against_0_6_3 : zCt := (182, [.inr (.inr (36, 0)), .inl (2147483651, 2147483651)], [(606209, (2147483648, 2147483648)), (606210, (2147483654, 2147483654))], [], [.inl (some (.inl (2147483651, 2147483651)), [])], 2)
theorem hct_against_0_6_3 : z_ctH zTb ct_against_0_6_3 := sorry
def ct_against_0_6_4 : zCt := (182, [.inr (.inr (36, 0)), .inl (2147483652, 2147483652)], [(606209, (2147483648, 2147483648)), (606210, (2147483654, 2147483654))], [], [.inl (some (.inl (2147483650, 2147483650)), [])], 2)
theorem hct_against_0_6_4 : z_ctH zTb ct_against_0_6_4 := sorry
def ct_against_0_6_5 : zCt := (182, [.inr (.inr (36, 0)), .inl (2147483653, 2147483653)], [(606209, (2147483648, 2147483648)), (606210, (2147483654, 2147483654))], [], [.inl (some (.inl (2147483649, 2147483649)), [])], 2)
theorem hct_against_0_6_5 : z_ctH zTb ct_against_0_6_5 := sorry
def ct_against_0_7_0 : zCt := (182, [.inr (.inr (36, 0)), .inl (2147483648, 2147483648)], [(606209, (2147483648, 2147483648)), (606210, (2147483655, 2147483655))], [], [.inl (some (.inl (2147483648, 2147483648)), [])], 2)
theorem hct_against_0_7_0 : z_ctH zTb ct_against_0_7_0 := sorry
def ct_against_0_7_1 : zCt := (182, [.inr (.inr (36, 0)), .inl (2147483649, 2147483649)], [(606209, (2147483648, 2147483648)), (606210, (2147483655, 2147483655))], [], [.inl (some (.inl (2147483654, 2147483654)), [])], 2)
theorem hct_against_0_7_1 : z_ctH zTb ct_against_0_7_1 := sorry
def ct_against_0_7_2 : zCt := (182, [.inr (.inr (36, 0)), .inl (2147483650, 2147483650)], [(606209, (2147483648, 2147483648)), (606210, (2147483655, 2147483655))], [], [.inl (some (.inl (2147483653, 2147483653)), [])], 2)
theorem hct_against_0_7_2 : z_ctH zTb ct_against_0_7_2 := sorry
def ct_against_0_7_3 : zCt := (182, [.inr (.inr (36, 0)), .inl (2147483651, 2147483651)], [(606209, (2147483648, 2147483648)), (606210, (2147483655, 2147483655))], [], [.inl (some (.inl (2147483652, 2147483652)), [])], 2)
theorem hct_against_0_7_3 : z_ctH zTb ct_against_0_7_3 := sorry
def ct_against_0_7_4 : zCt := (182, [.inr (.inr (36, 0)), .inl (2147483652, 2147483652)], [(606209, (2147483648, 2147483648)), (606210, (2147483655, 2147483655))], [], [.inl (some (.inl (2147483651, 2147483651)), [])], 2)
theorem hct_against_0_7_4 : z_ctH zTb ct_against_0_7_4 := sorry
def ct_against_0_7_5 : zCt := (182, [.inr (.inr (36, 0)), .inl (2147483653, 2147483653)], [(606209, (2147483648, 2147483648)), (606210, (2147483655, 2147483655))], [], [.inl (some (.inl (2147483650, 2147483650)), [])], 2)
theorem hct_against_0_7_5 : z_ctH zTb ct_against_0_7_5 := sorry
def ct_against_0_7_6 : zCt := (182, [.inr (.inr (36, 0)), .inl (2147483654, 2147483654)], [(606209, (2147483648, 2147483648)), (606210, (2147483655, 2147483655))], [], [.inl (some (.inl (2147483649, 2147483649)), [])], 2)
theorem hct_against_0_7_6 : z_ctH zTb ct_against_0_7_6 := sorry
def ct_against_0_8_0 : zCt := (182, [.inr (.inr (36, 0)), .inl (2147483648, 2147483648)], [(606209, (2147483648, 2147483648)), (606210, (2147483656, 2147483656))], [], [.inl (some (.inl (2147483648, 2147483648)), [])], 2)
theorem hct_against_0_8_0 : z_ctH zTb ct_against_0_8_0 := sorry
def ct_against_0_8_1 : zCt := (182, [.inr (.inr (36, 0)), .inl (2147483649, 2147483649)], [(606209, (2147483648, 2147483648)), (606210, (2147483656, 2147483656))], [], [.inl (some (.inl (2147483655, 2147483655)), [])], 2)
theorem hct_against_0_8_1 : z_ctH zTb ct_against_0_8_1 := sorry
def ct_against_0_8_2 : zCt := (182, [.inr (.inr (36, 0)), .inl (2147483650, 2147483650)], [(606209, (2147483648, 2147483648)), (606210, (2147483656, 2147483656))], [], [.inl (some (.inl (2147483654, 2147483654)), [])], 2)
theorem hct_against_0_8_2 : z_ctH zTb ct_against_0_8_2 := sorry
def ct_against_0_8_3 : zCt := (182, [.inr (.inr (36, 0)), .inl (2147483651, 2147483651)], [(606209, (2147483648, 2147483648)), (606210, (2147483656, 2147483656))], [], [.inl (some (.inl (2147483653, 2147483653)), [])], 2)
theorem hct_against_0_8_3 : z_ctH zTb ct_against_0_8_3 := sorry
def ct_against_0_8_4 : zCt := (182, [.inr (.inr (36, 0)), .inl (2147483652, 2147483652)], [(606209, (2147483648, 2147483648)), (606210, (2147483656, 2147483656))], [], [.inl (some (.inl (2147483652, 2147483652)), [])], 2)
theorem hct_against_0_8_4 : z_ctH zTb ct_against_0_8_4 := sorry
def ct_against_0_8_5 : zCt := (182, [.inr (.inr (36, 0)), .inl (2147483653, 2147483653)], [(606209, (2147483648, 2147483648)), (606210, (2147483656, 2147483656))], [], [.inl (some (.inl (2147483651, 2147483651)), [])], 2)
theorem hct_against_0_8_5 : z_ctH zTb ct_against_0_8_5 := sorry
def ct_against_0_8_6 : zCt := (182, [.inr (.inr (36, 0)), .inl (2147483654, 2147483654)], [(606209, (2147483648, 2147483648)), (606210, (2147483656, 2147483656))], [], [.inl (some (.inl (2147483650, 2147483650)), [])], 2)
theorem hct_against_0_8_6 : z_ctH zTb ct_against_0_8_6 := sorry
def ct_against_0_8_7 : zCt := (182, [.inr (.inr (36, 0)), .inl (2147483655, 2147483655)], [(606209, (2147483648, 2147483648)), (606210, (2147483656, 2147483656))], [], [.inl (some (.inl (2147483649, 2147483649)), [])], 2)
theorem hct_against_0_8_7 : z_ctH zTb ct_against_0_8_7 := sorry
def ct_against_1_4_0 : zCt := (182, [.inr (.inr (36, 0)), .inl (2147483648, 2147483648)], [(606209, (2147483649, 2147483649)), (606210, (2147483652, 2147483652))], [], [.inl (some (.inl (2147483648, 2147483648)), [])], 2)
theorem hct_against_1_4_0 : z_ctH zTb ct_against_1_4_0 := sorry
def ct_against_1_4_1 : zCt := (182, [.inr (.inr (36, 0)), .inl (2147483649, 2147483649)], [(606209, (2147483649, 2147483649)), (606210, (2147483652, 2147483652))], [], [.inl (some (.inl (2147483649, 2147483649)), [])], 2)
theorem hct_against_1_4_1 : z_ctH zTb ct_against_1_4_1 := sorry
def ct_against_1_4_2 : zCt := (182, [.inr (.inr (36, 0)), .inl (2147483650, 2147483650)], [(606209, (2147483649, 2147483649)), (606210, (2147483652, 2147483652))], [], [.inl (some (.inl (2147483650, 2147483650)), [])], 2)
theorem hct_against_1_4_2 : z_ctH zTb ct_against_1_4_2 := sorry
def ct_against_1_4_3 : zCt := (182, [.inr (.inr (36, 0)), .inl (2147483651, 2147483651)], [(606209, (2147483649, 2147483649)), (606210, (2147483652, 2147483652))], [], [.inl (some (.inl (2147483651, 2147483651)), [])], 2)
theorem hct_against_1_4_3 : z_ctH zTb ct_against_1_4_3 := sorry
def ct_against_1_6_0 : zCt := (182, [.inr (.inr (36, 0)), .inl (2147483648, 2147483648)], [(606209, (2147483649, 2147483649)), (606210, (2147483654, 2147483654))], [], [.inl (some (.inl (2147483648, 2147483648)), [])], 2)
theorem hct_against_1_6_0 : z_ctH zTb ct_against_1_6_0 := sorry
def ct_against_1_6_1 : zCt := (182, [.inr (.inr (36, 0)), .inl (2147483649, 2147483649)], [(606209, (2147483649, 2147483649)), (606210, (2147483654, 2147483654))], [], [.inl (some (.inl (2147483650, 2147483650)), [])], 2)
theorem hct_against_1_6_1 : z_ctH zTb ct_against_1_6_1 := sorry
def ct_against_1_6_2 : zCt := (182, [.inr (.inr (36, 0)), .inl (2147483650, 2147483650)], [(606209, (2147483649, 2147483649)), (606210, (2147483654, 2147483654))], [], [.inl (some (.inl (2147483649, 2147483649)), [])], 2)
theorem hct_against_1_6_2 : z_ctH zTb ct_against_1_6_2 := sorry
def ct_against_1_6_3 : zCt := (182, [.inr (.inr (36, 0)), .inl (2147483651, 2147483651)], [(606209, (2147483649, 2147483649)), (606210, (2147483654, 2147483654))], [], [.inl (some (.inl (2147483651, 2147483651)), [])], 2)
theorem hct_against_1_6_3 : z_ctH zTb ct_against_1_6_3 := sorry
def ct_against_1_6_4 : zCt := (182, [.inr (.inr (36, 0)), .inl (2147483652, 2147483652)], [(606209, (2147483649, 2147483649)), (606210, (2147483654, 2147483654))], [], [.inl (some (.inl (2147483652, 2147483652)), [])], 2)
theorem hct_against_1_6_4 : z_ctH zTb ct_against_1_6_4 := sorry
def ct_against_1_6_5 : zCt := (182, [.inr (.inr (36, 0)), .inl (2147483653, 2147483653)], [(606209, (2147483649, 2147483649)), (606210, (2147483654, 2147483654))], [], [.inl (some (.inl (2147483653, 2147483653)), [])], 2)
theorem hct_against_1_6_5 : z_ctH zTb ct_against_1_6_5 := sorry
def ct_against_1_8_0 : zCt := (182, [.inr (.inr (36, 0)), .inl (2147483648, 2147483648)], [(606209, (2147483649, 2147483649)), (606210, (2147483656, 2147483656))], [], [.inl (some (.inl (2147483648, 2147483648)), [])], 2)
theorem hct_against_1_8_0 : z_ctH zTb ct_against_1_8_0 := sorry
def ct_against_1_8_1 : zCt := (182, [.inr (.inr (36, 0)), .inl (2147483649, 2147483649)], [(606209, (2147483649, 2147483649)), (606210, (2147483656, 2147483656))], [], [.inl (some (.inl (2147483651, 2147483651)), [])], 2)
theorem hct_against_1_8_1 : z_ctH zTb ct_against_1_8_1 := sorry
def ct_against_1_8_2 : zCt := (182, [.inr (.inr (36, 0)), .inl (2147483650, 2147483650)], [(606209, (2147483649, 2147483649)), (606210, (2147483656, 2147483656))], [], [.inl (some (.inl (2147483650, 2147483650)), [])], 2)
theorem hct_against_1_8_2 : z_ctH zTb ct_against_1_8_2 := sorry
def ct_against_1_8_3 : zCt := (182, [.inr (.inr (36, 0)), .inl (2147483651, 2147483651)], [(606209, (2147483649, 2147483649)), (606210, (2147483656, 2147483656))], [], [.inl (some (.inl (2147483649, 2147483649)), [])], 2)
theorem hct_against_1_8_3 : z_ctH zTb ct_against_1_8_3 := sorry
def ct_against_1_8_4 : zCt := (182, [.inr (.inr (36, 0)), .inl (2147483652, 2147483652)], [(606209, (2147483649, 2147483649)), (606210, (2147483656, 2147483656))], [], [.inl (some (.inl (2147483652, 2147483652)), [])], 2)
theorem hct_against_1_8_4 : z_ctH zTb ct_against_1_8_4 := sorry
def ct_against_1_8_5 : zCt := (182, [.inr (.inr (36, 0)), .inl (2147483653, 2147483653)], [(606209, (2147483649, 2147483649)), (606210, (2147483656, 2147483656))], [], [.inl (some (.inl (2147483653, 2147483653)), [])], 2)
theorem hct_against_1_8_5 : z_ctH zTb ct_against_1_8_5 := sorry
def ct_against_1_8_6 : zCt := (182, [.inr (.inr (36, 0)), .inl (2147483654, 2147483654)], [(606209, (2147483649, 2147483649)), (606210, (2147483656, 2147483656))], [], [.inl (some (.inl (2147483654, 2147483654)), [])], 2)
theorem hct_against_1_8_6 : z_ctH zTb ct_against_1_8_6 := sorry
def ct_against_1_8_7 : zCt := (182, [.inr (.inr (36, 0)), .inl (2147483655, 2147483655)], [(606209, (2147483649, 2147483649)), (606210, (2147483656, 2147483656))], [], [.inl (some (.inl (2147483655, 2147483655)), [])], 2)
theorem hct_against_1_8_7 : z_ctH zTb ct_against_1_8_7 := sorry
def ct_against_2_8_0 : zCt := (182, [.inr (.inr (36, 0)), .inl (2147483648, 2147483648)], [(606209, (2147483650, 2147483650)), (606210, (2147483656, 2147483656))], [], [.inl (some (.inl (2147483648, 2147483648)), [])], 2)
theorem hct_against_2_8_0 : z_ctH zTb ct_against_2_8_0 := sorry
def ct_against_2_8_1 : zCt := (182, [.inr (.inr (36, 0)), .inl (2147483649, 2147483649)], [(606209, (2147483650, 2147483650)), (606210, (2147483656, 2147483656))], [], [.inl (some (.inl (2147483651, 2147483651)), [])], 2)
theorem hct_against_2_8_1 : z_ctH zTb ct_against_2_8_1 := sorry
def ct_against_2_8_2 : zCt := (182, [.inr (.inr (36, 0)), .inl (2147483650, 2147483650)], [(606209, (2147483650, 2147483650)), (606210, (2147483656, 2147483656))], [], [.inl (some (.inl (2147483650, 2147483650)), [])], 2)
theorem hct_against_2_8_2 : z_ctH zTb ct_against_2_8_2 := sorry
def ct_against_2_8_3 : zCt := (182, [.inr (.inr (36, 0)), .inl (2147483651, 2147483651)], [(606209, (2147483650, 2147483650)), (606210, (2147483656, 2147483656))], [], [.inl (some (.inl (2147483649, 2147483649)), [])], 2)
theorem hct_against_2_8_3 : z_ctH zTb ct_against_2_8_3 := sorry
def ct_against_2_8_4 : zCt := (182, [.inr (.inr (36, 0)), .inl (2147483652, 2147483652)], [(606209, (2147483650, 2147483650)), (606210, (2147483656, 2147483656))], [], [.inl (some (.inl (2147483654, 2147483654)), [])], 2)
theorem hct_against_2_8_4 : z_ctH zTb ct_against_2_8_4 := sorry
def ct_against_2_8_5 : zCt := (182, [.inr (.inr (36, 0)), .inl (2147483653, 2147483653)], [(606209, (2147483650, 2147483650)), (606210, (2147483656, 2147483656))], [], [.inl (some (.inl (2147483655, 2147483655)), [])], 2)
theorem hct_against_2_8_5 : z_ctH zTb ct_against_2_8_5 := sorry
def ct_against_2_8_6 : zCt := (182, [.inr (.inr (36, 0)), .inl (2147483654, 2147483654)], [(606209, (2147483650, 2147483650)), (606210, (2147483656, 2147483656))], [], [.inl (some (.inl (2147483652, 2147483652)), [])], 2)
theorem hct_against_2_8_6 : z_ctH zTb ct_against_2_8_6 := sorry
def ct_against_2_8_7 : zCt := (182, [.inr (.inr (36, 0)), .inl (2147483655, 2147483655)], [(606209, (2147483650, 2147483650)), (606210, (2147483656, 2147483656))], [], [.inl (some (.inl (2147483653, 2147483653)), [])], 2)
theorem hct_against_2_8_7 : z_ctH zTb ct_against_2_8_7 := sorry
def ct_against_3_2_0 : zCt := (182, [.inr (.inr (36, 0)), .inl (2147483648, 2147483648)], [(606209, (2147483651, 2147483651)), (606210, (2147483650, 2147483650))], [], [.inl (some (.inl (2147483648, 2147483648)), [])], 2)
theorem hct_against_3_2_0 : z_ctH zTb ct_against_3_2_0 := sorry
def ct_against_3_2_1 : zCt := (182, [.inr (.inr (36, 0)), .inl (2147483649, 2147483649)], [(606209, (2147483651, 2147483651)), (606210, (2147483650, 2147483650))], [], [.inl (some (.inl (2147483649, 2147483649)), [])], 2)
theorem hct_against_3_2_1 : z_ctH zTb ct_against_3_2_1 := sorry
def ct_against_3_4_0 : zCt := (182, [.inr (.inr (36, 0)), .inl (2147483648, 2147483648)], [(606209, (2147483651, 2147483651)), (606210, (2147483652, 2147483652))], [], [.inl (some (.inl (2147483648, 2147483648)), [])], 2)
theorem hct_against_3_4_0 : z_ctH zTb ct_against_3_4_0 := sorry
def ct_against_3_4_1 : zCt := (182, [.inr (.inr (36, 0)), .inl (2147483649, 2147483649)], [(606209, (2147483651, 2147483651)), (606210, (2147483652, 2147483652))], [], [.inl (some (.inl (2147483649, 2147483649)), [])], 2)
theorem hct_against_3_4_1 : z_ctH zTb ct_against_3_4_1 := sorry
def ct_against_3_4_2 : zCt := (182, [.inr (.inr (36, 0)), .inl (2147483650, 2147483650)], [(606209, (2147483651, 2147483651)), (606210, (2147483652, 2147483652))], [], [.inl (some (.inl (2147483650, 2147483650)), [])], 2)
theorem hct_against_3_4_2 : z_ctH zTb ct_against_3_4_2 := sorry
def ct_against_3_4_3 : zCt := (182, [.inr (.inr (36, 0)), .inl (2147483651, 2147483651)], [(606209, (2147483651, 2147483651)), (606210, (2147483652, 2147483652))], [], [.inl (some (.inl (2147483651, 2147483651)), [])], 2)
theorem hct_against_3_4_3 : z_ctH zTb ct_against_3_4_3 := sorry
def ct_against_3_8_0 : zCt := (182, [.inr (.inr (36, 0)), .inl (2147483648, 2147483648)], [(606209, (2147483651, 2147483651)), (606210, (2147483656, 2147483656))], [], [.inl (some (.inl (2147483648, 2147483648)), [])], 2)
theorem hct_against_3_8_0 : z_ctH zTb ct_against_3_8_0 := sorry
def ct_against_3_8_1 : zCt := (182, [.inr (.inr (36, 0)), .inl (2147483649, 2147483649)], [(606209, (2147483651, 2147483651)), (606210, (2147483656, 2147483656))], [], [.inl (some (.inl (2147483649, 2147483649)), [])], 2)
theorem hct_against_3_8_1 : z_ctH zTb ct_against_3_8_1 := sorry
def ct_against_3_8_2 : zCt := (182, [.inr (.inr (36, 0)), .inl (2147483650, 2147483650)], [(606209, (2147483651, 2147483651)), (606210, (2147483656, 2147483656))], [], [.inl (some (.inl (2147483650, 2147483650)), [])], 2)
theorem hct_against_3_8_2 : z_ctH zTb ct_against_3_8_2 := sorry
def ct_against_3_8_3 : zCt := (182, [.inr (.inr (36, 0)), .inl (2147483651, 2147483651)], [(606209, (2147483651, 2147483651)), (606210, (2147483656, 2147483656))], [], [.inl (some (.inl (2147483651, 2147483651)), [])], 2)
theorem hct_against_3_8_3 : z_ctH zTb ct_against_3_8_3 := sorry
def ct_against_3_8_4 : zCt := (182, [.inr (.inr (36, 0)), .inl (2147483652, 2147483652)], [(606209, (2147483651, 2147483651)), (606210, (2147483656, 2147483656))], [], [.inl (some (.inl (2147483652, 2147483652)), [])], 2)
theorem hct_against_3_8_4 : z_ctH zTb ct_against_3_8_4 := sorry
def ct_against_3_8_5 : zCt := (182, [.inr (.inr (36, 0)), .inl (2147483653, 2147483653)], [(606209, (2147483651, 2147483651)), (606210, (2147483656, 2147483656))], [], [.inl (some (.inl (2147483653, 2147483653)), [])], 2)
theorem hct_against_3_8_5 : z_ctH zTb ct_against_3_8_5 := sorry
def ct_against_3_8_6 : zCt := (182, [.inr (.inr (36, 0)), .inl (2147483654, 2147483654)], [(606209, (2147483651, 2147483651)), (606210, (2147483656, 2147483656))], [], [.inl (some (.inl (2147483654, 2147483654)), [])], 2)
theorem hct_against_3_8_6 : z_ctH zTb ct_against_3_8_6 := sorry
def ct_against_3_8_7 : zCt := (182, [.inr (.inr (36, 0)), .inl (2147483655, 2147483655)], [(606209, (2147483651, 2147483651)), (606210, (2147483656, 2147483656))], [], [.inl (some (.inl (2147483655, 2147483655)), [])], 2)
theorem hct_against_3_8_7 : z_ctH zTb ct_against_3_8_7 := sorry
def ct_leastOf_0_2_0 : zCt := (184, [.inr (.inr (36, 0)), .inl (2147483648, 2147483648)], [(606209, (2147483648, 2147483648)), (606210, (2147483650, 2147483650))], [], [.inl (some (.inl (2147483648, 2147483648)), [])], 4)
theorem hct_leastOf_0_2_0 : z_ctH zTb ct_leastOf_0_2_0 := hz_leastOf (k := 0) (o := 2) (a := 0) (L := 0) (by decide) (by decide) (by decide +kernel)
def ct_leastOf_0_2_1 : zCt := (184, [.inr (.inr (36, 0)), .inl (2147483649, 2147483649)], [(606209, (2147483648, 2147483648)), (606210, (2147483650, 2147483650))], [], [.inl (some (.inl (2147483649, 2147483649)), [])], 4)
theorem hct_leastOf_0_2_1 : z_ctH zTb ct_leastOf_0_2_1 := hz_leastOf (k := 0) (o := 2) (a := 1) (L := 1) (by decide) (by decide) (by decide +kernel)
def ct_leastOf_0_3_0 : zCt := (184, [.inr (.inr (36, 0)), .inl (2147483648, 2147483648)], [(606209, (2147483648, 2147483648)), (606210, (2147483651, 2147483651))], [], [.inl (some (.inl (2147483648, 2147483648)), [])], 4)
theorem hct_leastOf_0_3_0 : z_ctH zTb ct_leastOf_0_3_0 := hz_leastOf (k := 0) (o := 3) (a := 0) (L := 0) (by decide) (by decide) (by decide +kernel)
def ct_leastOf_0_3_1 : zCt := (184, [.inr (.inr (36, 0)), .inl (2147483649, 2147483649)], [(606209, (2147483648, 2147483648)), (606210, (2147483651, 2147483651))], [], [.inl (some (.inl (2147483649, 2147483649)), [])], 4)
theorem hct_leastOf_0_3_1 : z_ctH zTb ct_leastOf_0_3_1 := hz_leastOf (k := 0) (o := 3) (a := 1) (L := 1) (by decide) (by decide) (by decide +kernel)
def ct_leastOf_0_3_2 : zCt := (184, [.inr (.inr (36, 0)), .inl (2147483650, 2147483650)], [(606209, (2147483648, 2147483648)), (606210, (2147483651, 2147483651))], [], [.inl (some (.inl (2147483650, 2147483650)), [])], 4)
theorem hct_leastOf_0_3_2 : z_ctH zTb ct_leastOf_0_3_2 := hz_leastOf (k := 0) (o := 3) (a := 2) (L := 2) (by decide) (by decide) (by decide +kernel)
def ct_leastOf_0_4_0 : zCt := (184, [.inr (.inr (36, 0)), .inl (2147483648, 2147483648)], [(606209, (2147483648, 2147483648)), (606210, (2147483652, 2147483652))], [], [.inl (some (.inl (2147483648, 2147483648)), [])], 4)
theorem hct_leastOf_0_4_0 : z_ctH zTb ct_leastOf_0_4_0 := hz_leastOf (k := 0) (o := 4) (a := 0) (L := 0) (by decide) (by decide) (by decide +kernel)
def ct_leastOf_0_4_1 : zCt := (184, [.inr (.inr (36, 0)), .inl (2147483649, 2147483649)], [(606209, (2147483648, 2147483648)), (606210, (2147483652, 2147483652))], [], [.inl (some (.inl (2147483649, 2147483649)), [])], 4)
theorem hct_leastOf_0_4_1 : z_ctH zTb ct_leastOf_0_4_1 := hz_leastOf (k := 0) (o := 4) (a := 1) (L := 1) (by decide) (by decide) (by decide +kernel)
def ct_leastOf_0_4_2 : zCt := (184, [.inr (.inr (36, 0)), .inl (2147483650, 2147483650)], [(606209, (2147483648, 2147483648)), (606210, (2147483652, 2147483652))], [], [.inl (some (.inl (2147483650, 2147483650)), [])], 4)
theorem hct_leastOf_0_4_2 : z_ctH zTb ct_leastOf_0_4_2 := hz_leastOf (k := 0) (o := 4) (a := 2) (L := 2) (by decide) (by decide) (by decide +kernel)
def ct_leastOf_0_4_3 : zCt := (184, [.inr (.inr (36, 0)), .inl (2147483651, 2147483651)], [(606209, (2147483648, 2147483648)), (606210, (2147483652, 2147483652))], [], [.inl (some (.inl (2147483651, 2147483651)), [])], 4)
theorem hct_leastOf_0_4_3 : z_ctH zTb ct_leastOf_0_4_3 := hz_leastOf (k := 0) (o := 4) (a := 3) (L := 3) (by decide) (by decide) (by decide +kernel)
def ct_leastOf_0_5_0 : zCt := (184, [.inr (.inr (36, 0)), .inl (2147483648, 2147483648)], [(606209, (2147483648, 2147483648)), (606210, (2147483653, 2147483653))], [], [.inl (some (.inl (2147483648, 2147483648)), [])], 4)
theorem hct_leastOf_0_5_0 : z_ctH zTb ct_leastOf_0_5_0 := hz_leastOf (k := 0) (o := 5) (a := 0) (L := 0) (by decide) (by decide) (by decide +kernel)
def ct_leastOf_0_5_1 : zCt := (184, [.inr (.inr (36, 0)), .inl (2147483649, 2147483649)], [(606209, (2147483648, 2147483648)), (606210, (2147483653, 2147483653))], [], [.inl (some (.inl (2147483649, 2147483649)), [])], 4)
theorem hct_leastOf_0_5_1 : z_ctH zTb ct_leastOf_0_5_1 := hz_leastOf (k := 0) (o := 5) (a := 1) (L := 1) (by decide) (by decide) (by decide +kernel)
def ct_leastOf_0_5_2 : zCt := (184, [.inr (.inr (36, 0)), .inl (2147483650, 2147483650)], [(606209, (2147483648, 2147483648)), (606210, (2147483653, 2147483653))], [], [.inl (some (.inl (2147483650, 2147483650)), [])], 4)
theorem hct_leastOf_0_5_2 : z_ctH zTb ct_leastOf_0_5_2 := hz_leastOf (k := 0) (o := 5) (a := 2) (L := 2) (by decide) (by decide) (by decide +kernel)
def ct_leastOf_0_5_3 : zCt := (184, [.inr (.inr (36, 0)), .inl (2147483651, 2147483651)], [(606209, (2147483648, 2147483648)), (606210, (2147483653, 2147483653))], [], [.inl (some (.inl (2147483651, 2147483651)), [])], 4)
theorem hct_leastOf_0_5_3 : z_ctH zTb ct_leastOf_0_5_3 := hz_leastOf (k := 0) (o := 5) (a := 3) (L := 3) (by decide) (by decide) (by decide +kernel)
def ct_leastOf_0_5_4 : zCt := (184, [.inr (.inr (36, 0)), .inl (2147483652, 2147483652)], [(606209, (2147483648, 2147483648)), (606210, (2147483653, 2147483653))], [], [.inl (some (.inl (2147483652, 2147483652)), [])], 4)
theorem hct_leastOf_0_5_4 : z_ctH zTb ct_leastOf_0_5_4 := hz_leastOf (k := 0) (o := 5) (a := 4) (L := 4) (by decide) (by decide) (by decide +kernel)
def ct_leastOf_0_6_0 : zCt := (184, [.inr (.inr (36, 0)), .inl (2147483648, 2147483648)], [(606209, (2147483648, 2147483648)), (606210, (2147483654, 2147483654))], [], [.inl (some (.inl (2147483648, 2147483648)), [])], 4)
theorem hct_leastOf_0_6_0 : z_ctH zTb ct_leastOf_0_6_0 := hz_leastOf (k := 0) (o := 6) (a := 0) (L := 0) (by decide) (by decide) (by decide +kernel)
def ct_leastOf_0_6_1 : zCt := (184, [.inr (.inr (36, 0)), .inl (2147483649, 2147483649)], [(606209, (2147483648, 2147483648)), (606210, (2147483654, 2147483654))], [], [.inl (some (.inl (2147483649, 2147483649)), [])], 4)
theorem hct_leastOf_0_6_1 : z_ctH zTb ct_leastOf_0_6_1 := hz_leastOf (k := 0) (o := 6) (a := 1) (L := 1) (by decide) (by decide) (by decide +kernel)
def ct_leastOf_0_6_2 : zCt := (184, [.inr (.inr (36, 0)), .inl (2147483650, 2147483650)], [(606209, (2147483648, 2147483648)), (606210, (2147483654, 2147483654))], [], [.inl (some (.inl (2147483650, 2147483650)), [])], 4)
theorem hct_leastOf_0_6_2 : z_ctH zTb ct_leastOf_0_6_2 := hz_leastOf (k := 0) (o := 6) (a := 2) (L := 2) (by decide) (by decide) (by decide +kernel)
def ct_leastOf_0_6_3 : zCt := (184, [.inr (.inr (36, 0)), .inl (2147483651, 2147483651)], [(606209, (2147483648, 2147483648)), (606210, (2147483654, 2147483654))], [], [.inl (some (.inl (2147483651, 2147483651)), [])], 4)
theorem hct_leastOf_0_6_3 : z_ctH zTb ct_leastOf_0_6_3 := hz_leastOf (k := 0) (o := 6) (a := 3) (L := 3) (by decide) (by decide) (by decide +kernel)
def ct_leastOf_0_6_4 : zCt := (184, [.inr (.inr (36, 0)), .inl (2147483652, 2147483652)], [(606209, (2147483648, 2147483648)), (606210, (2147483654, 2147483654))], [], [.inl (some (.inl (2147483652, 2147483652)), [])], 4)
theorem hct_leastOf_0_6_4 : z_ctH zTb ct_leastOf_0_6_4 := hz_leastOf (k := 0) (o := 6) (a := 4) (L := 4) (by decide) (by decide) (by decide +kernel)
def ct_leastOf_0_6_5 : zCt := (184, [.inr (.inr (36, 0)), .inl (2147483653, 2147483653)], [(606209, (2147483648, 2147483648)), (606210, (2147483654, 2147483654))], [], [.inl (some (.inl (2147483653, 2147483653)), [])], 4)
theorem hct_leastOf_0_6_5 : z_ctH zTb ct_leastOf_0_6_5 := hz_leastOf (k := 0) (o := 6) (a := 5) (L := 5) (by decide) (by decide) (by decide +kernel)
def ct_leastOf_0_7_0 : zCt := (184, [.inr (.inr (36, 0)), .inl (2147483648, 2147483648)], [(606209, (2147483648, 2147483648)), (606210, (2147483655, 2147483655))], [], [.inl (some (.inl (2147483648, 2147483648)), [])], 4)
theorem hct_leastOf_0_7_0 : z_ctH zTb ct_leastOf_0_7_0 := hz_leastOf (k := 0) (o := 7) (a := 0) (L := 0) (by decide) (by decide) (by decide +kernel)
def ct_leastOf_0_7_1 : zCt := (184, [.inr (.inr (36, 0)), .inl (2147483649, 2147483649)], [(606209, (2147483648, 2147483648)), (606210, (2147483655, 2147483655))], [], [.inl (some (.inl (2147483649, 2147483649)), [])], 4)
theorem hct_leastOf_0_7_1 : z_ctH zTb ct_leastOf_0_7_1 := hz_leastOf (k := 0) (o := 7) (a := 1) (L := 1) (by decide) (by decide) (by decide +kernel)
def ct_leastOf_0_7_2 : zCt := (184, [.inr (.inr (36, 0)), .inl (2147483650, 2147483650)], [(606209, (2147483648, 2147483648)), (606210, (2147483655, 2147483655))], [], [.inl (some (.inl (2147483650, 2147483650)), [])], 4)
theorem hct_leastOf_0_7_2 : z_ctH zTb ct_leastOf_0_7_2 := hz_leastOf (k := 0) (o := 7) (a := 2) (L := 2) (by decide) (by decide) (by decide +kernel)
def ct_leastOf_0_7_3 : zCt := (184, [.inr (.inr (36, 0)), .inl (2147483651, 2147483651)], [(606209, (2147483648, 2147483648)), (606210, (2147483655, 2147483655))], [], [.inl (some (.inl (2147483651, 2147483651)), [])], 4)
theorem hct_leastOf_0_7_3 : z_ctH zTb ct_leastOf_0_7_3 := hz_leastOf (k := 0) (o := 7) (a := 3) (L := 3) (by decide) (by decide) (by decide +kernel)
def ct_leastOf_0_7_4 : zCt := (184, [.inr (.inr (36, 0)), .inl (2147483652, 2147483652)], [(606209, (2147483648, 2147483648)), (606210, (2147483655, 2147483655))], [], [.inl (some (.inl (2147483652, 2147483652)), [])], 4)
theorem hct_leastOf_0_7_4 : z_ctH zTb ct_leastOf_0_7_4 := hz_leastOf (k := 0) (o := 7) (a := 4) (L := 4) (by decide) (by decide) (by decide +kernel)
def ct_leastOf_0_7_5 : zCt := (184, [.inr (.inr (36, 0)), .inl (2147483653, 2147483653)], [(606209, (2147483648, 2147483648)), (606210, (2147483655, 2147483655))], [], [.inl (some (.inl (2147483653, 2147483653)), [])], 4)
theorem hct_leastOf_0_7_5 : z_ctH zTb ct_leastOf_0_7_5 := hz_leastOf (k := 0) (o := 7) (a := 5) (L := 5) (by decide) (by decide) (by decide +kernel)
def ct_leastOf_0_7_6 : zCt := (184, [.inr (.inr (36, 0)), .inl (2147483654, 2147483654)], [(606209, (2147483648, 2147483648)), (606210, (2147483655, 2147483655))], [], [.inl (some (.inl (2147483654, 2147483654)), [])], 4)
theorem hct_leastOf_0_7_6 : z_ctH zTb ct_leastOf_0_7_6 := hz_leastOf (k := 0) (o := 7) (a := 6) (L := 6) (by decide) (by decide) (by decide +kernel)
def ct_leastOf_0_8_0 : zCt := (184, [.inr (.inr (36, 0)), .inl (2147483648, 2147483648)], [(606209, (2147483648, 2147483648)), (606210, (2147483656, 2147483656))], [], [.inl (some (.inl (2147483648, 2147483648)), [])], 4)
theorem hct_leastOf_0_8_0 : z_ctH zTb ct_leastOf_0_8_0 := hz_leastOf (k := 0) (o := 8) (a := 0) (L := 0) (by decide) (by decide) (by decide +kernel)
def ct_leastOf_0_8_1 : zCt := (184, [.inr (.inr (36, 0)), .inl (2147483649, 2147483649)], [(606209, (2147483648, 2147483648)), (606210, (2147483656, 2147483656))], [], [.inl (some (.inl (2147483649, 2147483649)), [])], 4)
theorem hct_leastOf_0_8_1 : z_ctH zTb ct_leastOf_0_8_1 := hz_leastOf (k := 0) (o := 8) (a := 1) (L := 1) (by decide) (by decide) (by decide +kernel)
def ct_leastOf_0_8_2 : zCt := (184, [.inr (.inr (36, 0)), .inl (2147483650, 2147483650)], [(606209, (2147483648, 2147483648)), (606210, (2147483656, 2147483656))], [], [.inl (some (.inl (2147483650, 2147483650)), [])], 4)
theorem hct_leastOf_0_8_2 : z_ctH zTb ct_leastOf_0_8_2 := hz_leastOf (k := 0) (o := 8) (a := 2) (L := 2) (by decide) (by decide) (by decide +kernel)
def ct_leastOf_0_8_3 : zCt := (184, [.inr (.inr (36, 0)), .inl (2147483651, 2147483651)], [(606209, (2147483648, 2147483648)), (606210, (2147483656, 2147483656))], [], [.inl (some (.inl (2147483651, 2147483651)), [])], 4)
theorem hct_leastOf_0_8_3 : z_ctH zTb ct_leastOf_0_8_3 := hz_leastOf (k := 0) (o := 8) (a := 3) (L := 3) (by decide) (by decide) (by decide +kernel)
def ct_leastOf_0_8_4 : zCt := (184, [.inr (.inr (36, 0)), .inl (2147483652, 2147483652)], [(606209, (2147483648, 2147483648)), (606210, (2147483656, 2147483656))], [], [.inl (some (.inl (2147483652, 2147483652)), [])], 4)
theorem hct_leastOf_0_8_4 : z_ctH zTb ct_leastOf_0_8_4 := hz_leastOf (k := 0) (o := 8) (a := 4) (L := 4) (by decide) (by decide) (by decide +kernel)
def ct_leastOf_0_8_5 : zCt := (184, [.inr (.inr (36, 0)), .inl (2147483653, 2147483653)], [(606209, (2147483648, 2147483648)), (606210, (2147483656, 2147483656))], [], [.inl (some (.inl (2147483653, 2147483653)), [])], 4)
theorem hct_leastOf_0_8_5 : z_ctH zTb ct_leastOf_0_8_5 := hz_leastOf (k := 0) (o := 8) (a := 5) (L := 5) (by decide) (by decide) (by decide +kernel)
def ct_leastOf_0_8_6 : zCt := (184, [.inr (.inr (36, 0)), .inl (2147483654, 2147483654)], [(606209, (2147483648, 2147483648)), (606210, (2147483656, 2147483656))], [], [.inl (some (.inl (2147483654, 2147483654)), [])], 4)
theorem hct_leastOf_0_8_6 : z_ctH zTb ct_leastOf_0_8_6 := hz_leastOf (k := 0) (o := 8) (a := 6) (L := 6) (by decide) (by decide) (by decide +kernel)
def ct_leastOf_0_8_7 : zCt := (184, [.inr (.inr (36, 0)), .inl (2147483655, 2147483655)], [(606209, (2147483648, 2147483648)), (606210, (2147483656, 2147483656))], [], [.inl (some (.inl (2147483655, 2147483655)), [])], 4)
theorem hct_leastOf_0_8_7 : z_ctH zTb ct_leastOf_0_8_7 := hz_leastOf (k := 0) (o := 8) (a := 7) (L := 7) (by decide) (by decide) (by decide +kernel)
def ct_leastOf_1_4_0 : zCt := (184, [.inr (.inr (36, 0)), .inl (2147483648, 2147483648)], [(606209, (2147483649, 2147483649)), (606210, (2147483652, 2147483652))], [], [.inl (some (.inl (2147483648, 2147483648)), [])], 4)
theorem hct_leastOf_1_4_0 : z_ctH zTb ct_leastOf_1_4_0 := hz_leastOf (k := 1) (o := 4) (a := 0) (L := 0) (by decide) (by decide) (by decide +kernel)
def ct_leastOf_1_4_1 : zCt := (184, [.inr (.inr (36, 0)), .inl (2147483649, 2147483649)], [(606209, (2147483649, 2147483649)), (606210, (2147483652, 2147483652))], [], [.inl (some (.inl (2147483649, 2147483649)), [])], 4)
theorem hct_leastOf_1_4_1 : z_ctH zTb ct_leastOf_1_4_1 := hz_leastOf (k := 1) (o := 4) (a := 1) (L := 1) (by decide) (by decide) (by decide +kernel)
def ct_leastOf_1_4_2 : zCt := (184, [.inr (.inr (36, 0)), .inl (2147483650, 2147483650)], [(606209, (2147483649, 2147483649)), (606210, (2147483652, 2147483652))], [], [.inl (some (.inl (2147483650, 2147483650)), [])], 4)
theorem hct_leastOf_1_4_2 : z_ctH zTb ct_leastOf_1_4_2 := hz_leastOf (k := 1) (o := 4) (a := 2) (L := 2) (by decide) (by decide) (by decide +kernel)
def ct_leastOf_1_4_3 : zCt := (184, [.inr (.inr (36, 0)), .inl (2147483651, 2147483651)], [(606209, (2147483649, 2147483649)), (606210, (2147483652, 2147483652))], [], [.inl (some (.inl (2147483651, 2147483651)), [])], 4)
theorem hct_leastOf_1_4_3 : z_ctH zTb ct_leastOf_1_4_3 := hz_leastOf (k := 1) (o := 4) (a := 3) (L := 3) (by decide) (by decide) (by decide +kernel)
def ct_leastOf_1_6_0 : zCt := (184, [.inr (.inr (36, 0)), .inl (2147483648, 2147483648)], [(606209, (2147483649, 2147483649)), (606210, (2147483654, 2147483654))], [], [.inl (some (.inl (2147483648, 2147483648)), [])], 4)
theorem hct_leastOf_1_6_0 : z_ctH zTb ct_leastOf_1_6_0 := hz_leastOf (k := 1) (o := 6) (a := 0) (L := 0) (by decide) (by decide) (by decide +kernel)
def ct_leastOf_1_6_1 : zCt := (184, [.inr (.inr (36, 0)), .inl (2147483649, 2147483649)], [(606209, (2147483649, 2147483649)), (606210, (2147483654, 2147483654))], [], [.inl (some (.inl (2147483649, 2147483649)), [])], 4)
theorem hct_leastOf_1_6_1 : z_ctH zTb ct_leastOf_1_6_1 := hz_leastOf (k := 1) (o := 6) (a := 1) (L := 1) (by decide) (by decide) (by decide +kernel)
def ct_leastOf_1_6_2 : zCt := (184, [.inr (.inr (36, 0)), .inl (2147483650, 2147483650)], [(606209, (2147483649, 2147483649)), (606210, (2147483654, 2147483654))], [], [.inl (some (.inl (2147483649, 2147483649)), [])], 4)
theorem hct_leastOf_1_6_2 : z_ctH zTb ct_leastOf_1_6_2 := hz_leastOf (k := 1) (o := 6) (a := 2) (L := 1) (by decide) (by decide) (by decide +kernel)
def ct_leastOf_1_6_3 : zCt := (184, [.inr (.inr (36, 0)), .inl (2147483651, 2147483651)], [(606209, (2147483649, 2147483649)), (606210, (2147483654, 2147483654))], [], [.inl (some (.inl (2147483651, 2147483651)), [])], 4)
theorem hct_leastOf_1_6_3 : z_ctH zTb ct_leastOf_1_6_3 := hz_leastOf (k := 1) (o := 6) (a := 3) (L := 3) (by decide) (by decide) (by decide +kernel)
def ct_leastOf_1_6_4 : zCt := (184, [.inr (.inr (36, 0)), .inl (2147483652, 2147483652)], [(606209, (2147483649, 2147483649)), (606210, (2147483654, 2147483654))], [], [.inl (some (.inl (2147483651, 2147483651)), [])], 4)
theorem hct_leastOf_1_6_4 : z_ctH zTb ct_leastOf_1_6_4 := hz_leastOf (k := 1) (o := 6) (a := 4) (L := 3) (by decide) (by decide) (by decide +kernel)
def ct_leastOf_1_6_5 : zCt := (184, [.inr (.inr (36, 0)), .inl (2147483653, 2147483653)], [(606209, (2147483649, 2147483649)), (606210, (2147483654, 2147483654))], [], [.inl (some (.inl (2147483651, 2147483651)), [])], 4)
theorem hct_leastOf_1_6_5 : z_ctH zTb ct_leastOf_1_6_5 := hz_leastOf (k := 1) (o := 6) (a := 5) (L := 3) (by decide) (by decide) (by decide +kernel)
def ct_leastOf_1_8_0 : zCt := (184, [.inr (.inr (36, 0)), .inl (2147483648, 2147483648)], [(606209, (2147483649, 2147483649)), (606210, (2147483656, 2147483656))], [], [.inl (some (.inl (2147483648, 2147483648)), [])], 4)
theorem hct_leastOf_1_8_0 : z_ctH zTb ct_leastOf_1_8_0 := hz_leastOf (k := 1) (o := 8) (a := 0) (L := 0) (by decide) (by decide) (by decide +kernel)
def ct_leastOf_1_8_1 : zCt := (184, [.inr (.inr (36, 0)), .inl (2147483649, 2147483649)], [(606209, (2147483649, 2147483649)), (606210, (2147483656, 2147483656))], [], [.inl (some (.inl (2147483649, 2147483649)), [])], 4)
theorem hct_leastOf_1_8_1 : z_ctH zTb ct_leastOf_1_8_1 := hz_leastOf (k := 1) (o := 8) (a := 1) (L := 1) (by decide) (by decide) (by decide +kernel)
def ct_leastOf_1_8_2 : zCt := (184, [.inr (.inr (36, 0)), .inl (2147483650, 2147483650)], [(606209, (2147483649, 2147483649)), (606210, (2147483656, 2147483656))], [], [.inl (some (.inl (2147483650, 2147483650)), [])], 4)
theorem hct_leastOf_1_8_2 : z_ctH zTb ct_leastOf_1_8_2 := hz_leastOf (k := 1) (o := 8) (a := 2) (L := 2) (by decide) (by decide) (by decide +kernel)
def ct_leastOf_1_8_3 : zCt := (184, [.inr (.inr (36, 0)), .inl (2147483651, 2147483651)], [(606209, (2147483649, 2147483649)), (606210, (2147483656, 2147483656))], [], [.inl (some (.inl (2147483649, 2147483649)), [])], 4)
theorem hct_leastOf_1_8_3 : z_ctH zTb ct_leastOf_1_8_3 := hz_leastOf (k := 1) (o := 8) (a := 3) (L := 1) (by decide) (by decide) (by decide +kernel)
def ct_leastOf_1_8_4 : zCt := (184, [.inr (.inr (36, 0)), .inl (2147483652, 2147483652)], [(606209, (2147483649, 2147483649)), (606210, (2147483656, 2147483656))], [], [.inl (some (.inl (2147483652, 2147483652)), [])], 4)
theorem hct_leastOf_1_8_4 : z_ctH zTb ct_leastOf_1_8_4 := hz_leastOf (k := 1) (o := 8) (a := 4) (L := 4) (by decide) (by decide) (by decide +kernel)
def ct_leastOf_1_8_5 : zCt := (184, [.inr (.inr (36, 0)), .inl (2147483653, 2147483653)], [(606209, (2147483649, 2147483649)), (606210, (2147483656, 2147483656))], [], [.inl (some (.inl (2147483653, 2147483653)), [])], 4)
theorem hct_leastOf_1_8_5 : z_ctH zTb ct_leastOf_1_8_5 := hz_leastOf (k := 1) (o := 8) (a := 5) (L := 5) (by decide) (by decide) (by decide +kernel)
def ct_leastOf_1_8_6 : zCt := (184, [.inr (.inr (36, 0)), .inl (2147483654, 2147483654)], [(606209, (2147483649, 2147483649)), (606210, (2147483656, 2147483656))], [], [.inl (some (.inl (2147483652, 2147483652)), [])], 4)
theorem hct_leastOf_1_8_6 : z_ctH zTb ct_leastOf_1_8_6 := hz_leastOf (k := 1) (o := 8) (a := 6) (L := 4) (by decide) (by decide) (by decide +kernel)
def ct_leastOf_1_8_7 : zCt := (184, [.inr (.inr (36, 0)), .inl (2147483655, 2147483655)], [(606209, (2147483649, 2147483649)), (606210, (2147483656, 2147483656))], [], [.inl (some (.inl (2147483653, 2147483653)), [])], 4)
theorem hct_leastOf_1_8_7 : z_ctH zTb ct_leastOf_1_8_7 := hz_leastOf (k := 1) (o := 8) (a := 7) (L := 5) (by decide) (by decide) (by decide +kernel)
def ct_leastOf_2_8_0 : zCt := (184, [.inr (.inr (36, 0)), .inl (2147483648, 2147483648)], [(606209, (2147483650, 2147483650)), (606210, (2147483656, 2147483656))], [], [.inl (some (.inl (2147483648, 2147483648)), [])], 4)
theorem hct_leastOf_2_8_0 : z_ctH zTb ct_leastOf_2_8_0 := hz_leastOf (k := 2) (o := 8) (a := 0) (L := 0) (by decide) (by decide) (by decide +kernel)
def ct_leastOf_2_8_1 : zCt := (184, [.inr (.inr (36, 0)), .inl (2147483649, 2147483649)], [(606209, (2147483650, 2147483650)), (606210, (2147483656, 2147483656))], [], [.inl (some (.inl (2147483649, 2147483649)), [])], 4)
theorem hct_leastOf_2_8_1 : z_ctH zTb ct_leastOf_2_8_1 := hz_leastOf (k := 2) (o := 8) (a := 1) (L := 1) (by decide) (by decide) (by decide +kernel)
def ct_leastOf_2_8_2 : zCt := (184, [.inr (.inr (36, 0)), .inl (2147483650, 2147483650)], [(606209, (2147483650, 2147483650)), (606210, (2147483656, 2147483656))], [], [.inl (some (.inl (2147483650, 2147483650)), [])], 4)
theorem hct_leastOf_2_8_2 : z_ctH zTb ct_leastOf_2_8_2 := hz_leastOf (k := 2) (o := 8) (a := 2) (L := 2) (by decide) (by decide) (by decide +kernel)
def ct_leastOf_2_8_3 : zCt := (184, [.inr (.inr (36, 0)), .inl (2147483651, 2147483651)], [(606209, (2147483650, 2147483650)), (606210, (2147483656, 2147483656))], [], [.inl (some (.inl (2147483649, 2147483649)), [])], 4)
theorem hct_leastOf_2_8_3 : z_ctH zTb ct_leastOf_2_8_3 := hz_leastOf (k := 2) (o := 8) (a := 3) (L := 1) (by decide) (by decide) (by decide +kernel)
def ct_leastOf_2_8_4 : zCt := (184, [.inr (.inr (36, 0)), .inl (2147483652, 2147483652)], [(606209, (2147483650, 2147483650)), (606210, (2147483656, 2147483656))], [], [.inl (some (.inl (2147483652, 2147483652)), [])], 4)
theorem hct_leastOf_2_8_4 : z_ctH zTb ct_leastOf_2_8_4 := hz_leastOf (k := 2) (o := 8) (a := 4) (L := 4) (by decide) (by decide) (by decide +kernel)
def ct_leastOf_2_8_5 : zCt := (184, [.inr (.inr (36, 0)), .inl (2147483653, 2147483653)], [(606209, (2147483650, 2147483650)), (606210, (2147483656, 2147483656))], [], [.inl (some (.inl (2147483653, 2147483653)), [])], 4)
theorem hct_leastOf_2_8_5 : z_ctH zTb ct_leastOf_2_8_5 := hz_leastOf (k := 2) (o := 8) (a := 5) (L := 5) (by decide) (by decide) (by decide +kernel)
def ct_leastOf_2_8_6 : zCt := (184, [.inr (.inr (36, 0)), .inl (2147483654, 2147483654)], [(606209, (2147483650, 2147483650)), (606210, (2147483656, 2147483656))], [], [.inl (some (.inl (2147483652, 2147483652)), [])], 4)
theorem hct_leastOf_2_8_6 : z_ctH zTb ct_leastOf_2_8_6 := hz_leastOf (k := 2) (o := 8) (a := 6) (L := 4) (by decide) (by decide) (by decide +kernel)
def ct_leastOf_2_8_7 : zCt := (184, [.inr (.inr (36, 0)), .inl (2147483655, 2147483655)], [(606209, (2147483650, 2147483650)), (606210, (2147483656, 2147483656))], [], [.inl (some (.inl (2147483653, 2147483653)), [])], 4)
theorem hct_leastOf_2_8_7 : z_ctH zTb ct_leastOf_2_8_7 := hz_leastOf (k := 2) (o := 8) (a := 7) (L := 5) (by decide) (by decide) (by decide +kernel)
def ct_leastOf_3_2_0 : zCt := (184, [.inr (.inr (36, 0)), .inl (2147483648, 2147483648)], [(606209, (2147483651, 2147483651)), (606210, (2147483650, 2147483650))], [], [.inl (some (.inl (2147483648, 2147483648)), [])], 4)
theorem hct_leastOf_3_2_0 : z_ctH zTb ct_leastOf_3_2_0 := hz_leastOf (k := 3) (o := 2) (a := 0) (L := 0) (by decide) (by decide) (by decide +kernel)
def ct_leastOf_3_2_1 : zCt := (184, [.inr (.inr (36, 0)), .inl (2147483649, 2147483649)], [(606209, (2147483651, 2147483651)), (606210, (2147483650, 2147483650))], [], [.inl (some (.inl (2147483649, 2147483649)), [])], 4)
theorem hct_leastOf_3_2_1 : z_ctH zTb ct_leastOf_3_2_1 := hz_leastOf (k := 3) (o := 2) (a := 1) (L := 1) (by decide) (by decide) (by decide +kernel)
def ct_leastOf_3_4_0 : zCt := (184, [.inr (.inr (36, 0)), .inl (2147483648, 2147483648)], [(606209, (2147483651, 2147483651)), (606210, (2147483652, 2147483652))], [], [.inl (some (.inl (2147483648, 2147483648)), [])], 4)
theorem hct_leastOf_3_4_0 : z_ctH zTb ct_leastOf_3_4_0 := hz_leastOf (k := 3) (o := 4) (a := 0) (L := 0) (by decide) (by decide) (by decide +kernel)
def ct_leastOf_3_4_1 : zCt := (184, [.inr (.inr (36, 0)), .inl (2147483649, 2147483649)], [(606209, (2147483651, 2147483651)), (606210, (2147483652, 2147483652))], [], [.inl (some (.inl (2147483649, 2147483649)), [])], 4)
theorem hct_leastOf_3_4_1 : z_ctH zTb ct_leastOf_3_4_1 := hz_leastOf (k := 3) (o := 4) (a := 1) (L := 1) (by decide) (by decide) (by decide +kernel)
def ct_leastOf_3_4_2 : zCt := (184, [.inr (.inr (36, 0)), .inl (2147483650, 2147483650)], [(606209, (2147483651, 2147483651)), (606210, (2147483652, 2147483652))], [], [.inl (some (.inl (2147483650, 2147483650)), [])], 4)
theorem hct_leastOf_3_4_2 : z_ctH zTb ct_leastOf_3_4_2 := hz_leastOf (k := 3) (o := 4) (a := 2) (L := 2) (by decide) (by decide) (by decide +kernel)
def ct_leastOf_3_4_3 : zCt := (184, [.inr (.inr (36, 0)), .inl (2147483651, 2147483651)], [(606209, (2147483651, 2147483651)), (606210, (2147483652, 2147483652))], [], [.inl (some (.inl (2147483651, 2147483651)), [])], 4)
theorem hct_leastOf_3_4_3 : z_ctH zTb ct_leastOf_3_4_3 := hz_leastOf (k := 3) (o := 4) (a := 3) (L := 3) (by decide) (by decide) (by decide +kernel)
def ct_leastOf_3_8_0 : zCt := (184, [.inr (.inr (36, 0)), .inl (2147483648, 2147483648)], [(606209, (2147483651, 2147483651)), (606210, (2147483656, 2147483656))], [], [.inl (some (.inl (2147483648, 2147483648)), [])], 4)
theorem hct_leastOf_3_8_0 : z_ctH zTb ct_leastOf_3_8_0 := hz_leastOf (k := 3) (o := 8) (a := 0) (L := 0) (by decide) (by decide) (by decide +kernel)
def ct_leastOf_3_8_1 : zCt := (184, [.inr (.inr (36, 0)), .inl (2147483649, 2147483649)], [(606209, (2147483651, 2147483651)), (606210, (2147483656, 2147483656))], [], [.inl (some (.inl (2147483649, 2147483649)), [])], 4)
theorem hct_leastOf_3_8_1 : z_ctH zTb ct_leastOf_3_8_1 := hz_leastOf (k := 3) (o := 8) (a := 1) (L := 1) (by decide) (by decide) (by decide +kernel)
def ct_leastOf_3_8_2 : zCt := (184, [.inr (.inr (36, 0)), .inl (2147483650, 2147483650)], [(606209, (2147483651, 2147483651)), (606210, (2147483656, 2147483656))], [], [.inl (some (.inl (2147483650, 2147483650)), [])], 4)
theorem hct_leastOf_3_8_2 : z_ctH zTb ct_leastOf_3_8_2 := hz_leastOf (k := 3) (o := 8) (a := 2) (L := 2) (by decide) (by decide) (by decide +kernel)
def ct_leastOf_3_8_3 : zCt := (184, [.inr (.inr (36, 0)), .inl (2147483651, 2147483651)], [(606209, (2147483651, 2147483651)), (606210, (2147483656, 2147483656))], [], [.inl (some (.inl (2147483651, 2147483651)), [])], 4)
theorem hct_leastOf_3_8_3 : z_ctH zTb ct_leastOf_3_8_3 := hz_leastOf (k := 3) (o := 8) (a := 3) (L := 3) (by decide) (by decide) (by decide +kernel)
def ct_leastOf_3_8_4 : zCt := (184, [.inr (.inr (36, 0)), .inl (2147483652, 2147483652)], [(606209, (2147483651, 2147483651)), (606210, (2147483656, 2147483656))], [], [.inl (some (.inl (2147483652, 2147483652)), [])], 4)
theorem hct_leastOf_3_8_4 : z_ctH zTb ct_leastOf_3_8_4 := hz_leastOf (k := 3) (o := 8) (a := 4) (L := 4) (by decide) (by decide) (by decide +kernel)
def ct_leastOf_3_8_5 : zCt := (184, [.inr (.inr (36, 0)), .inl (2147483653, 2147483653)], [(606209, (2147483651, 2147483651)), (606210, (2147483656, 2147483656))], [], [.inl (some (.inl (2147483653, 2147483653)), [])], 4)
theorem hct_leastOf_3_8_5 : z_ctH zTb ct_leastOf_3_8_5 := hz_leastOf (k := 3) (o := 8) (a := 5) (L := 5) (by decide) (by decide) (by decide +kernel)
def ct_leastOf_3_8_6 : zCt := (184, [.inr (.inr (36, 0)), .inl (2147483654, 2147483654)], [(606209, (2147483651, 2147483651)), (606210, (2147483656, 2147483656))], [], [.inl (some (.inl (2147483654, 2147483654)), [])], 4)
theorem hct_leastOf_3_8_6 : z_ctH zTb ct_leastOf_3_8_6 := hz_leastOf (k := 3) (o := 8) (a := 6) (L := 6) (by decide) (by decide) (by decide +kernel)
def ct_leastOf_3_8_7 : zCt := (184, [.inr (.inr (36, 0)), .inl (2147483655, 2147483655)], [(606209, (2147483651, 2147483651)), (606210, (2147483656, 2147483656))], [], [.inl (some (.inl (2147483655, 2147483655)), [])], 4)
theorem hct_leastOf_3_8_7 : z_ctH zTb ct_leastOf_3_8_7 := hz_leastOf (k := 3) (o := 8) (a := 7) (L := 7) (by decide) (by decide) (by decide +kernel)
def ct_kins_0_2 : zCt := (186, [.inr (.inr (36, 0))], [(606209, (2147483648, 2147483648)), (606210, (2147483650, 2147483650))], [], [.inl (some (.inl (2147483650, 2147483650)), [])], 5)
theorem hct_kins_0_2 : z_ctH zTb ct_kins_0_2 := sorry
def ct_kinOf_0_2_0 : zCt := (185, [.inr (.inr (36, 0)), .inl (2147483648, 2147483648)], [(606209, (2147483648, 2147483648)), (606210, (2147483650, 2147483650))], [], [.inl (some (.inl (2147483648, 2147483648)), [])], 5)
theorem hct_kinOf_0_2_0 : z_ctH zTb ct_kinOf_0_2_0 := sorry
def ct_kinOf_0_2_1 : zCt := (185, [.inr (.inr (36, 0)), .inl (2147483649, 2147483649)], [(606209, (2147483648, 2147483648)), (606210, (2147483650, 2147483650))], [], [.inl (some (.inl (2147483649, 2147483649)), [])], 5)
theorem hct_kinOf_0_2_1 : z_ctH zTb ct_kinOf_0_2_1 := sorry
def ct_kins_0_3 : zCt := (186, [.inr (.inr (36, 0))], [(606209, (2147483648, 2147483648)), (606210, (2147483651, 2147483651))], [], [.inl (some (.inl (2147483651, 2147483651)), [])], 5)
theorem hct_kins_0_3 : z_ctH zTb ct_kins_0_3 := sorry
def ct_kinOf_0_3_0 : zCt := (185, [.inr (.inr (36, 0)), .inl (2147483648, 2147483648)], [(606209, (2147483648, 2147483648)), (606210, (2147483651, 2147483651))], [], [.inl (some (.inl (2147483648, 2147483648)), [])], 5)
theorem hct_kinOf_0_3_0 : z_ctH zTb ct_kinOf_0_3_0 := sorry
def ct_kinOf_0_3_1 : zCt := (185, [.inr (.inr (36, 0)), .inl (2147483649, 2147483649)], [(606209, (2147483648, 2147483648)), (606210, (2147483651, 2147483651))], [], [.inl (some (.inl (2147483649, 2147483649)), [])], 5)
theorem hct_kinOf_0_3_1 : z_ctH zTb ct_kinOf_0_3_1 := sorry
def ct_kinOf_0_3_2 : zCt := (185, [.inr (.inr (36, 0)), .inl (2147483650, 2147483650)], [(606209, (2147483648, 2147483648)), (606210, (2147483651, 2147483651))], [], [.inl (some (.inl (2147483650, 2147483650)), [])], 5)
theorem hct_kinOf_0_3_2 : z_ctH zTb ct_kinOf_0_3_2 := sorry
def ct_kins_0_4 : zCt := (186, [.inr (.inr (36, 0))], [(606209, (2147483648, 2147483648)), (606210, (2147483652, 2147483652))], [], [.inl (some (.inl (2147483652, 2147483652)), [])], 5)
theorem hct_kins_0_4 : z_ctH zTb ct_kins_0_4 := sorry
def ct_kinOf_0_4_0 : zCt := (185, [.inr (.inr (36, 0)), .inl (2147483648, 2147483648)], [(606209, (2147483648, 2147483648)), (606210, (2147483652, 2147483652))], [], [.inl (some (.inl (2147483648, 2147483648)), [])], 5)
theorem hct_kinOf_0_4_0 : z_ctH zTb ct_kinOf_0_4_0 := sorry
def ct_kinOf_0_4_1 : zCt := (185, [.inr (.inr (36, 0)), .inl (2147483649, 2147483649)], [(606209, (2147483648, 2147483648)), (606210, (2147483652, 2147483652))], [], [.inl (some (.inl (2147483649, 2147483649)), [])], 5)
theorem hct_kinOf_0_4_1 : z_ctH zTb ct_kinOf_0_4_1 := sorry
def ct_kinOf_0_4_2 : zCt := (185, [.inr (.inr (36, 0)), .inl (2147483650, 2147483650)], [(606209, (2147483648, 2147483648)), (606210, (2147483652, 2147483652))], [], [.inl (some (.inl (2147483650, 2147483650)), [])], 5)
theorem hct_kinOf_0_4_2 : z_ctH zTb ct_kinOf_0_4_2 := sorry
def ct_kinOf_0_4_3 : zCt := (185, [.inr (.inr (36, 0)), .inl (2147483651, 2147483651)], [(606209, (2147483648, 2147483648)), (606210, (2147483652, 2147483652))], [], [.inl (some (.inl (2147483651, 2147483651)), [])], 5)
theorem hct_kinOf_0_4_3 : z_ctH zTb ct_kinOf_0_4_3 := sorry
def ct_kins_0_5 : zCt := (186, [.inr (.inr (36, 0))], [(606209, (2147483648, 2147483648)), (606210, (2147483653, 2147483653))], [], [.inl (some (.inl (2147483653, 2147483653)), [])], 5)
theorem hct_kins_0_5 : z_ctH zTb ct_kins_0_5 := sorry
def ct_kinOf_0_5_0 : zCt := (185, [.inr (.inr (36, 0)), .inl (2147483648, 2147483648)], [(606209, (2147483648, 2147483648)), (606210, (2147483653, 2147483653))], [], [.inl (some (.inl (2147483648, 2147483648)), [])], 5)
theorem hct_kinOf_0_5_0 : z_ctH zTb ct_kinOf_0_5_0 := sorry
def ct_kinOf_0_5_1 : zCt := (185, [.inr (.inr (36, 0)), .inl (2147483649, 2147483649)], [(606209, (2147483648, 2147483648)), (606210, (2147483653, 2147483653))], [], [.inl (some (.inl (2147483649, 2147483649)), [])], 5)
theorem hct_kinOf_0_5_1 : z_ctH zTb ct_kinOf_0_5_1 := sorry
def ct_kinOf_0_5_2 : zCt := (185, [.inr (.inr (36, 0)), .inl (2147483650, 2147483650)], [(606209, (2147483648, 2147483648)), (606210, (2147483653, 2147483653))], [], [.inl (some (.inl (2147483650, 2147483650)), [])], 5)
theorem hct_kinOf_0_5_2 : z_ctH zTb ct_kinOf_0_5_2 := sorry
def ct_kinOf_0_5_3 : zCt := (185, [.inr (.inr (36, 0)), .inl (2147483651, 2147483651)], [(606209, (2147483648, 2147483648)), (606210, (2147483653, 2147483653))], [], [.inl (some (.inl (2147483651, 2147483651)), [])], 5)
theorem hct_kinOf_0_5_3 : z_ctH zTb ct_kinOf_0_5_3 := sorry
def ct_kinOf_0_5_4 : zCt := (185, [.inr (.inr (36, 0)), .inl (2147483652, 2147483652)], [(606209, (2147483648, 2147483648)), (606210, (2147483653, 2147483653))], [], [.inl (some (.inl (2147483652, 2147483652)), [])], 5)
theorem hct_kinOf_0_5_4 : z_ctH zTb ct_kinOf_0_5_4 := sorry
def ct_kins_0_6 : zCt := (186, [.inr (.inr (36, 0))], [(606209, (2147483648, 2147483648)), (606210, (2147483654, 2147483654))], [], [.inl (some (.inl (2147483654, 2147483654)), [])], 5)
theorem hct_kins_0_6 : z_ctH zTb ct_kins_0_6 := sorry
def ct_kinOf_0_6_0 : zCt := (185, [.inr (.inr (36, 0)), .inl (2147483648, 2147483648)], [(606209, (2147483648, 2147483648)), (606210, (2147483654, 2147483654))], [], [.inl (some (.inl (2147483648, 2147483648)), [])], 5)
theorem hct_kinOf_0_6_0 : z_ctH zTb ct_kinOf_0_6_0 := sorry
def ct_kinOf_0_6_1 : zCt := (185, [.inr (.inr (36, 0)), .inl (2147483649, 2147483649)], [(606209, (2147483648, 2147483648)), (606210, (2147483654, 2147483654))], [], [.inl (some (.inl (2147483649, 2147483649)), [])], 5)
theorem hct_kinOf_0_6_1 : z_ctH zTb ct_kinOf_0_6_1 := sorry
def ct_kinOf_0_6_2 : zCt := (185, [.inr (.inr (36, 0)), .inl (2147483650, 2147483650)], [(606209, (2147483648, 2147483648)), (606210, (2147483654, 2147483654))], [], [.inl (some (.inl (2147483650, 2147483650)), [])], 5)
theorem hct_kinOf_0_6_2 : z_ctH zTb ct_kinOf_0_6_2 := sorry
def ct_kinOf_0_6_3 : zCt := (185, [.inr (.inr (36, 0)), .inl (2147483651, 2147483651)], [(606209, (2147483648, 2147483648)), (606210, (2147483654, 2147483654))], [], [.inl (some (.inl (2147483651, 2147483651)), [])], 5)
theorem hct_kinOf_0_6_3 : z_ctH zTb ct_kinOf_0_6_3 := sorry
def ct_kinOf_0_6_4 : zCt := (185, [.inr (.inr (36, 0)), .inl (2147483652, 2147483652)], [(606209, (2147483648, 2147483648)), (606210, (2147483654, 2147483654))], [], [.inl (some (.inl (2147483652, 2147483652)), [])], 5)
theorem hct_kinOf_0_6_4 : z_ctH zTb ct_kinOf_0_6_4 := sorry
def ct_kinOf_0_6_5 : zCt := (185, [.inr (.inr (36, 0)), .inl (2147483653, 2147483653)], [(606209, (2147483648, 2147483648)), (606210, (2147483654, 2147483654))], [], [.inl (some (.inl (2147483653, 2147483653)), [])], 5)
theorem hct_kinOf_0_6_5 : z_ctH zTb ct_kinOf_0_6_5 := sorry
def ct_kins_0_7 : zCt := (186, [.inr (.inr (36, 0))], [(606209, (2147483648, 2147483648)), (606210, (2147483655, 2147483655))], [], [.inl (some (.inl (2147483655, 2147483655)), [])], 5)
theorem hct_kins_0_7 : z_ctH zTb ct_kins_0_7 := sorry
def ct_kinOf_0_7_0 : zCt := (185, [.inr (.inr (36, 0)), .inl (2147483648, 2147483648)], [(606209, (2147483648, 2147483648)), (606210, (2147483655, 2147483655))], [], [.inl (some (.inl (2147483648, 2147483648)), [])], 5)
theorem hct_kinOf_0_7_0 : z_ctH zTb ct_kinOf_0_7_0 := sorry
def ct_kinOf_0_7_1 : zCt := (185, [.inr (.inr (36, 0)), .inl (2147483649, 2147483649)], [(606209, (2147483648, 2147483648)), (606210, (2147483655, 2147483655))], [], [.inl (some (.inl (2147483649, 2147483649)), [])], 5)
theorem hct_kinOf_0_7_1 : z_ctH zTb ct_kinOf_0_7_1 := sorry
def ct_kinOf_0_7_2 : zCt := (185, [.inr (.inr (36, 0)), .inl (2147483650, 2147483650)], [(606209, (2147483648, 2147483648)), (606210, (2147483655, 2147483655))], [], [.inl (some (.inl (2147483650, 2147483650)), [])], 5)
theorem hct_kinOf_0_7_2 : z_ctH zTb ct_kinOf_0_7_2 := sorry
def ct_kinOf_0_7_3 : zCt := (185, [.inr (.inr (36, 0)), .inl (2147483651, 2147483651)], [(606209, (2147483648, 2147483648)), (606210, (2147483655, 2147483655))], [], [.inl (some (.inl (2147483651, 2147483651)), [])], 5)
theorem hct_kinOf_0_7_3 : z_ctH zTb ct_kinOf_0_7_3 := sorry
def ct_kinOf_0_7_4 : zCt := (185, [.inr (.inr (36, 0)), .inl (2147483652, 2147483652)], [(606209, (2147483648, 2147483648)), (606210, (2147483655, 2147483655))], [], [.inl (some (.inl (2147483652, 2147483652)), [])], 5)
theorem hct_kinOf_0_7_4 : z_ctH zTb ct_kinOf_0_7_4 := sorry
def ct_kinOf_0_7_5 : zCt := (185, [.inr (.inr (36, 0)), .inl (2147483653, 2147483653)], [(606209, (2147483648, 2147483648)), (606210, (2147483655, 2147483655))], [], [.inl (some (.inl (2147483653, 2147483653)), [])], 5)
theorem hct_kinOf_0_7_5 : z_ctH zTb ct_kinOf_0_7_5 := sorry
def ct_kinOf_0_7_6 : zCt := (185, [.inr (.inr (36, 0)), .inl (2147483654, 2147483654)], [(606209, (2147483648, 2147483648)), (606210, (2147483655, 2147483655))], [], [.inl (some (.inl (2147483654, 2147483654)), [])], 5)
theorem hct_kinOf_0_7_6 : z_ctH zTb ct_kinOf_0_7_6 := sorry
def ct_kins_0_8 : zCt := (186, [.inr (.inr (36, 0))], [(606209, (2147483648, 2147483648)), (606210, (2147483656, 2147483656))], [], [.inl (some (.inl (2147483656, 2147483656)), [])], 5)
theorem hct_kins_0_8 : z_ctH zTb ct_kins_0_8 := sorry
def ct_kinOf_0_8_0 : zCt := (185, [.inr (.inr (36, 0)), .inl (2147483648, 2147483648)], [(606209, (2147483648, 2147483648)), (606210, (2147483656, 2147483656))], [], [.inl (some (.inl (2147483648, 2147483648)), [])], 5)
theorem hct_kinOf_0_8_0 : z_ctH zTb ct_kinOf_0_8_0 := sorry
def ct_kinOf_0_8_1 : zCt := (185, [.inr (.inr (36, 0)), .inl (2147483649, 2147483649)], [(606209, (2147483648, 2147483648)), (606210, (2147483656, 2147483656))], [], [.inl (some (.inl (2147483649, 2147483649)), [])], 5)
theorem hct_kinOf_0_8_1 : z_ctH zTb ct_kinOf_0_8_1 := sorry
def ct_kinOf_0_8_2 : zCt := (185, [.inr (.inr (36, 0)), .inl (2147483650, 2147483650)], [(606209, (2147483648, 2147483648)), (606210, (2147483656, 2147483656))], [], [.inl (some (.inl (2147483650, 2147483650)), [])], 5)
theorem hct_kinOf_0_8_2 : z_ctH zTb ct_kinOf_0_8_2 := sorry
def ct_kinOf_0_8_3 : zCt := (185, [.inr (.inr (36, 0)), .inl (2147483651, 2147483651)], [(606209, (2147483648, 2147483648)), (606210, (2147483656, 2147483656))], [], [.inl (some (.inl (2147483651, 2147483651)), [])], 5)
theorem hct_kinOf_0_8_3 : z_ctH zTb ct_kinOf_0_8_3 := sorry
def ct_kinOf_0_8_4 : zCt := (185, [.inr (.inr (36, 0)), .inl (2147483652, 2147483652)], [(606209, (2147483648, 2147483648)), (606210, (2147483656, 2147483656))], [], [.inl (some (.inl (2147483652, 2147483652)), [])], 5)
theorem hct_kinOf_0_8_4 : z_ctH zTb ct_kinOf_0_8_4 := sorry
def ct_kinOf_0_8_5 : zCt := (185, [.inr (.inr (36, 0)), .inl (2147483653, 2147483653)], [(606209, (2147483648, 2147483648)), (606210, (2147483656, 2147483656))], [], [.inl (some (.inl (2147483653, 2147483653)), [])], 5)
theorem hct_kinOf_0_8_5 : z_ctH zTb ct_kinOf_0_8_5 := sorry
def ct_kinOf_0_8_6 : zCt := (185, [.inr (.inr (36, 0)), .inl (2147483654, 2147483654)], [(606209, (2147483648, 2147483648)), (606210, (2147483656, 2147483656))], [], [.inl (some (.inl (2147483654, 2147483654)), [])], 5)
theorem hct_kinOf_0_8_6 : z_ctH zTb ct_kinOf_0_8_6 := sorry
def ct_kinOf_0_8_7 : zCt := (185, [.inr (.inr (36, 0)), .inl (2147483655, 2147483655)], [(606209, (2147483648, 2147483648)), (606210, (2147483656, 2147483656))], [], [.inl (some (.inl (2147483655, 2147483655)), [])], 5)
theorem hct_kinOf_0_8_7 : z_ctH zTb ct_kinOf_0_8_7 := sorry
def ct_kins_1_4 : zCt := (186, [.inr (.inr (36, 0))], [(606209, (2147483649, 2147483649)), (606210, (2147483652, 2147483652))], [], [.inl (some (.inl (2147483652, 2147483652)), [])], 5)
theorem hct_kins_1_4 : z_ctH zTb ct_kins_1_4 := sorry
def ct_kinOf_1_4_0 : zCt := (185, [.inr (.inr (36, 0)), .inl (2147483648, 2147483648)], [(606209, (2147483649, 2147483649)), (606210, (2147483652, 2147483652))], [], [.inl (some (.inl (2147483648, 2147483648)), [])], 5)
theorem hct_kinOf_1_4_0 : z_ctH zTb ct_kinOf_1_4_0 := sorry
def ct_kinOf_1_4_1 : zCt := (185, [.inr (.inr (36, 0)), .inl (2147483649, 2147483649)], [(606209, (2147483649, 2147483649)), (606210, (2147483652, 2147483652))], [], [.inl (some (.inl (2147483649, 2147483649)), [])], 5)
theorem hct_kinOf_1_4_1 : z_ctH zTb ct_kinOf_1_4_1 := sorry
def ct_kinOf_1_4_2 : zCt := (185, [.inr (.inr (36, 0)), .inl (2147483650, 2147483650)], [(606209, (2147483649, 2147483649)), (606210, (2147483652, 2147483652))], [], [.inl (some (.inl (2147483650, 2147483650)), [])], 5)
theorem hct_kinOf_1_4_2 : z_ctH zTb ct_kinOf_1_4_2 := sorry
def ct_kinOf_1_4_3 : zCt := (185, [.inr (.inr (36, 0)), .inl (2147483651, 2147483651)], [(606209, (2147483649, 2147483649)), (606210, (2147483652, 2147483652))], [], [.inl (some (.inl (2147483651, 2147483651)), [])], 5)
theorem hct_kinOf_1_4_3 : z_ctH zTb ct_kinOf_1_4_3 := sorry
def ct_kins_1_6 : zCt := (186, [.inr (.inr (36, 0))], [(606209, (2147483649, 2147483649)), (606210, (2147483654, 2147483654))], [], [.inl (some (.inl (2147483651, 2147483651)), [])], 5)
theorem hct_kins_1_6 : z_ctH zTb ct_kins_1_6 := sorry
def ct_kinOf_1_6_0 : zCt := (185, [.inr (.inr (36, 0)), .inl (2147483648, 2147483648)], [(606209, (2147483649, 2147483649)), (606210, (2147483654, 2147483654))], [], [.inl (some (.inl (2147483648, 2147483648)), [])], 5)
theorem hct_kinOf_1_6_0 : z_ctH zTb ct_kinOf_1_6_0 := sorry
def ct_kinOf_1_6_1 : zCt := (185, [.inr (.inr (36, 0)), .inl (2147483649, 2147483649)], [(606209, (2147483649, 2147483649)), (606210, (2147483654, 2147483654))], [], [.inl (some (.inl (2147483649, 2147483649)), [])], 5)
theorem hct_kinOf_1_6_1 : z_ctH zTb ct_kinOf_1_6_1 := sorry
def ct_kinOf_1_6_2 : zCt := (185, [.inr (.inr (36, 0)), .inl (2147483650, 2147483650)], [(606209, (2147483649, 2147483649)), (606210, (2147483654, 2147483654))], [], [.inl (some (.inl (2147483649, 2147483649)), [])], 5)
theorem hct_kinOf_1_6_2 : z_ctH zTb ct_kinOf_1_6_2 := sorry
def ct_kinOf_1_6_3 : zCt := (185, [.inr (.inr (36, 0)), .inl (2147483651, 2147483651)], [(606209, (2147483649, 2147483649)), (606210, (2147483654, 2147483654))], [], [.inl (some (.inl (2147483650, 2147483650)), [])], 5)
theorem hct_kinOf_1_6_3 : z_ctH zTb ct_kinOf_1_6_3 := sorry
def ct_kinOf_1_6_4 : zCt := (185, [.inr (.inr (36, 0)), .inl (2147483652, 2147483652)], [(606209, (2147483649, 2147483649)), (606210, (2147483654, 2147483654))], [], [.inl (some (.inl (2147483650, 2147483650)), [])], 5)
theorem hct_kinOf_1_6_4 : z_ctH zTb ct_kinOf_1_6_4 := sorry
def ct_kinOf_1_6_5 : zCt := (185, [.inr (.inr (36, 0)), .inl (2147483653, 2147483653)], [(606209, (2147483649, 2147483649)), (606210, (2147483654, 2147483654))], [], [.inl (some (.inl (2147483650, 2147483650)), [])], 5)
theorem hct_kinOf_1_6_5 : z_ctH zTb ct_kinOf_1_6_5 := sorry
def ct_kins_1_8 : zCt := (186, [.inr (.inr (36, 0))], [(606209, (2147483649, 2147483649)), (606210, (2147483656, 2147483656))], [], [.inl (some (.inl (2147483653, 2147483653)), [])], 5)
theorem hct_kins_1_8 : z_ctH zTb ct_kins_1_8 := sorry
def ct_kinOf_1_8_0 : zCt := (185, [.inr (.inr (36, 0)), .inl (2147483648, 2147483648)], [(606209, (2147483649, 2147483649)), (606210, (2147483656, 2147483656))], [], [.inl (some (.inl (2147483648, 2147483648)), [])], 5)
theorem hct_kinOf_1_8_0 : z_ctH zTb ct_kinOf_1_8_0 := sorry
def ct_kinOf_1_8_1 : zCt := (185, [.inr (.inr (36, 0)), .inl (2147483649, 2147483649)], [(606209, (2147483649, 2147483649)), (606210, (2147483656, 2147483656))], [], [.inl (some (.inl (2147483649, 2147483649)), [])], 5)
theorem hct_kinOf_1_8_1 : z_ctH zTb ct_kinOf_1_8_1 := sorry
def ct_kinOf_1_8_2 : zCt := (185, [.inr (.inr (36, 0)), .inl (2147483650, 2147483650)], [(606209, (2147483649, 2147483649)), (606210, (2147483656, 2147483656))], [], [.inl (some (.inl (2147483650, 2147483650)), [])], 5)
theorem hct_kinOf_1_8_2 : z_ctH zTb ct_kinOf_1_8_2 := sorry
def ct_kinOf_1_8_3 : zCt := (185, [.inr (.inr (36, 0)), .inl (2147483651, 2147483651)], [(606209, (2147483649, 2147483649)), (606210, (2147483656, 2147483656))], [], [.inl (some (.inl (2147483649, 2147483649)), [])], 5)
theorem hct_kinOf_1_8_3 : z_ctH zTb ct_kinOf_1_8_3 := sorry
def ct_kinOf_1_8_4 : zCt := (185, [.inr (.inr (36, 0)), .inl (2147483652, 2147483652)], [(606209, (2147483649, 2147483649)), (606210, (2147483656, 2147483656))], [], [.inl (some (.inl (2147483651, 2147483651)), [])], 5)
theorem hct_kinOf_1_8_4 : z_ctH zTb ct_kinOf_1_8_4 := sorry
def ct_kinOf_1_8_5 : zCt := (185, [.inr (.inr (36, 0)), .inl (2147483653, 2147483653)], [(606209, (2147483649, 2147483649)), (606210, (2147483656, 2147483656))], [], [.inl (some (.inl (2147483652, 2147483652)), [])], 5)
theorem hct_kinOf_1_8_5 : z_ctH zTb ct_kinOf_1_8_5 := sorry
def ct_kinOf_1_8_6 : zCt := (185, [.inr (.inr (36, 0)), .inl (2147483654, 2147483654)], [(606209, (2147483649, 2147483649)), (606210, (2147483656, 2147483656))], [], [.inl (some (.inl (2147483651, 2147483651)), [])], 5)
theorem hct_kinOf_1_8_6 : z_ctH zTb ct_kinOf_1_8_6 := sorry
def ct_kinOf_1_8_7 : zCt := (185, [.inr (.inr (36, 0)), .inl (2147483655, 2147483655)], [(606209, (2147483649, 2147483649)), (606210, (2147483656, 2147483656))], [], [.inl (some (.inl (2147483652, 2147483652)), [])], 5)
theorem hct_kinOf_1_8_7 : z_ctH zTb ct_kinOf_1_8_7 := sorry
def ct_kins_2_8 : zCt := (186, [.inr (.inr (36, 0))], [(606209, (2147483650, 2147483650)), (606210, (2147483656, 2147483656))], [], [.inl (some (.inl (2147483653, 2147483653)), [])], 5)
theorem hct_kins_2_8 : z_ctH zTb ct_kins_2_8 := sorry
def ct_kinOf_2_8_0 : zCt := (185, [.inr (.inr (36, 0)), .inl (2147483648, 2147483648)], [(606209, (2147483650, 2147483650)), (606210, (2147483656, 2147483656))], [], [.inl (some (.inl (2147483648, 2147483648)), [])], 5)
theorem hct_kinOf_2_8_0 : z_ctH zTb ct_kinOf_2_8_0 := sorry
def ct_kinOf_2_8_1 : zCt := (185, [.inr (.inr (36, 0)), .inl (2147483649, 2147483649)], [(606209, (2147483650, 2147483650)), (606210, (2147483656, 2147483656))], [], [.inl (some (.inl (2147483649, 2147483649)), [])], 5)
theorem hct_kinOf_2_8_1 : z_ctH zTb ct_kinOf_2_8_1 := sorry
def ct_kinOf_2_8_2 : zCt := (185, [.inr (.inr (36, 0)), .inl (2147483650, 2147483650)], [(606209, (2147483650, 2147483650)), (606210, (2147483656, 2147483656))], [], [.inl (some (.inl (2147483650, 2147483650)), [])], 5)
theorem hct_kinOf_2_8_2 : z_ctH zTb ct_kinOf_2_8_2 := sorry
def ct_kinOf_2_8_3 : zCt := (185, [.inr (.inr (36, 0)), .inl (2147483651, 2147483651)], [(606209, (2147483650, 2147483650)), (606210, (2147483656, 2147483656))], [], [.inl (some (.inl (2147483649, 2147483649)), [])], 5)
theorem hct_kinOf_2_8_3 : z_ctH zTb ct_kinOf_2_8_3 := sorry
def ct_kinOf_2_8_4 : zCt := (185, [.inr (.inr (36, 0)), .inl (2147483652, 2147483652)], [(606209, (2147483650, 2147483650)), (606210, (2147483656, 2147483656))], [], [.inl (some (.inl (2147483651, 2147483651)), [])], 5)
theorem hct_kinOf_2_8_4 : z_ctH zTb ct_kinOf_2_8_4 := sorry
def ct_kinOf_2_8_5 : zCt := (185, [.inr (.inr (36, 0)), .inl (2147483653, 2147483653)], [(606209, (2147483650, 2147483650)), (606210, (2147483656, 2147483656))], [], [.inl (some (.inl (2147483652, 2147483652)), [])], 5)
theorem hct_kinOf_2_8_5 : z_ctH zTb ct_kinOf_2_8_5 := sorry
def ct_kinOf_2_8_6 : zCt := (185, [.inr (.inr (36, 0)), .inl (2147483654, 2147483654)], [(606209, (2147483650, 2147483650)), (606210, (2147483656, 2147483656))], [], [.inl (some (.inl (2147483651, 2147483651)), [])], 5)
theorem hct_kinOf_2_8_6 : z_ctH zTb ct_kinOf_2_8_6 := sorry
def ct_kinOf_2_8_7 : zCt := (185, [.inr (.inr (36, 0)), .inl (2147483655, 2147483655)], [(606209, (2147483650, 2147483650)), (606210, (2147483656, 2147483656))], [], [.inl (some (.inl (2147483652, 2147483652)), [])], 5)
theorem hct_kinOf_2_8_7 : z_ctH zTb ct_kinOf_2_8_7 := sorry
def ct_kins_3_2 : zCt := (186, [.inr (.inr (36, 0))], [(606209, (2147483651, 2147483651)), (606210, (2147483650, 2147483650))], [], [.inl (some (.inl (2147483650, 2147483650)), [])], 5)
theorem hct_kins_3_2 : z_ctH zTb ct_kins_3_2 := sorry
def ct_kinOf_3_2_0 : zCt := (185, [.inr (.inr (36, 0)), .inl (2147483648, 2147483648)], [(606209, (2147483651, 2147483651)), (606210, (2147483650, 2147483650))], [], [.inl (some (.inl (2147483648, 2147483648)), [])], 5)
theorem hct_kinOf_3_2_0 : z_ctH zTb ct_kinOf_3_2_0 := sorry
def ct_kinOf_3_2_1 : zCt := (185, [.inr (.inr (36, 0)), .inl (2147483649, 2147483649)], [(606209, (2147483651, 2147483651)), (606210, (2147483650, 2147483650))], [], [.inl (some (.inl (2147483649, 2147483649)), [])], 5)
theorem hct_kinOf_3_2_1 : z_ctH zTb ct_kinOf_3_2_1 := sorry
def ct_kins_3_4 : zCt := (186, [.inr (.inr (36, 0))], [(606209, (2147483651, 2147483651)), (606210, (2147483652, 2147483652))], [], [.inl (some (.inl (2147483652, 2147483652)), [])], 5)
theorem hct_kins_3_4 : z_ctH zTb ct_kins_3_4 := sorry
def ct_kinOf_3_4_0 : zCt := (185, [.inr (.inr (36, 0)), .inl (2147483648, 2147483648)], [(606209, (2147483651, 2147483651)), (606210, (2147483652, 2147483652))], [], [.inl (some (.inl (2147483648, 2147483648)), [])], 5)
theorem hct_kinOf_3_4_0 : z_ctH zTb ct_kinOf_3_4_0 := sorry
def ct_kinOf_3_4_1 : zCt := (185, [.inr (.inr (36, 0)), .inl (2147483649, 2147483649)], [(606209, (2147483651, 2147483651)), (606210, (2147483652, 2147483652))], [], [.inl (some (.inl (2147483649, 2147483649)), [])], 5)
theorem hct_kinOf_3_4_1 : z_ctH zTb ct_kinOf_3_4_1 := sorry
def ct_kinOf_3_4_2 : zCt := (185, [.inr (.inr (36, 0)), .inl (2147483650, 2147483650)], [(606209, (2147483651, 2147483651)), (606210, (2147483652, 2147483652))], [], [.inl (some (.inl (2147483650, 2147483650)), [])], 5)
theorem hct_kinOf_3_4_2 : z_ctH zTb ct_kinOf_3_4_2 := sorry
def ct_kinOf_3_4_3 : zCt := (185, [.inr (.inr (36, 0)), .inl (2147483651, 2147483651)], [(606209, (2147483651, 2147483651)), (606210, (2147483652, 2147483652))], [], [.inl (some (.inl (2147483651, 2147483651)), [])], 5)
theorem hct_kinOf_3_4_3 : z_ctH zTb ct_kinOf_3_4_3 := sorry
def ct_kins_3_8 : zCt := (186, [.inr (.inr (36, 0))], [(606209, (2147483651, 2147483651)), (606210, (2147483656, 2147483656))], [], [.inl (some (.inl (2147483656, 2147483656)), [])], 5)
theorem hct_kins_3_8 : z_ctH zTb ct_kins_3_8 := sorry
def ct_kinOf_3_8_0 : zCt := (185, [.inr (.inr (36, 0)), .inl (2147483648, 2147483648)], [(606209, (2147483651, 2147483651)), (606210, (2147483656, 2147483656))], [], [.inl (some (.inl (2147483648, 2147483648)), [])], 5)
theorem hct_kinOf_3_8_0 : z_ctH zTb ct_kinOf_3_8_0 := sorry
def ct_kinOf_3_8_1 : zCt := (185, [.inr (.inr (36, 0)), .inl (2147483649, 2147483649)], [(606209, (2147483651, 2147483651)), (606210, (2147483656, 2147483656))], [], [.inl (some (.inl (2147483649, 2147483649)), [])], 5)
theorem hct_kinOf_3_8_1 : z_ctH zTb ct_kinOf_3_8_1 := sorry
def ct_kinOf_3_8_2 : zCt := (185, [.inr (.inr (36, 0)), .inl (2147483650, 2147483650)], [(606209, (2147483651, 2147483651)), (606210, (2147483656, 2147483656))], [], [.inl (some (.inl (2147483650, 2147483650)), [])], 5)
theorem hct_kinOf_3_8_2 : z_ctH zTb ct_kinOf_3_8_2 := sorry
def ct_kinOf_3_8_3 : zCt := (185, [.inr (.inr (36, 0)), .inl (2147483651, 2147483651)], [(606209, (2147483651, 2147483651)), (606210, (2147483656, 2147483656))], [], [.inl (some (.inl (2147483651, 2147483651)), [])], 5)
theorem hct_kinOf_3_8_3 : z_ctH zTb ct_kinOf_3_8_3 := sorry
def ct_kinOf_3_8_4 : zCt := (185, [.inr (.inr (36, 0)), .inl (2147483652, 2147483652)], [(606209, (2147483651, 2147483651)), (606210, (2147483656, 2147483656))], [], [.inl (some (.inl (2147483652, 2147483652)), [])], 5)
theorem hct_kinOf_3_8_4 : z_ctH zTb ct_kinOf_3_8_4 := sorry
def ct_kinOf_3_8_5 : zCt := (185, [.inr (.inr (36, 0)), .inl (2147483653, 2147483653)], [(606209, (2147483651, 2147483651)), (606210, (2147483656, 2147483656))], [], [.inl (some (.inl (2147483653, 2147483653)), [])], 5)
theorem hct_kinOf_3_8_5 : z_ctH zTb ct_kinOf_3_8_5 := sorry
def ct_kinOf_3_8_6 : zCt := (185, [.inr (.inr (36, 0)), .inl (2147483654, 2147483654)], [(606209, (2147483651, 2147483651)), (606210, (2147483656, 2147483656))], [], [.inl (some (.inl (2147483654, 2147483654)), [])], 5)
theorem hct_kinOf_3_8_6 : z_ctH zTb ct_kinOf_3_8_6 := sorry
def ct_kinOf_3_8_7 : zCt := (185, [.inr (.inr (36, 0)), .inl (2147483655, 2147483655)], [(606209, (2147483651, 2147483651)), (606210, (2147483656, 2147483656))], [], [.inl (some (.inl (2147483655, 2147483655)), [])], 5)
theorem hct_kinOf_3_8_7 : z_ctH zTb ct_kinOf_3_8_7 := sorry
def ct_isTurn : zCt := (189, [.inr (.inr (36, 0)), .inl (0, 4294967295)], [], [], [.inl (some (.inl (2147483648, 2147483649)), [])], 2)
theorem hct_isTurn : z_ctH zTb ct_isTurn := sorry
def ct_by : zCt := (214, [.inr (.inr (36, 0)), .inl (0, 4294967295), .inl (0, 4294967295)], [], [(36, 0, 0)], [.inl (some (.inl (2147483648, 2147483655)), [(589824, (2147483648, 2147483649))])], 4)
theorem hct_by : z_ctH zTb ct_by := sorry
def ct_line : zCt := (216, [.inr (.inr (36, 0)), .inl (0, 4294967295), .inl (0, 4294967295), .inl (2147483648, 2147483649)], [], [(36, 0, 0)], [.inl (some (.inl (2147483648, 2147483655)), [(589824, (2147483648, 2147483649))])], 5)
theorem hct_line : z_ctH zTb ct_line := sorry
def ct_round : zCt := (220, [.inr (.inr (36, 0)), .inl (0, 4294967295), .inl (0, 4294967295)], [], [(36, 0, 0)], [.inl (some (.inl (2147483648, 2147483655)), [(589824, (2147483648, 2147483649))])], 8)
theorem hct_round : z_ctH zTb ct_round := sorry
def ct_turn_0_2 : zCt := (215, [.inr (.inr (36, 0)), .inl (0, 4294967295), .inl (0, 4294967295)], [(606209, (2147483648, 2147483648)), (606210, (2147483650, 2147483650))], [(36, 0, 0)], [.inl (some (.inl (2147483648, 2147483712)), [(589824, (2147483648, 2147483650))])], 8)
theorem hct_turn_0_2 : z_ctH zTb ct_turn_0_2 := sorry
def ct_turn_0_3 : zCt := (215, [.inr (.inr (36, 0)), .inl (0, 4294967295), .inl (0, 4294967295)], [(606209, (2147483648, 2147483648)), (606210, (2147483651, 2147483651))], [(36, 0, 0)], [.inl (some (.inl (2147483648, 2147483712)), [(589824, (2147483648, 2147483650))])], 8)
theorem hct_turn_0_3 : z_ctH zTb ct_turn_0_3 := sorry
def ct_turn_0_4 : zCt := (215, [.inr (.inr (36, 0)), .inl (0, 4294967295), .inl (0, 4294967295)], [(606209, (2147483648, 2147483648)), (606210, (2147483652, 2147483652))], [(36, 0, 0)], [.inl (some (.inl (2147483648, 2147483712)), [(589824, (2147483648, 2147483650))])], 8)
theorem hct_turn_0_4 : z_ctH zTb ct_turn_0_4 := sorry
def ct_turn_0_5 : zCt := (215, [.inr (.inr (36, 0)), .inl (0, 4294967295), .inl (0, 4294967295)], [(606209, (2147483648, 2147483648)), (606210, (2147483653, 2147483653))], [(36, 0, 0)], [.inl (some (.inl (2147483648, 2147483712)), [(589824, (2147483648, 2147483650))])], 8)
theorem hct_turn_0_5 : z_ctH zTb ct_turn_0_5 := sorry
def ct_turn_0_6 : zCt := (215, [.inr (.inr (36, 0)), .inl (0, 4294967295), .inl (0, 4294967295)], [(606209, (2147483648, 2147483648)), (606210, (2147483654, 2147483654))], [(36, 0, 0)], [.inl (some (.inl (2147483648, 2147483712)), [(589824, (2147483648, 2147483650))])], 8)
theorem hct_turn_0_6 : z_ctH zTb ct_turn_0_6 := sorry
def ct_turn_0_7 : zCt := (215, [.inr (.inr (36, 0)), .inl (0, 4294967295), .inl (0, 4294967295)], [(606209, (2147483648, 2147483648)), (606210, (2147483655, 2147483655))], [(36, 0, 0)], [.inl (some (.inl (2147483648, 2147483712)), [(589824, (2147483648, 2147483650))])], 8)
theorem hct_turn_0_7 : z_ctH zTb ct_turn_0_7 := sorry
def ct_turn_0_8 : zCt := (215, [.inr (.inr (36, 0)), .inl (0, 4294967295), .inl (0, 4294967295)], [(606209, (2147483648, 2147483648)), (606210, (2147483656, 2147483656))], [(36, 0, 0)], [.inl (some (.inl (2147483648, 2147483712)), [(589824, (2147483648, 2147483650))])], 8)
theorem hct_turn_0_8 : z_ctH zTb ct_turn_0_8 := sorry
def ct_turn_1_4 : zCt := (215, [.inr (.inr (36, 0)), .inl (0, 4294967295), .inl (0, 4294967295)], [(606209, (2147483649, 2147483649)), (606210, (2147483652, 2147483652))], [(36, 0, 0)], [.inl (some (.inl (2147483648, 2147483712)), [(589824, (2147483648, 2147483650))])], 8)
theorem hct_turn_1_4 : z_ctH zTb ct_turn_1_4 := sorry
def ct_turn_1_6 : zCt := (215, [.inr (.inr (36, 0)), .inl (0, 4294967295), .inl (0, 4294967295)], [(606209, (2147483649, 2147483649)), (606210, (2147483654, 2147483654))], [(36, 0, 0)], [.inl (some (.inl (2147483648, 2147483712)), [(589824, (2147483648, 2147483650))])], 8)
theorem hct_turn_1_6 : z_ctH zTb ct_turn_1_6 := sorry
def ct_turn_1_8 : zCt := (215, [.inr (.inr (36, 0)), .inl (0, 4294967295), .inl (0, 4294967295)], [(606209, (2147483649, 2147483649)), (606210, (2147483656, 2147483656))], [(36, 0, 0)], [.inl (some (.inl (2147483648, 2147483712)), [(589824, (2147483648, 2147483650))])], 8)
theorem hct_turn_1_8 : z_ctH zTb ct_turn_1_8 := sorry
def ct_turn_2_8 : zCt := (215, [.inr (.inr (36, 0)), .inl (0, 4294967295), .inl (0, 4294967295)], [(606209, (2147483650, 2147483650)), (606210, (2147483656, 2147483656))], [(36, 0, 0)], [.inl (some (.inl (2147483648, 2147483712)), [(589824, (2147483648, 2147483650))])], 8)
theorem hct_turn_2_8 : z_ctH zTb ct_turn_2_8 := sorry

def ct_turn_3_2 : zCt := (215, [.inr (.inr (36, 0)), .inl (0, 4294967295), .inl (0, 4294967295)], [(606209, (2147483651, 2147483651)), (606210, (2147483650, 2147483650))], [(36, 0, 0)], [.inl (some (.inl (2147483648, 2147483712)), [(589824, (2147483648, 2147483650))])], 8)
theorem hct_turn_3_2 : z_ctH zTb ct_turn_3_2 := sorry
def ct_turn_3_4 : zCt := (215, [.inr (.inr (36, 0)), .inl (0, 4294967295), .inl (0, 4294967295)], [(606209, (2147483651, 2147483651)), (606210, (2147483652, 2147483652))], [(36, 0, 0)], [.inl (some (.inl (2147483648, 2147483712)), [(589824, (2147483648, 2147483650))])], 8)
theorem hct_turn_3_4 : z_ctH zTb ct_turn_3_4 := sorry
def ct_turn_3_8 : zCt := (215, [.inr (.inr (36, 0)), .inl (0, 4294967295), .inl (0, 4294967295)], [(606209, (2147483651, 2147483651)), (606210, (2147483656, 2147483656))], [(36, 0, 0)], [.inl (some (.inl (2147483648, 2147483712)), [(589824, (2147483648, 2147483650))])], 8)
theorem hct_turn_3_8 : z_ctH zTb ct_turn_3_8 := sorry
def ct_undo_x0 : zCt := (222, [.inr (.inr (36, 0))], [(606216, (2147483648, 2147483648))], [(36, 0, 0), (37, 18, 43), (37, 8, 8)], [.inl (some (.inl (2147483648, 2147483648)), [(589824, (2147483648, 2147483648)), (606216, (2147483648, 2147483648))])], 1)
theorem hct_undo_x0 : z_ctH zTb ct_undo_x0 := sorry
def ct_redo_xn0 : zCt := (223, [.inr (.inr (36, 0))], [(606216, (2147483648, 2147483648)), (606215, (2147483648, 2147483648))], [(36, 0, 0), (37, 18, 43), (37, 8, 8)], [.inl (some (.inl (2147483648, 2147483648)), [(589824, (2147483648, 2147483648)), (606216, (2147483648, 2147483648))])], 1)
theorem hct_redo_xn0 : z_ctH zTb ct_redo_xn0 := sorry
def ct_redo_xy0 : zCt := (223, [.inr (.inr (36, 0))], [(606216, (2147483648, 2147483648)), (606215, (2147483649, 2147483668))], [(36, 0, 0), (37, 18, 43), (37, 8, 8)], [.inl (some (.inl (2147483649, 2147483649)), [(606216, (2147483649, 2147483649)), (589824, (2147483648, 2147483648))])], 1)
theorem hct_redo_xy0 : z_ctH zTb ct_redo_xy0 := sorry
def ct_undo_x1 : zCt := (222, [.inr (.inr (36, 0))], [(606216, (2147483649, 2147483649))], [(36, 0, 0), (37, 18, 43), (37, 8, 8)], [.inl (some (.inl (2147483649, 2147483649)), [(606216, (2147483648, 2147483648)), (589824, (2147483648, 2147483648))])], 1)
theorem hct_undo_x1 : z_ctH zTb ct_undo_x1 := sorry
def ct_redo_xn1 : zCt := (223, [.inr (.inr (36, 0))], [(606216, (2147483649, 2147483649)), (606215, (2147483649, 2147483649))], [(36, 0, 0), (37, 18, 43), (37, 8, 8)], [.inl (some (.inl (2147483648, 2147483648)), [(589824, (2147483648, 2147483648)), (606216, (2147483649, 2147483649))])], 1)
theorem hct_redo_xn1 : z_ctH zTb ct_redo_xn1 := sorry
def ct_redo_xy1 : zCt := (223, [.inr (.inr (36, 0))], [(606216, (2147483649, 2147483649)), (606215, (2147483650, 2147483668))], [(36, 0, 0), (37, 18, 43), (37, 8, 8)], [.inl (some (.inl (2147483649, 2147483649)), [(606216, (2147483650, 2147483650)), (589824, (2147483648, 2147483648))])], 1)
theorem hct_redo_xy1 : z_ctH zTb ct_redo_xy1 := sorry
def ct_undo_x2 : zCt := (222, [.inr (.inr (36, 0))], [(606216, (2147483650, 2147483650))], [(36, 0, 0), (37, 18, 43), (37, 8, 8)], [.inl (some (.inl (2147483649, 2147483649)), [(606216, (2147483649, 2147483649)), (589824, (2147483648, 2147483648))])], 1)
theorem hct_undo_x2 : z_ctH zTb ct_undo_x2 := sorry
def ct_redo_xn2 : zCt := (223, [.inr (.inr (36, 0))], [(606216, (2147483650, 2147483650)), (606215, (2147483650, 2147483650))], [(36, 0, 0), (37, 18, 43), (37, 8, 8)], [.inl (some (.inl (2147483648, 2147483648)), [(589824, (2147483648, 2147483648)), (606216, (2147483650, 2147483650))])], 1)
theorem hct_redo_xn2 : z_ctH zTb ct_redo_xn2 := sorry
def ct_redo_xy2 : zCt := (223, [.inr (.inr (36, 0))], [(606216, (2147483650, 2147483650)), (606215, (2147483651, 2147483668))], [(36, 0, 0), (37, 18, 43), (37, 8, 8)], [.inl (some (.inl (2147483649, 2147483649)), [(606216, (2147483651, 2147483651)), (589824, (2147483648, 2147483648))])], 1)
theorem hct_redo_xy2 : z_ctH zTb ct_redo_xy2 := sorry
def ct_undo_x3 : zCt := (222, [.inr (.inr (36, 0))], [(606216, (2147483651, 2147483651))], [(36, 0, 0), (37, 18, 43), (37, 8, 8)], [.inl (some (.inl (2147483649, 2147483649)), [(606216, (2147483650, 2147483650)), (589824, (2147483648, 2147483648))])], 1)
theorem hct_undo_x3 : z_ctH zTb ct_undo_x3 := sorry
def ct_redo_xn3 : zCt := (223, [.inr (.inr (36, 0))], [(606216, (2147483651, 2147483651)), (606215, (2147483651, 2147483651))], [(36, 0, 0), (37, 18, 43), (37, 8, 8)], [.inl (some (.inl (2147483648, 2147483648)), [(589824, (2147483648, 2147483648)), (606216, (2147483651, 2147483651))])], 1)
theorem hct_redo_xn3 : z_ctH zTb ct_redo_xn3 := sorry
def ct_redo_xy3 : zCt := (223, [.inr (.inr (36, 0))], [(606216, (2147483651, 2147483651)), (606215, (2147483652, 2147483668))], [(36, 0, 0), (37, 18, 43), (37, 8, 8)], [.inl (some (.inl (2147483649, 2147483649)), [(606216, (2147483652, 2147483652)), (589824, (2147483648, 2147483648))])], 1)
theorem hct_redo_xy3 : z_ctH zTb ct_redo_xy3 := sorry
def ct_undo_x4 : zCt := (222, [.inr (.inr (36, 0))], [(606216, (2147483652, 2147483652))], [(36, 0, 0), (37, 18, 43), (37, 8, 8)], [.inl (some (.inl (2147483649, 2147483649)), [(606216, (2147483651, 2147483651)), (589824, (2147483648, 2147483648))])], 1)
theorem hct_undo_x4 : z_ctH zTb ct_undo_x4 := sorry
def ct_redo_xn4 : zCt := (223, [.inr (.inr (36, 0))], [(606216, (2147483652, 2147483652)), (606215, (2147483652, 2147483652))], [(36, 0, 0), (37, 18, 43), (37, 8, 8)], [.inl (some (.inl (2147483648, 2147483648)), [(589824, (2147483648, 2147483648)), (606216, (2147483652, 2147483652))])], 1)
theorem hct_redo_xn4 : z_ctH zTb ct_redo_xn4 := sorry
def ct_redo_xy4 : zCt := (223, [.inr (.inr (36, 0))], [(606216, (2147483652, 2147483652)), (606215, (2147483653, 2147483668))], [(36, 0, 0), (37, 18, 43), (37, 8, 8)], [.inl (some (.inl (2147483649, 2147483649)), [(606216, (2147483653, 2147483653)), (589824, (2147483648, 2147483648))])], 1)
theorem hct_redo_xy4 : z_ctH zTb ct_redo_xy4 := sorry
def ct_undo_x5 : zCt := (222, [.inr (.inr (36, 0))], [(606216, (2147483653, 2147483653))], [(36, 0, 0), (37, 18, 43), (37, 8, 8)], [.inl (some (.inl (2147483649, 2147483649)), [(606216, (2147483652, 2147483652)), (589824, (2147483648, 2147483648))])], 1)
theorem hct_undo_x5 : z_ctH zTb ct_undo_x5 := sorry
def ct_redo_xn5 : zCt := (223, [.inr (.inr (36, 0))], [(606216, (2147483653, 2147483653)), (606215, (2147483653, 2147483653))], [(36, 0, 0), (37, 18, 43), (37, 8, 8)], [.inl (some (.inl (2147483648, 2147483648)), [(589824, (2147483648, 2147483648)), (606216, (2147483653, 2147483653))])], 1)
theorem hct_redo_xn5 : z_ctH zTb ct_redo_xn5 := sorry
def ct_redo_xy5 : zCt := (223, [.inr (.inr (36, 0))], [(606216, (2147483653, 2147483653)), (606215, (2147483654, 2147483668))], [(36, 0, 0), (37, 18, 43), (37, 8, 8)], [.inl (some (.inl (2147483649, 2147483649)), [(606216, (2147483654, 2147483654)), (589824, (2147483648, 2147483648))])], 1)
theorem hct_redo_xy5 : z_ctH zTb ct_redo_xy5 := sorry
def ct_undo_x6 : zCt := (222, [.inr (.inr (36, 0))], [(606216, (2147483654, 2147483654))], [(36, 0, 0), (37, 18, 43), (37, 8, 8)], [.inl (some (.inl (2147483649, 2147483649)), [(606216, (2147483653, 2147483653)), (589824, (2147483648, 2147483648))])], 1)
theorem hct_undo_x6 : z_ctH zTb ct_undo_x6 := sorry
def ct_redo_xn6 : zCt := (223, [.inr (.inr (36, 0))], [(606216, (2147483654, 2147483654)), (606215, (2147483654, 2147483654))], [(36, 0, 0), (37, 18, 43), (37, 8, 8)], [.inl (some (.inl (2147483648, 2147483648)), [(589824, (2147483648, 2147483648)), (606216, (2147483654, 2147483654))])], 1)
theorem hct_redo_xn6 : z_ctH zTb ct_redo_xn6 := sorry
def ct_redo_xy6 : zCt := (223, [.inr (.inr (36, 0))], [(606216, (2147483654, 2147483654)), (606215, (2147483655, 2147483668))], [(36, 0, 0), (37, 18, 43), (37, 8, 8)], [.inl (some (.inl (2147483649, 2147483649)), [(606216, (2147483655, 2147483655)), (589824, (2147483648, 2147483648))])], 1)
theorem hct_redo_xy6 : z_ctH zTb ct_redo_xy6 := sorry
def ct_undo_x7 : zCt := (222, [.inr (.inr (36, 0))], [(606216, (2147483655, 2147483655))], [(36, 0, 0), (37, 18, 43), (37, 8, 8)], [.inl (some (.inl (2147483649, 2147483649)), [(606216, (2147483654, 2147483654)), (589824, (2147483648, 2147483648))])], 1)
theorem hct_undo_x7 : z_ctH zTb ct_undo_x7 := sorry
def ct_redo_xn7 : zCt := (223, [.inr (.inr (36, 0))], [(606216, (2147483655, 2147483655)), (606215, (2147483655, 2147483655))], [(36, 0, 0), (37, 18, 43), (37, 8, 8)], [.inl (some (.inl (2147483648, 2147483648)), [(589824, (2147483648, 2147483648)), (606216, (2147483655, 2147483655))])], 1)
theorem hct_redo_xn7 : z_ctH zTb ct_redo_xn7 := sorry
def ct_redo_xy7 : zCt := (223, [.inr (.inr (36, 0))], [(606216, (2147483655, 2147483655)), (606215, (2147483656, 2147483668))], [(36, 0, 0), (37, 18, 43), (37, 8, 8)], [.inl (some (.inl (2147483649, 2147483649)), [(606216, (2147483656, 2147483656)), (589824, (2147483648, 2147483648))])], 1)
theorem hct_redo_xy7 : z_ctH zTb ct_redo_xy7 := sorry
def ct_undo_x8 : zCt := (222, [.inr (.inr (36, 0))], [(606216, (2147483656, 2147483656))], [(36, 0, 0), (37, 18, 43), (37, 8, 8)], [.inl (some (.inl (2147483649, 2147483649)), [(606216, (2147483655, 2147483655)), (589824, (2147483648, 2147483648))])], 1)
theorem hct_undo_x8 : z_ctH zTb ct_undo_x8 := sorry
def ct_redo_xn8 : zCt := (223, [.inr (.inr (36, 0))], [(606216, (2147483656, 2147483656)), (606215, (2147483656, 2147483656))], [(36, 0, 0), (37, 18, 43), (37, 8, 8)], [.inl (some (.inl (2147483648, 2147483648)), [(589824, (2147483648, 2147483648)), (606216, (2147483656, 2147483656))])], 1)
theorem hct_redo_xn8 : z_ctH zTb ct_redo_xn8 := sorry
def ct_redo_xy8 : zCt := (223, [.inr (.inr (36, 0))], [(606216, (2147483656, 2147483656)), (606215, (2147483657, 2147483668))], [(36, 0, 0), (37, 18, 43), (37, 8, 8)], [.inl (some (.inl (2147483649, 2147483649)), [(606216, (2147483657, 2147483657)), (589824, (2147483648, 2147483648))])], 1)
theorem hct_redo_xy8 : z_ctH zTb ct_redo_xy8 := sorry
def ct_undo_x9 : zCt := (222, [.inr (.inr (36, 0))], [(606216, (2147483657, 2147483657))], [(36, 0, 0), (37, 18, 43), (37, 8, 8)], [.inl (some (.inl (2147483649, 2147483649)), [(606216, (2147483656, 2147483656)), (589824, (2147483648, 2147483648))])], 1)
theorem hct_undo_x9 : z_ctH zTb ct_undo_x9 := sorry
def ct_redo_xn9 : zCt := (223, [.inr (.inr (36, 0))], [(606216, (2147483657, 2147483657)), (606215, (2147483657, 2147483657))], [(36, 0, 0), (37, 18, 43), (37, 8, 8)], [.inl (some (.inl (2147483648, 2147483648)), [(589824, (2147483648, 2147483648)), (606216, (2147483657, 2147483657))])], 1)
theorem hct_redo_xn9 : z_ctH zTb ct_redo_xn9 := sorry
def ct_redo_xy9 : zCt := (223, [.inr (.inr (36, 0))], [(606216, (2147483657, 2147483657)), (606215, (2147483658, 2147483668))], [(36, 0, 0), (37, 18, 43), (37, 8, 8)], [.inl (some (.inl (2147483649, 2147483649)), [(606216, (2147483658, 2147483658)), (589824, (2147483648, 2147483648))])], 1)
theorem hct_redo_xy9 : z_ctH zTb ct_redo_xy9 := sorry
def ct_undo_x10 : zCt := (222, [.inr (.inr (36, 0))], [(606216, (2147483658, 2147483658))], [(36, 0, 0), (37, 18, 43), (37, 8, 8)], [.inl (some (.inl (2147483649, 2147483649)), [(606216, (2147483657, 2147483657)), (589824, (2147483648, 2147483648))])], 1)
theorem hct_undo_x10 : z_ctH zTb ct_undo_x10 := sorry
def ct_redo_xn10 : zCt := (223, [.inr (.inr (36, 0))], [(606216, (2147483658, 2147483658)), (606215, (2147483658, 2147483658))], [(36, 0, 0), (37, 18, 43), (37, 8, 8)], [.inl (some (.inl (2147483648, 2147483648)), [(589824, (2147483648, 2147483648)), (606216, (2147483658, 2147483658))])], 1)
theorem hct_redo_xn10 : z_ctH zTb ct_redo_xn10 := sorry
def ct_redo_xy10 : zCt := (223, [.inr (.inr (36, 0))], [(606216, (2147483658, 2147483658)), (606215, (2147483659, 2147483668))], [(36, 0, 0), (37, 18, 43), (37, 8, 8)], [.inl (some (.inl (2147483649, 2147483649)), [(606216, (2147483659, 2147483659)), (589824, (2147483648, 2147483648))])], 1)
theorem hct_redo_xy10 : z_ctH zTb ct_redo_xy10 := sorry
def ct_undo_x11 : zCt := (222, [.inr (.inr (36, 0))], [(606216, (2147483659, 2147483659))], [(36, 0, 0), (37, 18, 43), (37, 8, 8)], [.inl (some (.inl (2147483649, 2147483649)), [(606216, (2147483658, 2147483658)), (589824, (2147483648, 2147483648))])], 1)
theorem hct_undo_x11 : z_ctH zTb ct_undo_x11 := sorry
def ct_redo_xn11 : zCt := (223, [.inr (.inr (36, 0))], [(606216, (2147483659, 2147483659)), (606215, (2147483659, 2147483659))], [(36, 0, 0), (37, 18, 43), (37, 8, 8)], [.inl (some (.inl (2147483648, 2147483648)), [(589824, (2147483648, 2147483648)), (606216, (2147483659, 2147483659))])], 1)
theorem hct_redo_xn11 : z_ctH zTb ct_redo_xn11 := sorry
def ct_redo_xy11 : zCt := (223, [.inr (.inr (36, 0))], [(606216, (2147483659, 2147483659)), (606215, (2147483660, 2147483668))], [(36, 0, 0), (37, 18, 43), (37, 8, 8)], [.inl (some (.inl (2147483649, 2147483649)), [(606216, (2147483660, 2147483660)), (589824, (2147483648, 2147483648))])], 1)
theorem hct_redo_xy11 : z_ctH zTb ct_redo_xy11 := sorry
def ct_undo_x12 : zCt := (222, [.inr (.inr (36, 0))], [(606216, (2147483660, 2147483660))], [(36, 0, 0), (37, 18, 43), (37, 8, 8)], [.inl (some (.inl (2147483649, 2147483649)), [(606216, (2147483659, 2147483659)), (589824, (2147483648, 2147483648))])], 1)
theorem hct_undo_x12 : z_ctH zTb ct_undo_x12 := sorry
def ct_redo_xn12 : zCt := (223, [.inr (.inr (36, 0))], [(606216, (2147483660, 2147483660)), (606215, (2147483660, 2147483660))], [(36, 0, 0), (37, 18, 43), (37, 8, 8)], [.inl (some (.inl (2147483648, 2147483648)), [(589824, (2147483648, 2147483648)), (606216, (2147483660, 2147483660))])], 1)
theorem hct_redo_xn12 : z_ctH zTb ct_redo_xn12 := sorry
def ct_redo_xy12 : zCt := (223, [.inr (.inr (36, 0))], [(606216, (2147483660, 2147483660)), (606215, (2147483661, 2147483668))], [(36, 0, 0), (37, 18, 43), (37, 8, 8)], [.inl (some (.inl (2147483649, 2147483649)), [(606216, (2147483661, 2147483661)), (589824, (2147483648, 2147483648))])], 1)
theorem hct_redo_xy12 : z_ctH zTb ct_redo_xy12 := sorry
def ct_undo_x13 : zCt := (222, [.inr (.inr (36, 0))], [(606216, (2147483661, 2147483661))], [(36, 0, 0), (37, 18, 43), (37, 8, 8)], [.inl (some (.inl (2147483649, 2147483649)), [(606216, (2147483660, 2147483660)), (589824, (2147483648, 2147483648))])], 1)
theorem hct_undo_x13 : z_ctH zTb ct_undo_x13 := sorry
def ct_redo_xn13 : zCt := (223, [.inr (.inr (36, 0))], [(606216, (2147483661, 2147483661)), (606215, (2147483661, 2147483661))], [(36, 0, 0), (37, 18, 43), (37, 8, 8)], [.inl (some (.inl (2147483648, 2147483648)), [(589824, (2147483648, 2147483648)), (606216, (2147483661, 2147483661))])], 1)
theorem hct_redo_xn13 : z_ctH zTb ct_redo_xn13 := sorry
def ct_redo_xy13 : zCt := (223, [.inr (.inr (36, 0))], [(606216, (2147483661, 2147483661)), (606215, (2147483662, 2147483668))], [(36, 0, 0), (37, 18, 43), (37, 8, 8)], [.inl (some (.inl (2147483649, 2147483649)), [(606216, (2147483662, 2147483662)), (589824, (2147483648, 2147483648))])], 1)
theorem hct_redo_xy13 : z_ctH zTb ct_redo_xy13 := sorry
def ct_undo_x14 : zCt := (222, [.inr (.inr (36, 0))], [(606216, (2147483662, 2147483662))], [(36, 0, 0), (37, 18, 43), (37, 8, 8)], [.inl (some (.inl (2147483649, 2147483649)), [(606216, (2147483661, 2147483661)), (589824, (2147483648, 2147483648))])], 1)
theorem hct_undo_x14 : z_ctH zTb ct_undo_x14 := sorry
def ct_redo_xn14 : zCt := (223, [.inr (.inr (36, 0))], [(606216, (2147483662, 2147483662)), (606215, (2147483662, 2147483662))], [(36, 0, 0), (37, 18, 43), (37, 8, 8)], [.inl (some (.inl (2147483648, 2147483648)), [(589824, (2147483648, 2147483648)), (606216, (2147483662, 2147483662))])], 1)
theorem hct_redo_xn14 : z_ctH zTb ct_redo_xn14 := sorry
def ct_redo_xy14 : zCt := (223, [.inr (.inr (36, 0))], [(606216, (2147483662, 2147483662)), (606215, (2147483663, 2147483668))], [(36, 0, 0), (37, 18, 43), (37, 8, 8)], [.inl (some (.inl (2147483649, 2147483649)), [(606216, (2147483663, 2147483663)), (589824, (2147483648, 2147483648))])], 1)
theorem hct_redo_xy14 : z_ctH zTb ct_redo_xy14 := sorry
def ct_undo_x15 : zCt := (222, [.inr (.inr (36, 0))], [(606216, (2147483663, 2147483663))], [(36, 0, 0), (37, 18, 43), (37, 8, 8)], [.inl (some (.inl (2147483649, 2147483649)), [(606216, (2147483662, 2147483662)), (589824, (2147483648, 2147483648))])], 1)
theorem hct_undo_x15 : z_ctH zTb ct_undo_x15 := sorry
def ct_redo_xn15 : zCt := (223, [.inr (.inr (36, 0))], [(606216, (2147483663, 2147483663)), (606215, (2147483663, 2147483663))], [(36, 0, 0), (37, 18, 43), (37, 8, 8)], [.inl (some (.inl (2147483648, 2147483648)), [(589824, (2147483648, 2147483648)), (606216, (2147483663, 2147483663))])], 1)
theorem hct_redo_xn15 : z_ctH zTb ct_redo_xn15 := sorry
def ct_redo_xy15 : zCt := (223, [.inr (.inr (36, 0))], [(606216, (2147483663, 2147483663)), (606215, (2147483664, 2147483668))], [(36, 0, 0), (37, 18, 43), (37, 8, 8)], [.inl (some (.inl (2147483649, 2147483649)), [(606216, (2147483664, 2147483664)), (589824, (2147483648, 2147483648))])], 1)
theorem hct_redo_xy15 : z_ctH zTb ct_redo_xy15 := sorry
def ct_undo_x16 : zCt := (222, [.inr (.inr (36, 0))], [(606216, (2147483664, 2147483664))], [(36, 0, 0), (37, 18, 43), (37, 8, 8)], [.inl (some (.inl (2147483649, 2147483649)), [(606216, (2147483663, 2147483663)), (589824, (2147483648, 2147483648))])], 1)
theorem hct_undo_x16 : z_ctH zTb ct_undo_x16 := sorry
def ct_redo_xn16 : zCt := (223, [.inr (.inr (36, 0))], [(606216, (2147483664, 2147483664)), (606215, (2147483664, 2147483664))], [(36, 0, 0), (37, 18, 43), (37, 8, 8)], [.inl (some (.inl (2147483648, 2147483648)), [(589824, (2147483648, 2147483648)), (606216, (2147483664, 2147483664))])], 1)
theorem hct_redo_xn16 : z_ctH zTb ct_redo_xn16 := sorry
def ct_redo_xy16 : zCt := (223, [.inr (.inr (36, 0))], [(606216, (2147483664, 2147483664)), (606215, (2147483665, 2147483668))], [(36, 0, 0), (37, 18, 43), (37, 8, 8)], [.inl (some (.inl (2147483649, 2147483649)), [(606216, (2147483665, 2147483665)), (589824, (2147483648, 2147483648))])], 1)
theorem hct_redo_xy16 : z_ctH zTb ct_redo_xy16 := sorry
def ct_undo_x17 : zCt := (222, [.inr (.inr (36, 0))], [(606216, (2147483665, 2147483665))], [(36, 0, 0), (37, 18, 43), (37, 8, 8)], [.inl (some (.inl (2147483649, 2147483649)), [(606216, (2147483664, 2147483664)), (589824, (2147483648, 2147483648))])], 1)
theorem hct_undo_x17 : z_ctH zTb ct_undo_x17 := sorry
def ct_redo_xn17 : zCt := (223, [.inr (.inr (36, 0))], [(606216, (2147483665, 2147483665)), (606215, (2147483665, 2147483665))], [(36, 0, 0), (37, 18, 43), (37, 8, 8)], [.inl (some (.inl (2147483648, 2147483648)), [(589824, (2147483648, 2147483648)), (606216, (2147483665, 2147483665))])], 1)
theorem hct_redo_xn17 : z_ctH zTb ct_redo_xn17 := sorry
def ct_redo_xy17 : zCt := (223, [.inr (.inr (36, 0))], [(606216, (2147483665, 2147483665)), (606215, (2147483666, 2147483668))], [(36, 0, 0), (37, 18, 43), (37, 8, 8)], [.inl (some (.inl (2147483649, 2147483649)), [(606216, (2147483666, 2147483666)), (589824, (2147483648, 2147483648))])], 1)
theorem hct_redo_xy17 : z_ctH zTb ct_redo_xy17 := sorry
def ct_undo_x18 : zCt := (222, [.inr (.inr (36, 0))], [(606216, (2147483666, 2147483666))], [(36, 0, 0), (37, 18, 43), (37, 8, 8)], [.inl (some (.inl (2147483649, 2147483649)), [(606216, (2147483665, 2147483665)), (589824, (2147483648, 2147483648))])], 1)
theorem hct_undo_x18 : z_ctH zTb ct_undo_x18 := sorry
def ct_redo_xn18 : zCt := (223, [.inr (.inr (36, 0))], [(606216, (2147483666, 2147483666)), (606215, (2147483666, 2147483666))], [(36, 0, 0), (37, 18, 43), (37, 8, 8)], [.inl (some (.inl (2147483648, 2147483648)), [(589824, (2147483648, 2147483648)), (606216, (2147483666, 2147483666))])], 1)
theorem hct_redo_xn18 : z_ctH zTb ct_redo_xn18 := sorry
def ct_redo_xy18 : zCt := (223, [.inr (.inr (36, 0))], [(606216, (2147483666, 2147483666)), (606215, (2147483667, 2147483668))], [(36, 0, 0), (37, 18, 43), (37, 8, 8)], [.inl (some (.inl (2147483649, 2147483649)), [(606216, (2147483667, 2147483667)), (589824, (2147483648, 2147483648))])], 1)
theorem hct_redo_xy18 : z_ctH zTb ct_redo_xy18 := sorry
def ct_undo_x19 : zCt := (222, [.inr (.inr (36, 0))], [(606216, (2147483667, 2147483667))], [(36, 0, 0), (37, 18, 43), (37, 8, 8)], [.inl (some (.inl (2147483649, 2147483649)), [(606216, (2147483666, 2147483666)), (589824, (2147483648, 2147483648))])], 1)
theorem hct_undo_x19 : z_ctH zTb ct_undo_x19 := sorry
def ct_redo_xn19 : zCt := (223, [.inr (.inr (36, 0))], [(606216, (2147483667, 2147483667)), (606215, (2147483667, 2147483667))], [(36, 0, 0), (37, 18, 43), (37, 8, 8)], [.inl (some (.inl (2147483648, 2147483648)), [(589824, (2147483648, 2147483648)), (606216, (2147483667, 2147483667))])], 1)
theorem hct_redo_xn19 : z_ctH zTb ct_redo_xn19 := sorry
def ct_redo_xy19 : zCt := (223, [.inr (.inr (36, 0))], [(606216, (2147483667, 2147483667)), (606215, (2147483668, 2147483668))], [(36, 0, 0), (37, 18, 43), (37, 8, 8)], [.inl (some (.inl (2147483649, 2147483649)), [(606216, (2147483668, 2147483668)), (589824, (2147483648, 2147483648))])], 1)
theorem hct_redo_xy19 : z_ctH zTb ct_redo_xy19 := sorry
def ct_undo_x20 : zCt := (222, [.inr (.inr (36, 0))], [(606216, (2147483668, 2147483668))], [(36, 0, 0), (37, 18, 43), (37, 8, 8)], [.inl (some (.inl (2147483649, 2147483649)), [(606216, (2147483667, 2147483667)), (589824, (2147483648, 2147483648))])], 1)
theorem hct_undo_x20 : z_ctH zTb ct_undo_x20 := sorry
def ct_redo_xn20 : zCt := (223, [.inr (.inr (36, 0))], [(606216, (2147483668, 2147483668)), (606215, (2147483668, 2147483668))], [(36, 0, 0), (37, 18, 43), (37, 8, 8)], [.inl (some (.inl (2147483648, 2147483648)), [(589824, (2147483648, 2147483648)), (606216, (2147483668, 2147483668))])], 1)
theorem hct_redo_xn20 : z_ctH zTb ct_redo_xn20 := sorry
def ct_remembers_0 : zCt := (217, [.inr (.inr (36, 0))], [(606216, (2147483648, 2147483648))], [(37, 50, 1009), (37, 7, 8)], [.inl (none, [(606215, (2147483648, 2147483648)), (606216, (2147483648, 2147483648))])], 1)
theorem hct_remembers_0 : z_ctH zTb ct_remembers_0 := sorry
def ct_done_0 : zCt := (218, [.inr (.inr (36, 0))], [(606216, (2147483648, 2147483648))], [(37, 50, 1009), (37, 7, 8)], [.inl (none, [(606215, (2147483649, 2147483649)), (606216, (2147483649, 2147483649))])], 1)
theorem hct_done_0 : z_ctH zTb ct_done_0 := sorry
def ct_remembers_1 : zCt := (217, [.inr (.inr (36, 0))], [(606216, (2147483649, 2147483649))], [(37, 50, 1009), (37, 7, 8)], [.inl (none, [(606215, (2147483649, 2147483649)), (606216, (2147483649, 2147483649))])], 1)
theorem hct_remembers_1 : z_ctH zTb ct_remembers_1 := sorry
def ct_done_1 : zCt := (218, [.inr (.inr (36, 0))], [(606216, (2147483649, 2147483649))], [(37, 50, 1009), (37, 7, 8)], [.inl (none, [(606215, (2147483650, 2147483650)), (606216, (2147483650, 2147483650))])], 1)
theorem hct_done_1 : z_ctH zTb ct_done_1 := sorry
def ct_remembers_2 : zCt := (217, [.inr (.inr (36, 0))], [(606216, (2147483650, 2147483650))], [(37, 50, 1009), (37, 7, 8)], [.inl (none, [(606215, (2147483650, 2147483650)), (606216, (2147483650, 2147483650))])], 1)
theorem hct_remembers_2 : z_ctH zTb ct_remembers_2 := sorry
def ct_done_2 : zCt := (218, [.inr (.inr (36, 0))], [(606216, (2147483650, 2147483650))], [(37, 50, 1009), (37, 7, 8)], [.inl (none, [(606215, (2147483651, 2147483651)), (606216, (2147483651, 2147483651))])], 1)
theorem hct_done_2 : z_ctH zTb ct_done_2 := sorry
def ct_remembers_3 : zCt := (217, [.inr (.inr (36, 0))], [(606216, (2147483651, 2147483651))], [(37, 50, 1009), (37, 7, 8)], [.inl (none, [(606215, (2147483651, 2147483651)), (606216, (2147483651, 2147483651))])], 1)
theorem hct_remembers_3 : z_ctH zTb ct_remembers_3 := sorry
def ct_done_3 : zCt := (218, [.inr (.inr (36, 0))], [(606216, (2147483651, 2147483651))], [(37, 50, 1009), (37, 7, 8)], [.inl (none, [(606215, (2147483652, 2147483652)), (606216, (2147483652, 2147483652))])], 1)
theorem hct_done_3 : z_ctH zTb ct_done_3 := sorry
def ct_remembers_4 : zCt := (217, [.inr (.inr (36, 0))], [(606216, (2147483652, 2147483652))], [(37, 50, 1009), (37, 7, 8)], [.inl (none, [(606215, (2147483652, 2147483652)), (606216, (2147483652, 2147483652))])], 1)
theorem hct_remembers_4 : z_ctH zTb ct_remembers_4 := sorry
def ct_done_4 : zCt := (218, [.inr (.inr (36, 0))], [(606216, (2147483652, 2147483652))], [(37, 50, 1009), (37, 7, 8)], [.inl (none, [(606215, (2147483653, 2147483653)), (606216, (2147483653, 2147483653))])], 1)
theorem hct_done_4 : z_ctH zTb ct_done_4 := sorry
def ct_remembers_5 : zCt := (217, [.inr (.inr (36, 0))], [(606216, (2147483653, 2147483653))], [(37, 50, 1009), (37, 7, 8)], [.inl (none, [(606215, (2147483653, 2147483653)), (606216, (2147483653, 2147483653))])], 1)
theorem hct_remembers_5 : z_ctH zTb ct_remembers_5 := sorry
def ct_done_5 : zCt := (218, [.inr (.inr (36, 0))], [(606216, (2147483653, 2147483653))], [(37, 50, 1009), (37, 7, 8)], [.inl (none, [(606215, (2147483654, 2147483654)), (606216, (2147483654, 2147483654))])], 1)
theorem hct_done_5 : z_ctH zTb ct_done_5 := sorry
def ct_remembers_6 : zCt := (217, [.inr (.inr (36, 0))], [(606216, (2147483654, 2147483654))], [(37, 50, 1009), (37, 7, 8)], [.inl (none, [(606215, (2147483654, 2147483654)), (606216, (2147483654, 2147483654))])], 1)
theorem hct_remembers_6 : z_ctH zTb ct_remembers_6 := sorry
def ct_done_6 : zCt := (218, [.inr (.inr (36, 0))], [(606216, (2147483654, 2147483654))], [(37, 50, 1009), (37, 7, 8)], [.inl (none, [(606215, (2147483655, 2147483655)), (606216, (2147483655, 2147483655))])], 1)
theorem hct_done_6 : z_ctH zTb ct_done_6 := sorry
def ct_remembers_7 : zCt := (217, [.inr (.inr (36, 0))], [(606216, (2147483655, 2147483655))], [(37, 50, 1009), (37, 7, 8)], [.inl (none, [(606215, (2147483655, 2147483655)), (606216, (2147483655, 2147483655))])], 1)
theorem hct_remembers_7 : z_ctH zTb ct_remembers_7 := sorry
def ct_done_7 : zCt := (218, [.inr (.inr (36, 0))], [(606216, (2147483655, 2147483655))], [(37, 50, 1009), (37, 7, 8)], [.inl (none, [(606215, (2147483656, 2147483656)), (606216, (2147483656, 2147483656))])], 1)
theorem hct_done_7 : z_ctH zTb ct_done_7 := sorry
def ct_remembers_8 : zCt := (217, [.inr (.inr (36, 0))], [(606216, (2147483656, 2147483656))], [(37, 50, 1009), (37, 7, 8)], [.inl (none, [(606215, (2147483656, 2147483656)), (606216, (2147483656, 2147483656))])], 1)
theorem hct_remembers_8 : z_ctH zTb ct_remembers_8 := sorry
def ct_done_8 : zCt := (218, [.inr (.inr (36, 0))], [(606216, (2147483656, 2147483656))], [(37, 50, 1009), (37, 7, 8)], [.inl (none, [(606215, (2147483657, 2147483657)), (606216, (2147483657, 2147483657))])], 1)
theorem hct_done_8 : z_ctH zTb ct_done_8 := sorry
def ct_remembers_9 : zCt := (217, [.inr (.inr (36, 0))], [(606216, (2147483657, 2147483657))], [(37, 50, 1009), (37, 7, 8)], [.inl (none, [(606215, (2147483657, 2147483657)), (606216, (2147483657, 2147483657))])], 1)
theorem hct_remembers_9 : z_ctH zTb ct_remembers_9 := sorry
def ct_done_9 : zCt := (218, [.inr (.inr (36, 0))], [(606216, (2147483657, 2147483657))], [(37, 50, 1009), (37, 7, 8)], [.inl (none, [(606215, (2147483658, 2147483658)), (606216, (2147483658, 2147483658))])], 1)
theorem hct_done_9 : z_ctH zTb ct_done_9 := sorry
def ct_remembers_10 : zCt := (217, [.inr (.inr (36, 0))], [(606216, (2147483658, 2147483658))], [(37, 50, 1009), (37, 7, 8)], [.inl (none, [(606215, (2147483658, 2147483658)), (606216, (2147483658, 2147483658))])], 1)
theorem hct_remembers_10 : z_ctH zTb ct_remembers_10 := sorry
def ct_done_10 : zCt := (218, [.inr (.inr (36, 0))], [(606216, (2147483658, 2147483658))], [(37, 50, 1009), (37, 7, 8)], [.inl (none, [(606215, (2147483659, 2147483659)), (606216, (2147483659, 2147483659))])], 1)
theorem hct_done_10 : z_ctH zTb ct_done_10 := sorry
def ct_remembers_11 : zCt := (217, [.inr (.inr (36, 0))], [(606216, (2147483659, 2147483659))], [(37, 50, 1009), (37, 7, 8)], [.inl (none, [(606215, (2147483659, 2147483659)), (606216, (2147483659, 2147483659))])], 1)
theorem hct_remembers_11 : z_ctH zTb ct_remembers_11 := sorry
def ct_done_11 : zCt := (218, [.inr (.inr (36, 0))], [(606216, (2147483659, 2147483659))], [(37, 50, 1009), (37, 7, 8)], [.inl (none, [(606215, (2147483660, 2147483660)), (606216, (2147483660, 2147483660))])], 1)
theorem hct_done_11 : z_ctH zTb ct_done_11 := sorry
def ct_remembers_12 : zCt := (217, [.inr (.inr (36, 0))], [(606216, (2147483660, 2147483660))], [(37, 50, 1009), (37, 7, 8)], [.inl (none, [(606215, (2147483660, 2147483660)), (606216, (2147483660, 2147483660))])], 1)
theorem hct_remembers_12 : z_ctH zTb ct_remembers_12 := sorry
def ct_done_12 : zCt := (218, [.inr (.inr (36, 0))], [(606216, (2147483660, 2147483660))], [(37, 50, 1009), (37, 7, 8)], [.inl (none, [(606215, (2147483661, 2147483661)), (606216, (2147483661, 2147483661))])], 1)
theorem hct_done_12 : z_ctH zTb ct_done_12 := sorry
def ct_remembers_13 : zCt := (217, [.inr (.inr (36, 0))], [(606216, (2147483661, 2147483661))], [(37, 50, 1009), (37, 7, 8)], [.inl (none, [(606215, (2147483661, 2147483661)), (606216, (2147483661, 2147483661))])], 1)
theorem hct_remembers_13 : z_ctH zTb ct_remembers_13 := sorry
def ct_done_13 : zCt := (218, [.inr (.inr (36, 0))], [(606216, (2147483661, 2147483661))], [(37, 50, 1009), (37, 7, 8)], [.inl (none, [(606215, (2147483662, 2147483662)), (606216, (2147483662, 2147483662))])], 1)
theorem hct_done_13 : z_ctH zTb ct_done_13 := sorry
def ct_remembers_14 : zCt := (217, [.inr (.inr (36, 0))], [(606216, (2147483662, 2147483662))], [(37, 50, 1009), (37, 7, 8)], [.inl (none, [(606215, (2147483662, 2147483662)), (606216, (2147483662, 2147483662))])], 1)
theorem hct_remembers_14 : z_ctH zTb ct_remembers_14 := sorry
def ct_done_14 : zCt := (218, [.inr (.inr (36, 0))], [(606216, (2147483662, 2147483662))], [(37, 50, 1009), (37, 7, 8)], [.inl (none, [(606215, (2147483663, 2147483663)), (606216, (2147483663, 2147483663))])], 1)
theorem hct_done_14 : z_ctH zTb ct_done_14 := sorry
def ct_remembers_15 : zCt := (217, [.inr (.inr (36, 0))], [(606216, (2147483663, 2147483663))], [(37, 50, 1009), (37, 7, 8)], [.inl (none, [(606215, (2147483663, 2147483663)), (606216, (2147483663, 2147483663))])], 1)
theorem hct_remembers_15 : z_ctH zTb ct_remembers_15 := sorry
def ct_done_15 : zCt := (218, [.inr (.inr (36, 0))], [(606216, (2147483663, 2147483663))], [(37, 50, 1009), (37, 7, 8)], [.inl (none, [(606215, (2147483664, 2147483664)), (606216, (2147483664, 2147483664))])], 1)
theorem hct_done_15 : z_ctH zTb ct_done_15 := sorry
def ct_remembers_16 : zCt := (217, [.inr (.inr (36, 0))], [(606216, (2147483664, 2147483664))], [(37, 50, 1009), (37, 7, 8)], [.inl (none, [(606215, (2147483664, 2147483664)), (606216, (2147483664, 2147483664))])], 1)
theorem hct_remembers_16 : z_ctH zTb ct_remembers_16 := sorry
def ct_done_16 : zCt := (218, [.inr (.inr (36, 0))], [(606216, (2147483664, 2147483664))], [(37, 50, 1009), (37, 7, 8)], [.inl (none, [(606215, (2147483665, 2147483665)), (606216, (2147483665, 2147483665))])], 1)
theorem hct_done_16 : z_ctH zTb ct_done_16 := sorry
def ct_remembers_17 : zCt := (217, [.inr (.inr (36, 0))], [(606216, (2147483665, 2147483665))], [(37, 50, 1009), (37, 7, 8)], [.inl (none, [(606215, (2147483665, 2147483665)), (606216, (2147483665, 2147483665))])], 1)
theorem hct_remembers_17 : z_ctH zTb ct_remembers_17 := sorry
def ct_done_17 : zCt := (218, [.inr (.inr (36, 0))], [(606216, (2147483665, 2147483665))], [(37, 50, 1009), (37, 7, 8)], [.inl (none, [(606215, (2147483666, 2147483666)), (606216, (2147483666, 2147483666))])], 1)
theorem hct_done_17 : z_ctH zTb ct_done_17 := sorry
def ct_remembers_18 : zCt := (217, [.inr (.inr (36, 0))], [(606216, (2147483666, 2147483666))], [(37, 50, 1009), (37, 7, 8)], [.inl (none, [(606215, (2147483666, 2147483666)), (606216, (2147483666, 2147483666))])], 1)
theorem hct_remembers_18 : z_ctH zTb ct_remembers_18 := sorry
def ct_done_18 : zCt := (218, [.inr (.inr (36, 0))], [(606216, (2147483666, 2147483666))], [(37, 50, 1009), (37, 7, 8)], [.inl (none, [(606215, (2147483667, 2147483667)), (606216, (2147483667, 2147483667))])], 1)
theorem hct_done_18 : z_ctH zTb ct_done_18 := sorry
def ct_remembers_19 : zCt := (217, [.inr (.inr (36, 0))], [(606216, (2147483667, 2147483667))], [(37, 50, 1009), (37, 7, 8)], [.inl (none, [(606215, (2147483667, 2147483667)), (606216, (2147483667, 2147483667))])], 1)
theorem hct_remembers_19 : z_ctH zTb ct_remembers_19 := sorry
def ct_done_19 : zCt := (218, [.inr (.inr (36, 0))], [(606216, (2147483667, 2147483667))], [(37, 50, 1009), (37, 7, 8)], [.inl (none, [(606215, (2147483668, 2147483668)), (606216, (2147483668, 2147483668))])], 1)
theorem hct_done_19 : z_ctH zTb ct_done_19 := sorry
def ct_remembers_20 : zCt := (217, [.inr (.inr (36, 0))], [(606216, (2147483668, 2147483668))], [(37, 50, 1009), (37, 7, 8)], [.inl (none, [(606216, (2147483667, 2147483667)), (606215, (2147483668, 2147483668))])], 1)
theorem hct_remembers_20 : z_ctH zTb ct_remembers_20 := sorry
def ct_thrown : zCt := (178, [.inr (.inr (36, 0))], [], [], [.inl (some (.inl (0, 4294967295)), [])], 1)
theorem hct_thrown : z_ctH zTb ct_thrown := sorry
def ct_fault : zCt := (213, [.inr (.inr (36, 0))], [], [(36, 0, 0)], [.inl (some (.inl (2147483647, 2147484048)), [])], 1)
theorem hct_fault : z_ctH zTb ct_fault := sorry
def ct_worth : zCt := (229, [.inr (.inr (36, 0))], [], [(36, 0, 0)], [.inl (some (.inr (.inl none)), [])], 7)
theorem hct_worth : z_ctH zTb ct_worth := sorry
def ct_turned : zCt := (231, [.inr (.inr (36, 0))], [], [(36, 0, 0)], [.inl (some (.inl (2147483648, 2147483657)), [])], 7)
theorem hct_turned : z_ctH zTb ct_turned := sorry
def ct_sum : zCt := (239, [.inr (.inr (36, 0))], [], [(36, 0, 0), (43, 0, 79), (44, 0, 79)], [.inl (some (.inr (.inl none)), [])], 5)
theorem hct_sum : z_ctH zTb ct_sum := sorry
def ct_states : zCt := (240, [.inr (.inr (36, 0)), .inl (0, 4294967295)], [], [(36, 0, 0), (43, 0, 79), (44, 0, 79)], [.inl (some (.inr (.inl none)), [])], 6)
theorem hct_states : z_ctH zTb ct_states := sorry
def ct_dual : zCt := (253, [.inr (.inr (36, 0)), .inl (0, 4294967295)], [], [(36, 0, 0)], [.inl (some (.inl (0, 4294967295)), [])], 4)
theorem hct_dual : z_ctH zTb ct_dual := sorry
def ct_dualSum : zCt := (254, [.inr (.inr (36, 0))], [], [(36, 0, 0)], [.inl (some (.inr (.inl none)), [])], 2)
theorem hct_dualSum : z_ctH zTb ct_dualSum := sorry
def ct_body : zCt := (251, [.inr (.inr (36, 0)), .inl (0, 4294967295), .inl (0, 4294967295), .inl (0, 4294967295)], [], [(36, 0, 0), (43, 0, 79), (44, 0, 79)], [.inl (some (.inr (.inl none)), [(589824, (2147483648, 2147483649))])], 6)
theorem hct_body : z_ctH zTb ct_body := sorry
def ct_count_0_2 : zCt := (258, [.inr (.inr (36, 0)), .inl (0, 4294967295)], [(606209, (2147483648, 2147483648)), (606210, (2147483650, 2147483650))], [(36, 0, 0)], [.inl (some (.inl (2147483628, 2147483672)), [])], 6)
theorem hct_count_0_2 : z_ctH zTb ct_count_0_2 := sorry
def ct_count_0_3 : zCt := (258, [.inr (.inr (36, 0)), .inl (0, 4294967295)], [(606209, (2147483648, 2147483648)), (606210, (2147483651, 2147483651))], [(36, 0, 0)], [.inl (some (.inl (2147483628, 2147483672)), [])], 6)
theorem hct_count_0_3 : z_ctH zTb ct_count_0_3 := sorry
def ct_count_0_4 : zCt := (258, [.inr (.inr (36, 0)), .inl (0, 4294967295)], [(606209, (2147483648, 2147483648)), (606210, (2147483652, 2147483652))], [(36, 0, 0)], [.inl (some (.inl (2147483628, 2147483672)), [])], 6)
theorem hct_count_0_4 : z_ctH zTb ct_count_0_4 := sorry
def ct_count_0_5 : zCt := (258, [.inr (.inr (36, 0)), .inl (0, 4294967295)], [(606209, (2147483648, 2147483648)), (606210, (2147483653, 2147483653))], [(36, 0, 0)], [.inl (some (.inl (2147483628, 2147483673)), [])], 6)
theorem hct_count_0_5 : z_ctH zTb ct_count_0_5 := sorry
def ct_count_0_6 : zCt := (258, [.inr (.inr (36, 0)), .inl (0, 4294967295)], [(606209, (2147483648, 2147483648)), (606210, (2147483654, 2147483654))], [(36, 0, 0)], [.inl (some (.inl (2147483628, 2147483684)), [])], 6)
theorem hct_count_0_6 : z_ctH zTb ct_count_0_6 := sorry
def ct_count_0_7 : zCt := (258, [.inr (.inr (36, 0)), .inl (0, 4294967295)], [(606209, (2147483648, 2147483648)), (606210, (2147483655, 2147483655))], [(36, 0, 0)], [.inl (some (.inl (2147483628, 2147483697)), [])], 6)
theorem hct_count_0_7 : z_ctH zTb ct_count_0_7 := sorry
def ct_count_0_8 : zCt := (258, [.inr (.inr (36, 0)), .inl (0, 4294967295)], [(606209, (2147483648, 2147483648)), (606210, (2147483656, 2147483656))], [(36, 0, 0)], [.inl (some (.inl (2147483628, 2147483712)), [])], 6)
theorem hct_count_0_8 : z_ctH zTb ct_count_0_8 := sorry
def ct_count_1_4 : zCt := (258, [.inr (.inr (36, 0)), .inl (0, 4294967295)], [(606209, (2147483649, 2147483649)), (606210, (2147483652, 2147483652))], [(36, 0, 0)], [.inl (some (.inl (2147483628, 2147483672)), [])], 6)
theorem hct_count_1_4 : z_ctH zTb ct_count_1_4 := sorry
def ct_count_1_6 : zCt := (258, [.inr (.inr (36, 0)), .inl (0, 4294967295)], [(606209, (2147483649, 2147483649)), (606210, (2147483654, 2147483654))], [(36, 0, 0)], [.inl (some (.inl (2147483628, 2147483684)), [])], 6)
theorem hct_count_1_6 : z_ctH zTb ct_count_1_6 := sorry
def ct_count_1_8 : zCt := (258, [.inr (.inr (36, 0)), .inl (0, 4294967295)], [(606209, (2147483649, 2147483649)), (606210, (2147483656, 2147483656))], [(36, 0, 0)], [.inl (some (.inl (2147483628, 2147483712)), [])], 6)
theorem hct_count_1_8 : z_ctH zTb ct_count_1_8 := sorry
def ct_count_2_8 : zCt := (258, [.inr (.inr (36, 0)), .inl (0, 4294967295)], [(606209, (2147483650, 2147483650)), (606210, (2147483656, 2147483656))], [(36, 0, 0)], [.inl (some (.inl (2147483628, 2147483712)), [])], 6)
theorem hct_count_2_8 : z_ctH zTb ct_count_2_8 := sorry
def ct_count_3_2 : zCt := (258, [.inr (.inr (36, 0)), .inl (0, 4294967295)], [(606209, (2147483651, 2147483651)), (606210, (2147483650, 2147483650))], [(36, 0, 0)], [.inl (some (.inl (2147483628, 2147483672)), [])], 6)
theorem hct_count_3_2 : z_ctH zTb ct_count_3_2 := sorry
def ct_count_3_4 : zCt := (258, [.inr (.inr (36, 0)), .inl (0, 4294967295)], [(606209, (2147483651, 2147483651)), (606210, (2147483652, 2147483652))], [(36, 0, 0)], [.inl (some (.inl (2147483628, 2147483672)), [])], 6)
theorem hct_count_3_4 : z_ctH zTb ct_count_3_4 := sorry
def ct_count_3_8 : zCt := (258, [.inr (.inr (36, 0)), .inl (0, 4294967295)], [(606209, (2147483651, 2147483651)), (606210, (2147483656, 2147483656))], [(36, 0, 0)], [.inl (some (.inl (2147483628, 2147483712)), [])], 6)
theorem hct_count_3_8 : z_ctH zTb ct_count_3_8 := sorry
def ct_rests_0 : zCt := (249, [.inr (.inr (36, 0)), .inl (2147483648, 2147483649)], [(606213, (2147483648, 2147483648))], [(36, 0, 0)], [.inl (some (.inl (2147483649, 2147483649)), [])], 1)
theorem hct_rests_0 : z_ctH zTb ct_rests_0 := sorry
def ct_rests_2 : zCt := (249, [.inr (.inr (36, 0)), .inl (2147483648, 2147483649)], [(606213, (2147483650, 2147483650))], [(36, 0, 0)], [.inl (some (.inl (2147483648, 2147483712)), [])], 3)
def ct_rests_2_p0 : zCt := (249, [.inr (.inr (36, 0)), .inl (2147483648, 2147483649)], [(606209, (2147483648, 2147483650)), (606213, (2147483650, 2147483650))], [(36, 0, 0)], [.inl (some (.inl (2147483648, 2147483712)), [])], 3)
theorem hct_rests_2_p0 : z_ctH zTb ct_rests_2_p0 := sorry
def ct_rests_2_p1 : zCt := (249, [.inr (.inr (36, 0)), .inl (2147483648, 2147483649)], [(606209, (2147483651, 2147483651)), (606213, (2147483650, 2147483650))], [(36, 0, 0)], [.inl (some (.inl (2147483648, 2147483712)), [])], 3)
theorem hct_rests_2_p1 : z_ctH zTb ct_rests_2_p1 := sorry
theorem hct_rests_2 : z_ctH zTb ct_rests_2 := z_ct_joinC (c := ct_rests_2) 606209 [(2147483648, 2147483650), (2147483651, 2147483651)] (by decide +kernel) (List.forall_mem_cons.mpr ⟨hct_rests_2_p0, List.forall_mem_cons.mpr ⟨hct_rests_2_p1, fun _ h => absurd h List.not_mem_nil⟩⟩)

def ct_rests_1_0_2 : zCt := (249, [.inr (.inr (36, 0)), .inl (2147483648, 2147483649)], [(606213, (2147483649, 2147483649)), (606209, (2147483648, 2147483648)), (606210, (2147483650, 2147483650))], [(36, 0, 0)], [.inl (some (.inl (2147483650, 2147483650)), [])], 6)
theorem hct_rests_1_0_2 : z_ctH zTb ct_rests_1_0_2 := sorry
def ct_rests_1_0_3 : zCt := (249, [.inr (.inr (36, 0)), .inl (2147483648, 2147483649)], [(606213, (2147483649, 2147483649)), (606209, (2147483648, 2147483648)), (606210, (2147483651, 2147483651))], [(36, 0, 0)], [.inl (some (.inl (2147483651, 2147483651)), [])], 6)
theorem hct_rests_1_0_3 : z_ctH zTb ct_rests_1_0_3 := sorry
def ct_rests_1_0_4 : zCt := (249, [.inr (.inr (36, 0)), .inl (2147483648, 2147483649)], [(606213, (2147483649, 2147483649)), (606209, (2147483648, 2147483648)), (606210, (2147483652, 2147483652))], [(36, 0, 0)], [.inl (some (.inl (2147483652, 2147483652)), [])], 6)
theorem hct_rests_1_0_4 : z_ctH zTb ct_rests_1_0_4 := sorry
def ct_rests_1_0_5 : zCt := (249, [.inr (.inr (36, 0)), .inl (2147483648, 2147483649)], [(606213, (2147483649, 2147483649)), (606209, (2147483648, 2147483648)), (606210, (2147483653, 2147483653))], [(36, 0, 0)], [.inl (some (.inl (2147483653, 2147483653)), [])], 6)
theorem hct_rests_1_0_5 : z_ctH zTb ct_rests_1_0_5 := sorry
def ct_rests_1_0_6 : zCt := (249, [.inr (.inr (36, 0)), .inl (2147483648, 2147483649)], [(606213, (2147483649, 2147483649)), (606209, (2147483648, 2147483648)), (606210, (2147483654, 2147483654))], [(36, 0, 0)], [.inl (some (.inl (2147483654, 2147483654)), [])], 6)
theorem hct_rests_1_0_6 : z_ctH zTb ct_rests_1_0_6 := sorry
def ct_rests_1_0_7 : zCt := (249, [.inr (.inr (36, 0)), .inl (2147483648, 2147483649)], [(606213, (2147483649, 2147483649)), (606209, (2147483648, 2147483648)), (606210, (2147483655, 2147483655))], [(36, 0, 0)], [.inl (some (.inl (2147483655, 2147483655)), [])], 6)
theorem hct_rests_1_0_7 : z_ctH zTb ct_rests_1_0_7 := sorry
def ct_rests_1_0_8 : zCt := (249, [.inr (.inr (36, 0)), .inl (2147483648, 2147483649)], [(606213, (2147483649, 2147483649)), (606209, (2147483648, 2147483648)), (606210, (2147483656, 2147483656))], [(36, 0, 0)], [.inl (some (.inl (2147483656, 2147483656)), [])], 6)
theorem hct_rests_1_0_8 : z_ctH zTb ct_rests_1_0_8 := sorry
def ct_rests_1_1_4 : zCt := (249, [.inr (.inr (36, 0)), .inl (2147483648, 2147483649)], [(606213, (2147483649, 2147483649)), (606209, (2147483649, 2147483649)), (606210, (2147483652, 2147483652))], [(36, 0, 0)], [.inl (some (.inl (2147483652, 2147483652)), [])], 6)
theorem hct_rests_1_1_4 : z_ctH zTb ct_rests_1_1_4 := sorry
def ct_rests_1_1_6 : zCt := (249, [.inr (.inr (36, 0)), .inl (2147483648, 2147483649)], [(606213, (2147483649, 2147483649)), (606209, (2147483649, 2147483649)), (606210, (2147483654, 2147483654))], [(36, 0, 0)], [.inl (some (.inl (2147483651, 2147483654)), [])], 6)
theorem hct_rests_1_1_6 : z_ctH zTb ct_rests_1_1_6 := sorry
def ct_rests_1_1_8 : zCt := (249, [.inr (.inr (36, 0)), .inl (2147483648, 2147483649)], [(606213, (2147483649, 2147483649)), (606209, (2147483649, 2147483649)), (606210, (2147483656, 2147483656))], [(36, 0, 0)], [.inl (some (.inl (2147483653, 2147483656)), [])], 6)
theorem hct_rests_1_1_8 : z_ctH zTb ct_rests_1_1_8 := sorry
def ct_rests_1_2_8 : zCt := (249, [.inr (.inr (36, 0)), .inl (2147483648, 2147483649)], [(606213, (2147483649, 2147483649)), (606209, (2147483650, 2147483650)), (606210, (2147483656, 2147483656))], [(36, 0, 0)], [.inl (some (.inl (2147483653, 2147483656)), [])], 6)
theorem hct_rests_1_2_8 : z_ctH zTb ct_rests_1_2_8 := sorry
def ct_rests_1_3_2 : zCt := (249, [.inr (.inr (36, 0)), .inl (2147483648, 2147483649)], [(606213, (2147483649, 2147483649)), (606209, (2147483651, 2147483651)), (606210, (2147483650, 2147483650))], [(36, 0, 0)], [.inl (some (.inl (2147483650, 2147483650)), [])], 6)
theorem hct_rests_1_3_2 : z_ctH zTb ct_rests_1_3_2 := sorry
def ct_rests_1_3_4 : zCt := (249, [.inr (.inr (36, 0)), .inl (2147483648, 2147483649)], [(606213, (2147483649, 2147483649)), (606209, (2147483651, 2147483651)), (606210, (2147483652, 2147483652))], [(36, 0, 0)], [.inl (some (.inl (2147483652, 2147483652)), [])], 6)
theorem hct_rests_1_3_4 : z_ctH zTb ct_rests_1_3_4 := sorry
def ct_rests_1_3_8 : zCt := (249, [.inr (.inr (36, 0)), .inl (2147483648, 2147483649)], [(606213, (2147483649, 2147483649)), (606209, (2147483651, 2147483651)), (606210, (2147483656, 2147483656))], [(36, 0, 0)], [.inl (some (.inl (2147483656, 2147483656)), [])], 6)
theorem hct_rests_1_3_8 : z_ctH zTb ct_rests_1_3_8 := sorry
def ct_frees_1_1_0 : zCt := (241, [.inr (.inr (36, 0))], [(606211, (2147483649, 2147483649)), (606212, (2147483649, 2147483649)), (606213, (2147483648, 2147483648))], [(45, 0, 15), (46, 0, 23), (36, 23, 23)], [.inl (none, [(589847, (2147483649, 2147483649)), (753664, (2147483649, 2147483649)), (753667, (2147483648, 2147483648)), (737283, (2147483648, 2147483648)), (737281, (2147483648, 2147483648)), (753666, (2147483648, 2147483648)), (737282, (2147483648, 2147483648)), (737280, (2147483648, 2147483648)), (753665, (2147483649, 2147483649)), (737295, (2147483647, 2147483647)), (737294, (2147483647, 2147483647)), (737293, (2147483647, 2147483647)), (737292, (2147483647, 2147483647)), (737291, (2147483647, 2147483647)), (737290, (2147483647, 2147483647)), (737289, (2147483647, 2147483647)), (737288, (2147483647, 2147483647)), (737287, (2147483647, 2147483647)), (737286, (2147483647, 2147483647)), (737285, (2147483647, 2147483647)), (737284, (2147483647, 2147483647))])], 4)
theorem hct_frees_1_1_0 : z_ctH zTb ct_frees_1_1_0 := sorry
def ct_frees_1_1_1 : zCt := (241, [.inr (.inr (36, 0))], [(606211, (2147483649, 2147483649)), (606212, (2147483649, 2147483649)), (606213, (2147483649, 2147483649))], [(45, 0, 15), (46, 0, 23), (36, 23, 23)], [.inl (none, [(589847, (2147483650, 2147483650)), (753665, (2147483649, 2147483649)), (753664, (2147483648, 2147483648)), (753666, (2147483648, 2147483648)), (737281, (2147483648, 2147483648)), (737280, (2147483648, 2147483648)), (737295, (2147483647, 2147483647)), (737294, (2147483647, 2147483647)), (737293, (2147483647, 2147483647)), (737292, (2147483647, 2147483647)), (737291, (2147483647, 2147483647)), (737290, (2147483647, 2147483647)), (737289, (2147483647, 2147483647)), (737288, (2147483647, 2147483647)), (737287, (2147483647, 2147483647)), (737286, (2147483647, 2147483647)), (737285, (2147483647, 2147483647)), (737284, (2147483647, 2147483647)), (737283, (2147483647, 2147483647)), (737282, (2147483647, 2147483647))])], 4)
theorem hct_frees_1_1_1 : z_ctH zTb ct_frees_1_1_1 := sorry
def ct_frees_1_1_2 : zCt := (241, [.inr (.inr (36, 0))], [(606211, (2147483649, 2147483649)), (606212, (2147483649, 2147483649)), (606213, (2147483650, 2147483650))], [(45, 0, 15), (46, 0, 23), (36, 23, 23)], [.inl (none, [(589847, (2147483650, 2147483650)), (753665, (2147483649, 2147483649)), (753664, (2147483648, 2147483648)), (737295, (2147483647, 2147483647)), (737294, (2147483647, 2147483647)), (737293, (2147483647, 2147483647)), (737292, (2147483647, 2147483647)), (737291, (2147483647, 2147483647)), (737290, (2147483647, 2147483647)), (737289, (2147483647, 2147483647)), (737288, (2147483647, 2147483647)), (737287, (2147483647, 2147483647)), (737286, (2147483647, 2147483647)), (737285, (2147483647, 2147483647)), (737284, (2147483647, 2147483647)), (737283, (2147483647, 2147483647)), (737282, (2147483647, 2147483647)), (737281, (2147483647, 2147483647)), (737280, (2147483648, 2147483648))])], 4)
theorem hct_frees_1_1_2 : z_ctH zTb ct_frees_1_1_2 := sorry
def ct_frees_1_2_0 : zCt := (241, [.inr (.inr (36, 0))], [(606211, (2147483649, 2147483649)), (606212, (2147483650, 2147483650)), (606213, (2147483648, 2147483648))], [(45, 0, 15), (46, 0, 23), (36, 23, 23)], [.inl (none, [(589847, (2147483650, 2147483650)), (753665, (2147483650, 2147483650)), (753664, (2147483649, 2147483649)), (753670, (2147483648, 2147483648)), (737285, (2147483648, 2147483648)), (737283, (2147483648, 2147483648)), (753669, (2147483648, 2147483648)), (737284, (2147483648, 2147483648)), (737282, (2147483648, 2147483648)), (753668, (2147483648, 2147483648)), (737281, (2147483648, 2147483648)), (753667, (2147483648, 2147483648)), (737280, (2147483648, 2147483648)), (753666, (2147483649, 2147483649)), (737295, (2147483647, 2147483647)), (737294, (2147483647, 2147483647)), (737293, (2147483647, 2147483647)), (737292, (2147483647, 2147483647)), (737291, (2147483647, 2147483647)), (737290, (2147483647, 2147483647)), (737289, (2147483647, 2147483647)), (737288, (2147483647, 2147483647)), (737287, (2147483647, 2147483647)), (737286, (2147483647, 2147483647))])], 4)
theorem hct_frees_1_2_0 : z_ctH zTb ct_frees_1_2_0 := sorry
def ct_frees_1_2_1 : zCt := (241, [.inr (.inr (36, 0))], [(606211, (2147483649, 2147483649)), (606212, (2147483650, 2147483650)), (606213, (2147483649, 2147483649))], [(45, 0, 15), (46, 0, 23), (36, 23, 23)], [.inl (none, [(589847, (2147483651, 2147483651)), (753666, (2147483650, 2147483650)), (753665, (2147483649, 2147483649)), (753664, (2147483648, 2147483648)), (753668, (2147483648, 2147483648)), (737282, (2147483648, 2147483648)), (737281, (2147483648, 2147483648)), (753667, (2147483648, 2147483648)), (737280, (2147483648, 2147483648)), (737295, (2147483647, 2147483647)), (737294, (2147483647, 2147483647)), (737293, (2147483647, 2147483647)), (737292, (2147483647, 2147483647)), (737291, (2147483647, 2147483647)), (737290, (2147483647, 2147483647)), (737289, (2147483647, 2147483647)), (737288, (2147483647, 2147483647)), (737287, (2147483647, 2147483647)), (737286, (2147483647, 2147483647)), (737285, (2147483647, 2147483647)), (737284, (2147483647, 2147483647)), (737283, (2147483647, 2147483647))])], 4)
theorem hct_frees_1_2_1 : z_ctH zTb ct_frees_1_2_1 := sorry
def ct_frees_1_2_2 : zCt := (241, [.inr (.inr (36, 0))], [(606211, (2147483649, 2147483649)), (606212, (2147483650, 2147483650)), (606213, (2147483650, 2147483650))], [(45, 0, 15), (46, 0, 23), (36, 23, 23)], [.inl (none, [(589847, (2147483651, 2147483651)), (753666, (2147483651, 2147483651)), (753665, (2147483649, 2147483649)), (753664, (2147483648, 2147483648)), (737281, (2147483648, 2147483648)), (737280, (2147483648, 2147483648)), (753667, (2147483649, 2147483649)), (737295, (2147483647, 2147483647)), (737294, (2147483647, 2147483647)), (737293, (2147483647, 2147483647)), (737292, (2147483647, 2147483647)), (737291, (2147483647, 2147483647)), (737290, (2147483647, 2147483647)), (737289, (2147483647, 2147483647)), (737288, (2147483647, 2147483647)), (737287, (2147483647, 2147483647)), (737286, (2147483647, 2147483647)), (737285, (2147483647, 2147483647)), (737284, (2147483647, 2147483647)), (737283, (2147483647, 2147483647)), (737282, (2147483647, 2147483647))])], 4)
theorem hct_frees_1_2_2 : z_ctH zTb ct_frees_1_2_2 := sorry
def ct_frees_1_3_0 : zCt := (241, [.inr (.inr (36, 0))], [(606211, (2147483649, 2147483649)), (606212, (2147483651, 2147483651)), (606213, (2147483648, 2147483648))], [(45, 0, 15), (46, 0, 23), (36, 23, 23)], [.inl (none, [(589847, (2147483651, 2147483651)), (753666, (2147483651, 2147483651)), (753665, (2147483650, 2147483650)), (753664, (2147483649, 2147483649)), (753673, (2147483648, 2147483648)), (737287, (2147483648, 2147483648)), (737285, (2147483648, 2147483648)), (753672, (2147483648, 2147483648)), (737286, (2147483648, 2147483648)), (737284, (2147483648, 2147483648)), (753671, (2147483648, 2147483648)), (737283, (2147483648, 2147483648)), (753670, (2147483648, 2147483648)), (737282, (2147483648, 2147483648)), (753669, (2147483648, 2147483648)), (737281, (2147483648, 2147483648)), (753668, (2147483648, 2147483648)), (737280, (2147483648, 2147483648)), (753667, (2147483649, 2147483649)), (737295, (2147483647, 2147483647)), (737294, (2147483647, 2147483647)), (737293, (2147483647, 2147483647)), (737292, (2147483647, 2147483647)), (737291, (2147483647, 2147483647)), (737290, (2147483647, 2147483647)), (737289, (2147483647, 2147483647)), (737288, (2147483647, 2147483647))])], 4)
theorem hct_frees_1_3_0 : z_ctH zTb ct_frees_1_3_0 := sorry
def ct_frees_1_3_1 : zCt := (241, [.inr (.inr (36, 0))], [(606211, (2147483649, 2147483649)), (606212, (2147483651, 2147483651)), (606213, (2147483649, 2147483649))], [(45, 0, 15), (46, 0, 23), (36, 23, 23)], [.inl (none, [(589847, (2147483652, 2147483652)), (753667, (2147483651, 2147483651)), (753666, (2147483650, 2147483650)), (753665, (2147483649, 2147483649)), (753664, (2147483648, 2147483648)), (753670, (2147483648, 2147483648)), (737283, (2147483648, 2147483648)), (737282, (2147483648, 2147483648)), (753669, (2147483648, 2147483648)), (737281, (2147483648, 2147483648)), (753668, (2147483648, 2147483648)), (737280, (2147483648, 2147483648)), (737295, (2147483647, 2147483647)), (737294, (2147483647, 2147483647)), (737293, (2147483647, 2147483647)), (737292, (2147483647, 2147483647)), (737291, (2147483647, 2147483647)), (737290, (2147483647, 2147483647)), (737289, (2147483647, 2147483647)), (737288, (2147483647, 2147483647)), (737287, (2147483647, 2147483647)), (737286, (2147483647, 2147483647)), (737285, (2147483647, 2147483647)), (737284, (2147483647, 2147483647))])], 4)
theorem hct_frees_1_3_1 : z_ctH zTb ct_frees_1_3_1 := sorry
def ct_frees_1_3_2 : zCt := (241, [.inr (.inr (36, 0))], [(606211, (2147483649, 2147483649)), (606212, (2147483651, 2147483651)), (606213, (2147483650, 2147483650))], [(45, 0, 15), (46, 0, 23), (36, 23, 23)], [.inl (none, [(589847, (2147483652, 2147483652)), (753667, (2147483653, 2147483653)), (753666, (2147483650, 2147483650)), (753665, (2147483649, 2147483649)), (753664, (2147483648, 2147483648)), (753668, (2147483648, 2147483648)), (737282, (2147483648, 2147483648)), (737281, (2147483648, 2147483648)), (737280, (2147483648, 2147483648)), (753669, (2147483649, 2147483649)), (737295, (2147483647, 2147483647)), (737294, (2147483647, 2147483647)), (737293, (2147483647, 2147483647)), (737292, (2147483647, 2147483647)), (737291, (2147483647, 2147483647)), (737290, (2147483647, 2147483647)), (737289, (2147483647, 2147483647)), (737288, (2147483647, 2147483647)), (737287, (2147483647, 2147483647)), (737286, (2147483647, 2147483647)), (737285, (2147483647, 2147483647)), (737284, (2147483647, 2147483647)), (737283, (2147483647, 2147483647))])], 4)
theorem hct_frees_1_3_2 : z_ctH zTb ct_frees_1_3_2 := sorry
def ct_frees_2_1_0 : zCt := (241, [.inr (.inr (36, 0))], [(606211, (2147483650, 2147483650)), (606212, (2147483649, 2147483649)), (606213, (2147483648, 2147483648))], [(45, 0, 15), (46, 0, 23), (36, 23, 23)], [.inl (none, [(589847, (2147483650, 2147483650)), (753665, (2147483651, 2147483651)), (753664, (2147483650, 2147483650)), (753670, (2147483648, 2147483648)), (737285, (2147483648, 2147483648)), (737282, (2147483648, 2147483648)), (753669, (2147483648, 2147483648)), (737284, (2147483648, 2147483648)), (737281, (2147483648, 2147483648)), (753668, (2147483648, 2147483648)), (737283, (2147483648, 2147483648)), (737280, (2147483648, 2147483648)), (753667, (2147483649, 2147483649)), (753666, (2147483649, 2147483649)), (737295, (2147483647, 2147483647)), (737294, (2147483647, 2147483647)), (737293, (2147483647, 2147483647)), (737292, (2147483647, 2147483647)), (737291, (2147483647, 2147483647)), (737290, (2147483647, 2147483647)), (737289, (2147483647, 2147483647)), (737288, (2147483647, 2147483647)), (737287, (2147483647, 2147483647)), (737286, (2147483647, 2147483647))])], 4)
theorem hct_frees_2_1_0 : z_ctH zTb ct_frees_2_1_0 := sorry
def ct_frees_2_1_1 : zCt := (241, [.inr (.inr (36, 0))], [(606211, (2147483650, 2147483650)), (606212, (2147483649, 2147483649)), (606213, (2147483649, 2147483649))], [(45, 0, 15), (46, 0, 23), (36, 23, 23)], [.inl (none, [(589847, (2147483651, 2147483651)), (753666, (2147483651, 2147483651)), (753665, (2147483650, 2147483650)), (753664, (2147483649, 2147483649)), (753669, (2147483648, 2147483648)), (737283, (2147483648, 2147483648)), (737281, (2147483648, 2147483648)), (753668, (2147483648, 2147483648)), (737282, (2147483648, 2147483648)), (737280, (2147483648, 2147483648)), (753667, (2147483649, 2147483649)), (737295, (2147483647, 2147483647)), (737294, (2147483647, 2147483647)), (737293, (2147483647, 2147483647)), (737292, (2147483647, 2147483647)), (737291, (2147483647, 2147483647)), (737290, (2147483647, 2147483647)), (737289, (2147483647, 2147483647)), (737288, (2147483647, 2147483647)), (737287, (2147483647, 2147483647)), (737286, (2147483647, 2147483647)), (737285, (2147483647, 2147483647)), (737284, (2147483647, 2147483647))])], 4)
theorem hct_frees_2_1_1 : z_ctH zTb ct_frees_2_1_1 := sorry
def ct_frees_2_1_2 : zCt := (241, [.inr (.inr (36, 0))], [(606211, (2147483650, 2147483650)), (606212, (2147483649, 2147483649)), (606213, (2147483650, 2147483650))], [(45, 0, 15), (46, 0, 23), (36, 23, 23)], [.inl (none, [(589847, (2147483651, 2147483651)), (753666, (2147483651, 2147483651)), (753665, (2147483650, 2147483650)), (753664, (2147483649, 2147483649)), (737281, (2147483648, 2147483648)), (737280, (2147483648, 2147483648)), (753667, (2147483649, 2147483649)), (737295, (2147483647, 2147483647)), (737294, (2147483647, 2147483647)), (737293, (2147483647, 2147483647)), (737292, (2147483647, 2147483647)), (737291, (2147483647, 2147483647)), (737290, (2147483647, 2147483647)), (737289, (2147483647, 2147483647)), (737288, (2147483647, 2147483647)), (737287, (2147483647, 2147483647)), (737286, (2147483647, 2147483647)), (737285, (2147483647, 2147483647)), (737284, (2147483647, 2147483647)), (737283, (2147483647, 2147483647)), (737282, (2147483647, 2147483647))])], 4)
theorem hct_frees_2_1_2 : z_ctH zTb ct_frees_2_1_2 := sorry
def ct_frees_2_2_0 : zCt := (241, [.inr (.inr (36, 0))], [(606211, (2147483650, 2147483650)), (606212, (2147483650, 2147483650)), (606213, (2147483648, 2147483648))], [(45, 0, 15), (46, 0, 23), (36, 23, 23)], [.inl (none, [(589847, (2147483652, 2147483652)), (753667, (2147483653, 2147483653)), (753666, (2147483652, 2147483652)), (753665, (2147483651, 2147483651)), (753664, (2147483650, 2147483650)), (753675, (2147483648, 2147483648)), (737288, (2147483648, 2147483648)), (737285, (2147483648, 2147483648)), (753674, (2147483648, 2147483648)), (737287, (2147483648, 2147483648)), (737284, (2147483648, 2147483648)), (753673, (2147483648, 2147483648)), (737286, (2147483648, 2147483648)), (737283, (2147483648, 2147483648)), (753672, (2147483648, 2147483648)), (737282, (2147483648, 2147483648)), (753671, (2147483648, 2147483648)), (737281, (2147483648, 2147483648)), (753670, (2147483648, 2147483648)), (737280, (2147483648, 2147483648)), (753669, (2147483649, 2147483649)), (753668, (2147483649, 2147483649)), (737295, (2147483647, 2147483647)), (737294, (2147483647, 2147483647)), (737293, (2147483647, 2147483647)), (737292, (2147483647, 2147483647)), (737291, (2147483647, 2147483647)), (737290, (2147483647, 2147483647)), (737289, (2147483647, 2147483647))])], 4)
theorem hct_frees_2_2_0 : z_ctH zTb ct_frees_2_2_0 := sorry
def ct_frees_2_2_1 : zCt := (241, [.inr (.inr (36, 0))], [(606211, (2147483650, 2147483650)), (606212, (2147483650, 2147483650)), (606213, (2147483649, 2147483649))], [(45, 0, 15), (46, 0, 23), (36, 23, 23)], [.inl (none, [(589847, (2147483653, 2147483653)), (753668, (2147483653, 2147483653)), (753667, (2147483652, 2147483652)), (753666, (2147483651, 2147483651)), (753665, (2147483650, 2147483650)), (753664, (2147483649, 2147483649)), (753673, (2147483648, 2147483648)), (737285, (2147483648, 2147483648)), (737283, (2147483648, 2147483648)), (753672, (2147483648, 2147483648)), (737284, (2147483648, 2147483648)), (737282, (2147483648, 2147483648)), (753671, (2147483648, 2147483648)), (737281, (2147483648, 2147483648)), (753670, (2147483648, 2147483648)), (737280, (2147483648, 2147483648)), (753669, (2147483649, 2147483649)), (737295, (2147483647, 2147483647)), (737294, (2147483647, 2147483647)), (737293, (2147483647, 2147483647)), (737292, (2147483647, 2147483647)), (737291, (2147483647, 2147483647)), (737290, (2147483647, 2147483647)), (737289, (2147483647, 2147483647)), (737288, (2147483647, 2147483647)), (737287, (2147483647, 2147483647)), (737286, (2147483647, 2147483647))])], 4)
theorem hct_frees_2_2_1 : z_ctH zTb ct_frees_2_2_1 := sorry
def ct_frees_2_2_2 : zCt := (241, [.inr (.inr (36, 0))], [(606211, (2147483650, 2147483650)), (606212, (2147483650, 2147483650)), (606213, (2147483650, 2147483650))], [(45, 0, 15), (46, 0, 23), (36, 23, 23)], [.inl (none, [(589847, (2147483653, 2147483653)), (753668, (2147483655, 2147483655)), (753667, (2147483654, 2147483654)), (753666, (2147483651, 2147483651)), (753665, (2147483650, 2147483650)), (753664, (2147483649, 2147483649)), (753669, (2147483648, 2147483648)), (737283, (2147483648, 2147483648)), (737281, (2147483648, 2147483648)), (737282, (2147483648, 2147483648)), (737280, (2147483648, 2147483648)), (753671, (2147483649, 2147483649)), (753670, (2147483649, 2147483649)), (737295, (2147483647, 2147483647)), (737294, (2147483647, 2147483647)), (737293, (2147483647, 2147483647)), (737292, (2147483647, 2147483647)), (737291, (2147483647, 2147483647)), (737290, (2147483647, 2147483647)), (737289, (2147483647, 2147483647)), (737288, (2147483647, 2147483647)), (737287, (2147483647, 2147483647)), (737286, (2147483647, 2147483647)), (737285, (2147483647, 2147483647)), (737284, (2147483647, 2147483647))])], 4)
theorem hct_frees_2_2_2 : z_ctH zTb ct_frees_2_2_2 := sorry
def ct_frees_3_1_0 : zCt := (241, [.inr (.inr (36, 0))], [(606211, (2147483651, 2147483651)), (606212, (2147483649, 2147483649)), (606213, (2147483648, 2147483648))], [(45, 0, 15), (46, 0, 23), (36, 23, 23)], [.inl (none, [(589847, (2147483651, 2147483651)), (753666, (2147483653, 2147483653)), (753665, (2147483652, 2147483652)), (753664, (2147483651, 2147483651)), (753673, (2147483648, 2147483648)), (737287, (2147483648, 2147483648)), (737283, (2147483648, 2147483648)), (753672, (2147483648, 2147483648)), (737286, (2147483648, 2147483648)), (737282, (2147483648, 2147483648)), (753671, (2147483648, 2147483648)), (737285, (2147483648, 2147483648)), (737281, (2147483648, 2147483648)), (753670, (2147483648, 2147483648)), (737284, (2147483648, 2147483648)), (737280, (2147483648, 2147483648)), (753669, (2147483649, 2147483649)), (753668, (2147483649, 2147483649)), (753667, (2147483649, 2147483649)), (737295, (2147483647, 2147483647)), (737294, (2147483647, 2147483647)), (737293, (2147483647, 2147483647)), (737292, (2147483647, 2147483647)), (737291, (2147483647, 2147483647)), (737290, (2147483647, 2147483647)), (737289, (2147483647, 2147483647)), (737288, (2147483647, 2147483647))])], 4)
theorem hct_frees_3_1_0 : z_ctH zTb ct_frees_3_1_0 := sorry
def ct_frees_3_1_1 : zCt := (241, [.inr (.inr (36, 0))], [(606211, (2147483651, 2147483651)), (606212, (2147483649, 2147483649)), (606213, (2147483649, 2147483649))], [(45, 0, 15), (46, 0, 23), (36, 23, 23)], [.inl (none, [(589847, (2147483652, 2147483652)), (753667, (2147483653, 2147483653)), (753666, (2147483652, 2147483652)), (753665, (2147483651, 2147483651)), (753664, (2147483650, 2147483650)), (753672, (2147483648, 2147483648)), (737285, (2147483648, 2147483648)), (737282, (2147483648, 2147483648)), (753671, (2147483648, 2147483648)), (737284, (2147483648, 2147483648)), (737281, (2147483648, 2147483648)), (753670, (2147483648, 2147483648)), (737283, (2147483648, 2147483648)), (737280, (2147483648, 2147483648)), (753669, (2147483649, 2147483649)), (753668, (2147483649, 2147483649)), (737295, (2147483647, 2147483647)), (737294, (2147483647, 2147483647)), (737293, (2147483647, 2147483647)), (737292, (2147483647, 2147483647)), (737291, (2147483647, 2147483647)), (737290, (2147483647, 2147483647)), (737289, (2147483647, 2147483647)), (737288, (2147483647, 2147483647)), (737287, (2147483647, 2147483647)), (737286, (2147483647, 2147483647))])], 4)
theorem hct_frees_3_1_1 : z_ctH zTb ct_frees_3_1_1 := sorry
def ct_frees_3_1_2 : zCt := (241, [.inr (.inr (36, 0))], [(606211, (2147483651, 2147483651)), (606212, (2147483649, 2147483649)), (606213, (2147483650, 2147483650))], [(45, 0, 15), (46, 0, 23), (36, 23, 23)], [.inl (none, [(589847, (2147483652, 2147483652)), (753667, (2147483653, 2147483653)), (753666, (2147483652, 2147483652)), (753665, (2147483651, 2147483651)), (753664, (2147483650, 2147483650)), (737282, (2147483648, 2147483648)), (737281, (2147483648, 2147483648)), (737280, (2147483648, 2147483648)), (753669, (2147483649, 2147483649)), (753668, (2147483649, 2147483649)), (737295, (2147483647, 2147483647)), (737294, (2147483647, 2147483647)), (737293, (2147483647, 2147483647)), (737292, (2147483647, 2147483647)), (737291, (2147483647, 2147483647)), (737290, (2147483647, 2147483647)), (737289, (2147483647, 2147483647)), (737288, (2147483647, 2147483647)), (737287, (2147483647, 2147483647)), (737286, (2147483647, 2147483647)), (737285, (2147483647, 2147483647)), (737284, (2147483647, 2147483647)), (737283, (2147483647, 2147483647))])], 4)
theorem hct_frees_3_1_2 : z_ctH zTb ct_frees_3_1_2 := sorry
def ct_lists_1_1 : zCt := (242, [.inr (.inr (36, 0)), .inl (2147483649, 2147483649)], [(589847, (2147483649, 2147483649))], [(37, 18, 43)], [.inl (some (.inr (.inl none)), [])], 7)
theorem hct_lists_1_1 : z_ctH zTb ct_lists_1_1 := sorry
def ct_lists_1_0 : zCt := (242, [.inr (.inr (36, 0)), .inl (2147483648, 2147483648)], [(589847, (2147483649, 2147483649))], [(37, 18, 43)], [.inl (some (.inr (.inl none)), [])], 8)
theorem hct_lists_1_0 : z_ctH zTb ct_lists_1_0 := sorry
def ct_lists_2_2 : zCt := (242, [.inr (.inr (36, 0)), .inl (2147483650, 2147483650)], [(589847, (2147483650, 2147483650))], [(37, 18, 43)], [.inl (some (.inr (.inl none)), [])], 7)
theorem hct_lists_2_2 : z_ctH zTb ct_lists_2_2 := sorry
def ct_lists_2_1 : zCt := (242, [.inr (.inr (36, 0)), .inl (2147483649, 2147483649)], [(589847, (2147483650, 2147483650))], [(37, 18, 43)], [.inl (some (.inr (.inl none)), [])], 8)
theorem hct_lists_2_1 : z_ctH zTb ct_lists_2_1 := sorry
def ct_lists_2_0 : zCt := (242, [.inr (.inr (36, 0)), .inl (2147483648, 2147483648)], [(589847, (2147483650, 2147483650))], [(37, 18, 43)], [.inl (some (.inr (.inl none)), [])], 9)
theorem hct_lists_2_0 : z_ctH zTb ct_lists_2_0 := sorry
def ct_lists_3_3 : zCt := (242, [.inr (.inr (36, 0)), .inl (2147483651, 2147483651)], [(589847, (2147483651, 2147483651))], [(37, 18, 43)], [.inl (some (.inr (.inl none)), [])], 7)
theorem hct_lists_3_3 : z_ctH zTb ct_lists_3_3 := sorry
def ct_lists_3_2 : zCt := (242, [.inr (.inr (36, 0)), .inl (2147483650, 2147483650)], [(589847, (2147483651, 2147483651))], [(37, 18, 43)], [.inl (some (.inr (.inl none)), [])], 8)
theorem hct_lists_3_2 : z_ctH zTb ct_lists_3_2 := sorry
def ct_lists_3_1 : zCt := (242, [.inr (.inr (36, 0)), .inl (2147483649, 2147483649)], [(589847, (2147483651, 2147483651))], [(37, 18, 43)], [.inl (some (.inr (.inl none)), [])], 9)
theorem hct_lists_3_1 : z_ctH zTb ct_lists_3_1 := sorry
def ct_lists_3_0 : zCt := (242, [.inr (.inr (36, 0)), .inl (2147483648, 2147483648)], [(589847, (2147483651, 2147483651))], [(37, 18, 43)], [.inl (some (.inr (.inl none)), [])], 10)
theorem hct_lists_3_0 : z_ctH zTb ct_lists_3_0 := sorry
def ct_lists_4_4 : zCt := (242, [.inr (.inr (36, 0)), .inl (2147483652, 2147483652)], [(589847, (2147483652, 2147483652))], [(37, 18, 43)], [.inl (some (.inr (.inl none)), [])], 7)
theorem hct_lists_4_4 : z_ctH zTb ct_lists_4_4 := sorry
def ct_lists_4_3 : zCt := (242, [.inr (.inr (36, 0)), .inl (2147483651, 2147483651)], [(589847, (2147483652, 2147483652))], [(37, 18, 43)], [.inl (some (.inr (.inl none)), [])], 8)
theorem hct_lists_4_3 : z_ctH zTb ct_lists_4_3 := sorry
def ct_lists_4_2 : zCt := (242, [.inr (.inr (36, 0)), .inl (2147483650, 2147483650)], [(589847, (2147483652, 2147483652))], [(37, 18, 43)], [.inl (some (.inr (.inl none)), [])], 9)
theorem hct_lists_4_2 : z_ctH zTb ct_lists_4_2 := sorry
def ct_lists_4_1 : zCt := (242, [.inr (.inr (36, 0)), .inl (2147483649, 2147483649)], [(589847, (2147483652, 2147483652))], [(37, 18, 43)], [.inl (some (.inr (.inl none)), [])], 10)
theorem hct_lists_4_1 : z_ctH zTb ct_lists_4_1 := sorry
def ct_lists_4_0 : zCt := (242, [.inr (.inr (36, 0)), .inl (2147483648, 2147483648)], [(589847, (2147483652, 2147483652))], [(37, 18, 43)], [.inl (some (.inr (.inl none)), [])], 11)
theorem hct_lists_4_0 : z_ctH zTb ct_lists_4_0 := sorry
def ct_lists_5_5 : zCt := (242, [.inr (.inr (36, 0)), .inl (2147483653, 2147483653)], [(589847, (2147483653, 2147483653))], [(37, 18, 43)], [.inl (some (.inr (.inl none)), [])], 7)
theorem hct_lists_5_5 : z_ctH zTb ct_lists_5_5 := sorry
def ct_lists_5_4 : zCt := (242, [.inr (.inr (36, 0)), .inl (2147483652, 2147483652)], [(589847, (2147483653, 2147483653))], [(37, 18, 43)], [.inl (some (.inr (.inl none)), [])], 8)
theorem hct_lists_5_4 : z_ctH zTb ct_lists_5_4 := sorry
def ct_lists_5_3 : zCt := (242, [.inr (.inr (36, 0)), .inl (2147483651, 2147483651)], [(589847, (2147483653, 2147483653))], [(37, 18, 43)], [.inl (some (.inr (.inl none)), [])], 9)
theorem hct_lists_5_3 : z_ctH zTb ct_lists_5_3 := sorry
def ct_lists_5_2 : zCt := (242, [.inr (.inr (36, 0)), .inl (2147483650, 2147483650)], [(589847, (2147483653, 2147483653))], [(37, 18, 43)], [.inl (some (.inr (.inl none)), [])], 10)
theorem hct_lists_5_2 : z_ctH zTb ct_lists_5_2 := sorry
def ct_lists_5_1 : zCt := (242, [.inr (.inr (36, 0)), .inl (2147483649, 2147483649)], [(589847, (2147483653, 2147483653))], [(37, 18, 43)], [.inl (some (.inr (.inl none)), [])], 11)
theorem hct_lists_5_1 : z_ctH zTb ct_lists_5_1 := sorry
def ct_lists_5_0 : zCt := (242, [.inr (.inr (36, 0)), .inl (2147483648, 2147483648)], [(589847, (2147483653, 2147483653))], [(37, 18, 43)], [.inl (some (.inr (.inl none)), [])], 12)
theorem hct_lists_5_0 : z_ctH zTb ct_lists_5_0 := sorry
def ct_listed_1_1_0 : zCt := (243, [.inr (.inr (36, 0))], [(606211, (2147483649, 2147483649)), (606212, (2147483649, 2147483649)), (606213, (2147483648, 2147483648))], [(36, 0, 0), (37, 18, 43), (45, 0, 15), (46, 0, 23), (36, 23, 23), (39, 20, 43)], [.inl (some (.inr (.inl none)), [(589824, (2147483648, 2147483648)), (589847, (2147483649, 2147483649)), (753664, (2147483649, 2147483649)), (753667, (2147483648, 2147483648)), (737283, (2147483648, 2147483648)), (737281, (2147483648, 2147483648)), (753666, (2147483648, 2147483648)), (737282, (2147483648, 2147483648)), (737280, (2147483648, 2147483648)), (753665, (2147483649, 2147483649)), (737295, (2147483647, 2147483647)), (737294, (2147483647, 2147483647)), (737293, (2147483647, 2147483647)), (737292, (2147483647, 2147483647)), (737291, (2147483647, 2147483647)), (737290, (2147483647, 2147483647)), (737289, (2147483647, 2147483647)), (737288, (2147483647, 2147483647)), (737287, (2147483647, 2147483647)), (737286, (2147483647, 2147483647)), (737285, (2147483647, 2147483647)), (737284, (2147483647, 2147483647))])], 9)
theorem hct_listed_1_1_0 : z_ctH zTb ct_listed_1_1_0 := sorry
def ct_listed_1_1_1 : zCt := (243, [.inr (.inr (36, 0))], [(606211, (2147483649, 2147483649)), (606212, (2147483649, 2147483649)), (606213, (2147483649, 2147483649))], [(36, 0, 0), (37, 18, 43), (45, 0, 15), (46, 0, 23), (36, 23, 23), (39, 20, 43)], [.inl (some (.inr (.inl none)), [(589824, (2147483648, 2147483648)), (589847, (2147483650, 2147483650)), (753665, (2147483649, 2147483649)), (753664, (2147483648, 2147483648)), (753666, (2147483648, 2147483648)), (737281, (2147483648, 2147483648)), (737280, (2147483648, 2147483648)), (737295, (2147483647, 2147483647)), (737294, (2147483647, 2147483647)), (737293, (2147483647, 2147483647)), (737292, (2147483647, 2147483647)), (737291, (2147483647, 2147483647)), (737290, (2147483647, 2147483647)), (737289, (2147483647, 2147483647)), (737288, (2147483647, 2147483647)), (737287, (2147483647, 2147483647)), (737286, (2147483647, 2147483647)), (737285, (2147483647, 2147483647)), (737284, (2147483647, 2147483647)), (737283, (2147483647, 2147483647)), (737282, (2147483647, 2147483647))])], 10)
theorem hct_listed_1_1_1 : z_ctH zTb ct_listed_1_1_1 := sorry
def ct_listed_1_1_2 : zCt := (243, [.inr (.inr (36, 0))], [(606211, (2147483649, 2147483649)), (606212, (2147483649, 2147483649)), (606213, (2147483650, 2147483650))], [(36, 0, 0), (37, 18, 43), (45, 0, 15), (46, 0, 23), (36, 23, 23), (39, 20, 43)], [.inl (some (.inr (.inl none)), [(589824, (2147483648, 2147483648)), (589847, (2147483650, 2147483650)), (753665, (2147483649, 2147483649)), (753664, (2147483648, 2147483648)), (737295, (2147483647, 2147483647)), (737294, (2147483647, 2147483647)), (737293, (2147483647, 2147483647)), (737292, (2147483647, 2147483647)), (737291, (2147483647, 2147483647)), (737290, (2147483647, 2147483647)), (737289, (2147483647, 2147483647)), (737288, (2147483647, 2147483647)), (737287, (2147483647, 2147483647)), (737286, (2147483647, 2147483647)), (737285, (2147483647, 2147483647)), (737284, (2147483647, 2147483647)), (737283, (2147483647, 2147483647)), (737282, (2147483647, 2147483647)), (737281, (2147483647, 2147483647)), (737280, (2147483648, 2147483648))])], 10)
theorem hct_listed_1_1_2 : z_ctH zTb ct_listed_1_1_2 := sorry
def ct_listed_1_2_0 : zCt := (243, [.inr (.inr (36, 0))], [(606211, (2147483649, 2147483649)), (606212, (2147483650, 2147483650)), (606213, (2147483648, 2147483648))], [(36, 0, 0), (37, 18, 43), (45, 0, 15), (46, 0, 23), (36, 23, 23), (39, 20, 43)], [.inl (some (.inr (.inl none)), [(589824, (2147483648, 2147483648)), (589847, (2147483650, 2147483650)), (753665, (2147483650, 2147483650)), (753664, (2147483649, 2147483649)), (753670, (2147483648, 2147483648)), (737285, (2147483648, 2147483648)), (737283, (2147483648, 2147483648)), (753669, (2147483648, 2147483648)), (737284, (2147483648, 2147483648)), (737282, (2147483648, 2147483648)), (753668, (2147483648, 2147483648)), (737281, (2147483648, 2147483648)), (753667, (2147483648, 2147483648)), (737280, (2147483648, 2147483648)), (753666, (2147483649, 2147483649)), (737295, (2147483647, 2147483647)), (737294, (2147483647, 2147483647)), (737293, (2147483647, 2147483647)), (737292, (2147483647, 2147483647)), (737291, (2147483647, 2147483647)), (737290, (2147483647, 2147483647)), (737289, (2147483647, 2147483647)), (737288, (2147483647, 2147483647)), (737287, (2147483647, 2147483647)), (737286, (2147483647, 2147483647))])], 10)
theorem hct_listed_1_2_0 : z_ctH zTb ct_listed_1_2_0 := sorry
def ct_listed_1_2_1 : zCt := (243, [.inr (.inr (36, 0))], [(606211, (2147483649, 2147483649)), (606212, (2147483650, 2147483650)), (606213, (2147483649, 2147483649))], [(36, 0, 0), (37, 18, 43), (45, 0, 15), (46, 0, 23), (36, 23, 23), (39, 20, 43)], [.inl (some (.inr (.inl none)), [(589824, (2147483648, 2147483648)), (589847, (2147483651, 2147483651)), (753666, (2147483650, 2147483650)), (753665, (2147483649, 2147483649)), (753664, (2147483648, 2147483648)), (753668, (2147483648, 2147483648)), (737282, (2147483648, 2147483648)), (737281, (2147483648, 2147483648)), (753667, (2147483648, 2147483648)), (737280, (2147483648, 2147483648)), (737295, (2147483647, 2147483647)), (737294, (2147483647, 2147483647)), (737293, (2147483647, 2147483647)), (737292, (2147483647, 2147483647)), (737291, (2147483647, 2147483647)), (737290, (2147483647, 2147483647)), (737289, (2147483647, 2147483647)), (737288, (2147483647, 2147483647)), (737287, (2147483647, 2147483647)), (737286, (2147483647, 2147483647)), (737285, (2147483647, 2147483647)), (737284, (2147483647, 2147483647)), (737283, (2147483647, 2147483647))])], 11)
theorem hct_listed_1_2_1 : z_ctH zTb ct_listed_1_2_1 := sorry
def ct_listed_1_2_2 : zCt := (243, [.inr (.inr (36, 0))], [(606211, (2147483649, 2147483649)), (606212, (2147483650, 2147483650)), (606213, (2147483650, 2147483650))], [(36, 0, 0), (37, 18, 43), (45, 0, 15), (46, 0, 23), (36, 23, 23), (39, 20, 43)], [.inl (some (.inr (.inl none)), [(589824, (2147483648, 2147483648)), (589847, (2147483651, 2147483651)), (753666, (2147483651, 2147483651)), (753665, (2147483649, 2147483649)), (753664, (2147483648, 2147483648)), (737281, (2147483648, 2147483648)), (737280, (2147483648, 2147483648)), (753667, (2147483649, 2147483649)), (737295, (2147483647, 2147483647)), (737294, (2147483647, 2147483647)), (737293, (2147483647, 2147483647)), (737292, (2147483647, 2147483647)), (737291, (2147483647, 2147483647)), (737290, (2147483647, 2147483647)), (737289, (2147483647, 2147483647)), (737288, (2147483647, 2147483647)), (737287, (2147483647, 2147483647)), (737286, (2147483647, 2147483647)), (737285, (2147483647, 2147483647)), (737284, (2147483647, 2147483647)), (737283, (2147483647, 2147483647)), (737282, (2147483647, 2147483647))])], 11)
theorem hct_listed_1_2_2 : z_ctH zTb ct_listed_1_2_2 := sorry
def ct_listed_1_3_0 : zCt := (243, [.inr (.inr (36, 0))], [(606211, (2147483649, 2147483649)), (606212, (2147483651, 2147483651)), (606213, (2147483648, 2147483648))], [(36, 0, 0), (37, 18, 43), (45, 0, 15), (46, 0, 23), (36, 23, 23), (39, 20, 43)], [.inl (some (.inr (.inl none)), [(589824, (2147483648, 2147483648)), (589847, (2147483651, 2147483651)), (753666, (2147483651, 2147483651)), (753665, (2147483650, 2147483650)), (753664, (2147483649, 2147483649)), (753673, (2147483648, 2147483648)), (737287, (2147483648, 2147483648)), (737285, (2147483648, 2147483648)), (753672, (2147483648, 2147483648)), (737286, (2147483648, 2147483648)), (737284, (2147483648, 2147483648)), (753671, (2147483648, 2147483648)), (737283, (2147483648, 2147483648)), (753670, (2147483648, 2147483648)), (737282, (2147483648, 2147483648)), (753669, (2147483648, 2147483648)), (737281, (2147483648, 2147483648)), (753668, (2147483648, 2147483648)), (737280, (2147483648, 2147483648)), (753667, (2147483649, 2147483649)), (737295, (2147483647, 2147483647)), (737294, (2147483647, 2147483647)), (737293, (2147483647, 2147483647)), (737292, (2147483647, 2147483647)), (737291, (2147483647, 2147483647)), (737290, (2147483647, 2147483647)), (737289, (2147483647, 2147483647)), (737288, (2147483647, 2147483647))])], 11)
theorem hct_listed_1_3_0 : z_ctH zTb ct_listed_1_3_0 := sorry
def ct_listed_1_3_1 : zCt := (243, [.inr (.inr (36, 0))], [(606211, (2147483649, 2147483649)), (606212, (2147483651, 2147483651)), (606213, (2147483649, 2147483649))], [(36, 0, 0), (37, 18, 43), (45, 0, 15), (46, 0, 23), (36, 23, 23), (39, 20, 43)], [.inl (some (.inr (.inl none)), [(589824, (2147483648, 2147483648)), (589847, (2147483652, 2147483652)), (753667, (2147483651, 2147483651)), (753666, (2147483650, 2147483650)), (753665, (2147483649, 2147483649)), (753664, (2147483648, 2147483648)), (753670, (2147483648, 2147483648)), (737283, (2147483648, 2147483648)), (737282, (2147483648, 2147483648)), (753669, (2147483648, 2147483648)), (737281, (2147483648, 2147483648)), (753668, (2147483648, 2147483648)), (737280, (2147483648, 2147483648)), (737295, (2147483647, 2147483647)), (737294, (2147483647, 2147483647)), (737293, (2147483647, 2147483647)), (737292, (2147483647, 2147483647)), (737291, (2147483647, 2147483647)), (737290, (2147483647, 2147483647)), (737289, (2147483647, 2147483647)), (737288, (2147483647, 2147483647)), (737287, (2147483647, 2147483647)), (737286, (2147483647, 2147483647)), (737285, (2147483647, 2147483647)), (737284, (2147483647, 2147483647))])], 12)
theorem hct_listed_1_3_1 : z_ctH zTb ct_listed_1_3_1 := sorry
def ct_listed_1_3_2 : zCt := (243, [.inr (.inr (36, 0))], [(606211, (2147483649, 2147483649)), (606212, (2147483651, 2147483651)), (606213, (2147483650, 2147483650))], [(36, 0, 0), (37, 18, 43), (45, 0, 15), (46, 0, 23), (36, 23, 23), (39, 20, 43)], [.inl (some (.inr (.inl none)), [(589824, (2147483648, 2147483648)), (589847, (2147483652, 2147483652)), (753667, (2147483653, 2147483653)), (753666, (2147483650, 2147483650)), (753665, (2147483649, 2147483649)), (753664, (2147483648, 2147483648)), (753668, (2147483648, 2147483648)), (737282, (2147483648, 2147483648)), (737281, (2147483648, 2147483648)), (737280, (2147483648, 2147483648)), (753669, (2147483649, 2147483649)), (737295, (2147483647, 2147483647)), (737294, (2147483647, 2147483647)), (737293, (2147483647, 2147483647)), (737292, (2147483647, 2147483647)), (737291, (2147483647, 2147483647)), (737290, (2147483647, 2147483647)), (737289, (2147483647, 2147483647)), (737288, (2147483647, 2147483647)), (737287, (2147483647, 2147483647)), (737286, (2147483647, 2147483647)), (737285, (2147483647, 2147483647)), (737284, (2147483647, 2147483647)), (737283, (2147483647, 2147483647))])], 12)
theorem hct_listed_1_3_2 : z_ctH zTb ct_listed_1_3_2 := sorry
def ct_listed_2_1_0 : zCt := (243, [.inr (.inr (36, 0))], [(606211, (2147483650, 2147483650)), (606212, (2147483649, 2147483649)), (606213, (2147483648, 2147483648))], [(36, 0, 0), (37, 18, 43), (45, 0, 15), (46, 0, 23), (36, 23, 23), (39, 20, 43)], [.inl (some (.inr (.inl none)), [(589824, (2147483648, 2147483648)), (589847, (2147483650, 2147483650)), (753665, (2147483651, 2147483651)), (753664, (2147483650, 2147483650)), (753670, (2147483648, 2147483648)), (737285, (2147483648, 2147483648)), (737282, (2147483648, 2147483648)), (753669, (2147483648, 2147483648)), (737284, (2147483648, 2147483648)), (737281, (2147483648, 2147483648)), (753668, (2147483648, 2147483648)), (737283, (2147483648, 2147483648)), (737280, (2147483648, 2147483648)), (753667, (2147483649, 2147483649)), (753666, (2147483649, 2147483649)), (737295, (2147483647, 2147483647)), (737294, (2147483647, 2147483647)), (737293, (2147483647, 2147483647)), (737292, (2147483647, 2147483647)), (737291, (2147483647, 2147483647)), (737290, (2147483647, 2147483647)), (737289, (2147483647, 2147483647)), (737288, (2147483647, 2147483647)), (737287, (2147483647, 2147483647)), (737286, (2147483647, 2147483647))])], 10)
theorem hct_listed_2_1_0 : z_ctH zTb ct_listed_2_1_0 := sorry
def ct_listed_2_1_1 : zCt := (243, [.inr (.inr (36, 0))], [(606211, (2147483650, 2147483650)), (606212, (2147483649, 2147483649)), (606213, (2147483649, 2147483649))], [(36, 0, 0), (37, 18, 43), (45, 0, 15), (46, 0, 23), (36, 23, 23), (39, 20, 43)], [.inl (some (.inr (.inl none)), [(589824, (2147483648, 2147483648)), (589847, (2147483651, 2147483651)), (753666, (2147483651, 2147483651)), (753665, (2147483650, 2147483650)), (753664, (2147483649, 2147483649)), (753669, (2147483648, 2147483648)), (737283, (2147483648, 2147483648)), (737281, (2147483648, 2147483648)), (753668, (2147483648, 2147483648)), (737282, (2147483648, 2147483648)), (737280, (2147483648, 2147483648)), (753667, (2147483649, 2147483649)), (737295, (2147483647, 2147483647)), (737294, (2147483647, 2147483647)), (737293, (2147483647, 2147483647)), (737292, (2147483647, 2147483647)), (737291, (2147483647, 2147483647)), (737290, (2147483647, 2147483647)), (737289, (2147483647, 2147483647)), (737288, (2147483647, 2147483647)), (737287, (2147483647, 2147483647)), (737286, (2147483647, 2147483647)), (737285, (2147483647, 2147483647)), (737284, (2147483647, 2147483647))])], 11)
theorem hct_listed_2_1_1 : z_ctH zTb ct_listed_2_1_1 := sorry
def ct_listed_2_1_2 : zCt := (243, [.inr (.inr (36, 0))], [(606211, (2147483650, 2147483650)), (606212, (2147483649, 2147483649)), (606213, (2147483650, 2147483650))], [(36, 0, 0), (37, 18, 43), (45, 0, 15), (46, 0, 23), (36, 23, 23), (39, 20, 43)], [.inl (some (.inr (.inl none)), [(589824, (2147483648, 2147483648)), (589847, (2147483651, 2147483651)), (753666, (2147483651, 2147483651)), (753665, (2147483650, 2147483650)), (753664, (2147483649, 2147483649)), (737281, (2147483648, 2147483648)), (737280, (2147483648, 2147483648)), (753667, (2147483649, 2147483649)), (737295, (2147483647, 2147483647)), (737294, (2147483647, 2147483647)), (737293, (2147483647, 2147483647)), (737292, (2147483647, 2147483647)), (737291, (2147483647, 2147483647)), (737290, (2147483647, 2147483647)), (737289, (2147483647, 2147483647)), (737288, (2147483647, 2147483647)), (737287, (2147483647, 2147483647)), (737286, (2147483647, 2147483647)), (737285, (2147483647, 2147483647)), (737284, (2147483647, 2147483647)), (737283, (2147483647, 2147483647)), (737282, (2147483647, 2147483647))])], 11)
theorem hct_listed_2_1_2 : z_ctH zTb ct_listed_2_1_2 := sorry
def ct_listed_2_2_0 : zCt := (243, [.inr (.inr (36, 0))], [(606211, (2147483650, 2147483650)), (606212, (2147483650, 2147483650)), (606213, (2147483648, 2147483648))], [(36, 0, 0), (37, 18, 43), (45, 0, 15), (46, 0, 23), (36, 23, 23), (39, 20, 43)], [.inl (some (.inr (.inl none)), [(589824, (2147483648, 2147483648)), (589847, (2147483652, 2147483652)), (753667, (2147483653, 2147483653)), (753666, (2147483652, 2147483652)), (753665, (2147483651, 2147483651)), (753664, (2147483650, 2147483650)), (753675, (2147483648, 2147483648)), (737288, (2147483648, 2147483648)), (737285, (2147483648, 2147483648)), (753674, (2147483648, 2147483648)), (737287, (2147483648, 2147483648)), (737284, (2147483648, 2147483648)), (753673, (2147483648, 2147483648)), (737286, (2147483648, 2147483648)), (737283, (2147483648, 2147483648)), (753672, (2147483648, 2147483648)), (737282, (2147483648, 2147483648)), (753671, (2147483648, 2147483648)), (737281, (2147483648, 2147483648)), (753670, (2147483648, 2147483648)), (737280, (2147483648, 2147483648)), (753669, (2147483649, 2147483649)), (753668, (2147483649, 2147483649)), (737295, (2147483647, 2147483647)), (737294, (2147483647, 2147483647)), (737293, (2147483647, 2147483647)), (737292, (2147483647, 2147483647)), (737291, (2147483647, 2147483647)), (737290, (2147483647, 2147483647)), (737289, (2147483647, 2147483647))])], 12)
theorem hct_listed_2_2_0 : z_ctH zTb ct_listed_2_2_0 := sorry
def ct_listed_2_2_1 : zCt := (243, [.inr (.inr (36, 0))], [(606211, (2147483650, 2147483650)), (606212, (2147483650, 2147483650)), (606213, (2147483649, 2147483649))], [(36, 0, 0), (37, 18, 43), (45, 0, 15), (46, 0, 23), (36, 23, 23), (39, 20, 43)], [.inl (some (.inr (.inl none)), [(589824, (2147483648, 2147483648)), (589847, (2147483653, 2147483653)), (753668, (2147483653, 2147483653)), (753667, (2147483652, 2147483652)), (753666, (2147483651, 2147483651)), (753665, (2147483650, 2147483650)), (753664, (2147483649, 2147483649)), (753673, (2147483648, 2147483648)), (737285, (2147483648, 2147483648)), (737283, (2147483648, 2147483648)), (753672, (2147483648, 2147483648)), (737284, (2147483648, 2147483648)), (737282, (2147483648, 2147483648)), (753671, (2147483648, 2147483648)), (737281, (2147483648, 2147483648)), (753670, (2147483648, 2147483648)), (737280, (2147483648, 2147483648)), (753669, (2147483649, 2147483649)), (737295, (2147483647, 2147483647)), (737294, (2147483647, 2147483647)), (737293, (2147483647, 2147483647)), (737292, (2147483647, 2147483647)), (737291, (2147483647, 2147483647)), (737290, (2147483647, 2147483647)), (737289, (2147483647, 2147483647)), (737288, (2147483647, 2147483647)), (737287, (2147483647, 2147483647)), (737286, (2147483647, 2147483647))])], 13)
theorem hct_listed_2_2_1 : z_ctH zTb ct_listed_2_2_1 := sorry
def ct_listed_2_2_2 : zCt := (243, [.inr (.inr (36, 0))], [(606211, (2147483650, 2147483650)), (606212, (2147483650, 2147483650)), (606213, (2147483650, 2147483650))], [(36, 0, 0), (37, 18, 43), (45, 0, 15), (46, 0, 23), (36, 23, 23), (39, 20, 43)], [.inl (some (.inr (.inl none)), [(589824, (2147483648, 2147483648)), (589847, (2147483653, 2147483653)), (753668, (2147483655, 2147483655)), (753667, (2147483654, 2147483654)), (753666, (2147483651, 2147483651)), (753665, (2147483650, 2147483650)), (753664, (2147483649, 2147483649)), (753669, (2147483648, 2147483648)), (737283, (2147483648, 2147483648)), (737281, (2147483648, 2147483648)), (737282, (2147483648, 2147483648)), (737280, (2147483648, 2147483648)), (753671, (2147483649, 2147483649)), (753670, (2147483649, 2147483649)), (737295, (2147483647, 2147483647)), (737294, (2147483647, 2147483647)), (737293, (2147483647, 2147483647)), (737292, (2147483647, 2147483647)), (737291, (2147483647, 2147483647)), (737290, (2147483647, 2147483647)), (737289, (2147483647, 2147483647)), (737288, (2147483647, 2147483647)), (737287, (2147483647, 2147483647)), (737286, (2147483647, 2147483647)), (737285, (2147483647, 2147483647)), (737284, (2147483647, 2147483647))])], 13)
theorem hct_listed_2_2_2 : z_ctH zTb ct_listed_2_2_2 := sorry
def ct_listed_2_3_0 : zCt := (243, [.inr (.inr (36, 0))], [(606211, (2147483650, 2147483650)), (606212, (2147483651, 2147483651)), (606213, (2147483648, 2147483648))], [(36, 0, 0), (37, 18, 43), (45, 0, 15), (46, 0, 23), (36, 23, 23), (39, 20, 43)], [.inl (some (.inr (.inl none)), [(589824, (2147483649, 2147483649))])], 1)
theorem hct_listed_2_3_0 : z_ctH zTb ct_listed_2_3_0 := sorry
def ct_listed_2_3_1 : zCt := (243, [.inr (.inr (36, 0))], [(606211, (2147483650, 2147483650)), (606212, (2147483651, 2147483651)), (606213, (2147483649, 2147483649))], [(36, 0, 0), (37, 18, 43), (45, 0, 15), (46, 0, 23), (36, 23, 23), (39, 20, 43)], [.inl (some (.inr (.inl none)), [(589824, (2147483649, 2147483649))])], 1)
theorem hct_listed_2_3_1 : z_ctH zTb ct_listed_2_3_1 := sorry
def ct_listed_2_3_2 : zCt := (243, [.inr (.inr (36, 0))], [(606211, (2147483650, 2147483650)), (606212, (2147483651, 2147483651)), (606213, (2147483650, 2147483650))], [(36, 0, 0), (37, 18, 43), (45, 0, 15), (46, 0, 23), (36, 23, 23), (39, 20, 43)], [.inl (some (.inr (.inl none)), [(589824, (2147483649, 2147483649))])], 1)
theorem hct_listed_2_3_2 : z_ctH zTb ct_listed_2_3_2 := sorry
def ct_listed_3_1_0 : zCt := (243, [.inr (.inr (36, 0))], [(606211, (2147483651, 2147483651)), (606212, (2147483649, 2147483649)), (606213, (2147483648, 2147483648))], [(36, 0, 0), (37, 18, 43), (45, 0, 15), (46, 0, 23), (36, 23, 23), (39, 20, 43)], [.inl (some (.inr (.inl none)), [(589824, (2147483648, 2147483648)), (589847, (2147483651, 2147483651)), (753666, (2147483653, 2147483653)), (753665, (2147483652, 2147483652)), (753664, (2147483651, 2147483651)), (753673, (2147483648, 2147483648)), (737287, (2147483648, 2147483648)), (737283, (2147483648, 2147483648)), (753672, (2147483648, 2147483648)), (737286, (2147483648, 2147483648)), (737282, (2147483648, 2147483648)), (753671, (2147483648, 2147483648)), (737285, (2147483648, 2147483648)), (737281, (2147483648, 2147483648)), (753670, (2147483648, 2147483648)), (737284, (2147483648, 2147483648)), (737280, (2147483648, 2147483648)), (753669, (2147483649, 2147483649)), (753668, (2147483649, 2147483649)), (753667, (2147483649, 2147483649)), (737295, (2147483647, 2147483647)), (737294, (2147483647, 2147483647)), (737293, (2147483647, 2147483647)), (737292, (2147483647, 2147483647)), (737291, (2147483647, 2147483647)), (737290, (2147483647, 2147483647)), (737289, (2147483647, 2147483647)), (737288, (2147483647, 2147483647))])], 11)
theorem hct_listed_3_1_0 : z_ctH zTb ct_listed_3_1_0 := sorry
def ct_listed_3_1_1 : zCt := (243, [.inr (.inr (36, 0))], [(606211, (2147483651, 2147483651)), (606212, (2147483649, 2147483649)), (606213, (2147483649, 2147483649))], [(36, 0, 0), (37, 18, 43), (45, 0, 15), (46, 0, 23), (36, 23, 23), (39, 20, 43)], [.inl (some (.inr (.inl none)), [(589824, (2147483648, 2147483648)), (589847, (2147483652, 2147483652)), (753667, (2147483653, 2147483653)), (753666, (2147483652, 2147483652)), (753665, (2147483651, 2147483651)), (753664, (2147483650, 2147483650)), (753672, (2147483648, 2147483648)), (737285, (2147483648, 2147483648)), (737282, (2147483648, 2147483648)), (753671, (2147483648, 2147483648)), (737284, (2147483648, 2147483648)), (737281, (2147483648, 2147483648)), (753670, (2147483648, 2147483648)), (737283, (2147483648, 2147483648)), (737280, (2147483648, 2147483648)), (753669, (2147483649, 2147483649)), (753668, (2147483649, 2147483649)), (737295, (2147483647, 2147483647)), (737294, (2147483647, 2147483647)), (737293, (2147483647, 2147483647)), (737292, (2147483647, 2147483647)), (737291, (2147483647, 2147483647)), (737290, (2147483647, 2147483647)), (737289, (2147483647, 2147483647)), (737288, (2147483647, 2147483647)), (737287, (2147483647, 2147483647)), (737286, (2147483647, 2147483647))])], 12)
theorem hct_listed_3_1_1 : z_ctH zTb ct_listed_3_1_1 := sorry
def ct_listed_3_1_2 : zCt := (243, [.inr (.inr (36, 0))], [(606211, (2147483651, 2147483651)), (606212, (2147483649, 2147483649)), (606213, (2147483650, 2147483650))], [(36, 0, 0), (37, 18, 43), (45, 0, 15), (46, 0, 23), (36, 23, 23), (39, 20, 43)], [.inl (some (.inr (.inl none)), [(589824, (2147483648, 2147483648)), (589847, (2147483652, 2147483652)), (753667, (2147483653, 2147483653)), (753666, (2147483652, 2147483652)), (753665, (2147483651, 2147483651)), (753664, (2147483650, 2147483650)), (737282, (2147483648, 2147483648)), (737281, (2147483648, 2147483648)), (737280, (2147483648, 2147483648)), (753669, (2147483649, 2147483649)), (753668, (2147483649, 2147483649)), (737295, (2147483647, 2147483647)), (737294, (2147483647, 2147483647)), (737293, (2147483647, 2147483647)), (737292, (2147483647, 2147483647)), (737291, (2147483647, 2147483647)), (737290, (2147483647, 2147483647)), (737289, (2147483647, 2147483647)), (737288, (2147483647, 2147483647)), (737287, (2147483647, 2147483647)), (737286, (2147483647, 2147483647)), (737285, (2147483647, 2147483647)), (737284, (2147483647, 2147483647)), (737283, (2147483647, 2147483647))])], 12)
theorem hct_listed_3_1_2 : z_ctH zTb ct_listed_3_1_2 := sorry
def ct_listed_3_2_0 : zCt := (243, [.inr (.inr (36, 0))], [(606211, (2147483651, 2147483651)), (606212, (2147483650, 2147483650)), (606213, (2147483648, 2147483648))], [(36, 0, 0), (37, 18, 43), (45, 0, 15), (46, 0, 23), (36, 23, 23), (39, 20, 43)], [.inl (some (.inr (.inl none)), [(589824, (2147483649, 2147483649))])], 1)
theorem hct_listed_3_2_0 : z_ctH zTb ct_listed_3_2_0 := sorry
def ct_listed_3_2_1 : zCt := (243, [.inr (.inr (36, 0))], [(606211, (2147483651, 2147483651)), (606212, (2147483650, 2147483650)), (606213, (2147483649, 2147483649))], [(36, 0, 0), (37, 18, 43), (45, 0, 15), (46, 0, 23), (36, 23, 23), (39, 20, 43)], [.inl (some (.inr (.inl none)), [(589824, (2147483649, 2147483649))])], 1)
theorem hct_listed_3_2_1 : z_ctH zTb ct_listed_3_2_1 := sorry
def ct_listed_3_2_2 : zCt := (243, [.inr (.inr (36, 0))], [(606211, (2147483651, 2147483651)), (606212, (2147483650, 2147483650)), (606213, (2147483650, 2147483650))], [(36, 0, 0), (37, 18, 43), (45, 0, 15), (46, 0, 23), (36, 23, 23), (39, 20, 43)], [.inl (some (.inr (.inl none)), [(589824, (2147483649, 2147483649))])], 1)
theorem hct_listed_3_2_2 : z_ctH zTb ct_listed_3_2_2 := sorry
def ct_listed_3_3_0 : zCt := (243, [.inr (.inr (36, 0))], [(606211, (2147483651, 2147483651)), (606212, (2147483651, 2147483651)), (606213, (2147483648, 2147483648))], [(36, 0, 0), (37, 18, 43), (45, 0, 15), (46, 0, 23), (36, 23, 23), (39, 20, 43)], [.inl (some (.inr (.inl none)), [(589824, (2147483649, 2147483649))])], 1)
theorem hct_listed_3_3_0 : z_ctH zTb ct_listed_3_3_0 := sorry
def ct_listed_3_3_1 : zCt := (243, [.inr (.inr (36, 0))], [(606211, (2147483651, 2147483651)), (606212, (2147483651, 2147483651)), (606213, (2147483649, 2147483649))], [(36, 0, 0), (37, 18, 43), (45, 0, 15), (46, 0, 23), (36, 23, 23), (39, 20, 43)], [.inl (some (.inr (.inl none)), [(589824, (2147483649, 2147483649))])], 1)
theorem hct_listed_3_3_1 : z_ctH zTb ct_listed_3_3_1 := sorry
def ct_listed_3_3_2 : zCt := (243, [.inr (.inr (36, 0))], [(606211, (2147483651, 2147483651)), (606212, (2147483651, 2147483651)), (606213, (2147483650, 2147483650))], [(36, 0, 0), (37, 18, 43), (45, 0, 15), (46, 0, 23), (36, 23, 23), (39, 20, 43)], [.inl (some (.inr (.inl none)), [(589824, (2147483649, 2147483649))])], 1)
theorem hct_listed_3_3_2 : z_ctH zTb ct_listed_3_3_2 := sorry
def ct_goes_0 : zCt := (224, [.inr (.inr (36, 0)), .inl (2147483649, 2147483657), .inl (2147483648, 2147483651)], [(589840, (2147483648, 2147483648))], [(36, 13, 16), (41, 0, 108), (42, 0, 108)], [.inl (some (.inl (2147483648, 2147483649)), [(589840, (2147483648, 2147483657))])], 4)
theorem i_ln0 {M : aM} (hT : z_MT (zTb, [], []) M) {j : Nat} (h1 : 18 ≤ j) (h2 : j ≤ 43) : z_i (2147483648, 2147483655) (M.1 37 0 j) := hT (37, 18, 43, (2147483648, 2147483655)) (by decide +kernel) 0 j (by decide) h1 h2
theorem i_kd0 {M : aM} (hT : z_MT (zTb, [], []) M) : z_b (M.1 37 0 1) = 2147483651 ∨ z_i (2147483648, 2147483650) (M.1 37 0 1) := by
  have h := h_TR (T := zTb) (k := 37) (i := 0) (j := 1) hT
  have h1 : 2147483648 ≤ z_b (M.1 37 0 1) := h.1
  have h2 : z_b (M.1 37 0 1) ≤ 2147483651 := h.2
  by_cases e : z_b (M.1 37 0 1) = 2147483651
  · exact Or.inl e
  · exact Or.inr ⟨h1, by show _ ≤ 2147483650; omega⟩
theorem h_G10 {M : aM} {k j : Nat} {v : zI} {n : Nat} (h1 : j < 4096) (h2 : z_ky k 0 j = n) (h : z_i v (M.1 k 0 j)) : z_MG [(n, v)] M := by
  refine List.forall_mem_cons.mpr ⟨fun k' i' j' q1 q2 q3 => ?_, h_MG0⟩
  obtain ⟨f1, f2, f3⟩ := z_ky_lt (k' := k) (i' := 0) (j' := j) q1 q2 (by decide) h1 (q3.trans h2.symm)
  subst f1
  subst f2
  subst f3
  exact h
theorem h_e0 {n : Nat} {x : Int32} (h : z_b x = n) : z_i (n, n) x := ⟨Nat.le_of_eq h.symm, Nat.le_of_eq h⟩
theorem h_pC0 {c : zCt} (hc : z_ctH zTb c) {u : zI} (h2 : c.2.2.2.1 = []) (h3 : c.2.2.2.2.1 = [.inl (some (.inl u), [])]) {nS d : Nat} {as : List aV} {M : aM} (hd : c.2.2.2.2.2 ≤ d) (hS : z_S c.2.1 as) (hT : z_MT (zTb, [], []) M) (hG : z_MG c.2.2.1 M) : aC nS d c.1 as M (fun v M' => (∃ x, v = some (vI x) ∧ z_i u x) ∧ M = M') (fun _ _ => False) := by
  refine aC_post (hc nS d as M hd hS hT hG) (fun v M' hv => ?_) (fun x M' hx => ?_)
  · rw [h3] at hv
    obtain ⟨v', g', h4, h5, h6⟩ := hv
    have h4 := List.mem_singleton.mp h4
    cases h4
    obtain ⟨x, hx, hx2⟩ := h_ovI h5
    have h7 := h6.2.1
    dsimp only at h7
    rw [h2] at h7
    exact ⟨⟨x, hx, hx2⟩, (h_MW h7).symm⟩
  · rw [h3] at hx
    obtain ⟨g', h4, h6⟩ := hx
    have h4 := List.mem_singleton.mp h4
    cases h4
theorem q_tb {nS d : Nat} {M : aM} {a b : Int32} (hd : 1 ≤ d) (hT : z_MT (zTb, [], []) M) (ha : z_i (2147483648, 2147483655) a) (hb : z_i (2147483648, 2147483655) b) : aC nS d 181 [vR 36 0, vI a, vI b] M (fun v M' => (∃ x, v = some (vI x) ∧ z_i (2147483648, 2147483655) x) ∧ M = M') (fun _ _ => False) := by
  rcases i_kd0 hT with h | h
  · exact h_pC0 hct_times3 rfl rfl (Nat.le_trans (by decide) hd) (h_R (h_Iv ha (h_Iv hb trivial))) hT (h_G10 (k := 37) (j := 1) (by decide) rfl (h_e0 h))
  · exact h_pC0 hct_times0 rfl rfl (Nat.le_trans (by decide) hd) (h_R (h_Iv (z_iI_ok (by decide) ha) (h_Iv (z_iI_ok (by decide) hb) trivial))) hT (h_G10 (k := 37) (j := 1) (by decide) rfl h)
theorem q_ab {nS d : Nat} {M : aM} {a : Int32} (hd : 2 ≤ d) (hT : z_MT (zTb, [], []) M) (ha : z_i (2147483648, 2147483655) a) : aC nS d 182 [vR 36 0, vI a] M (fun v M' => (∃ x, v = some (vI x) ∧ ∀ c : Int32, z_i (2147483648, 2147483655) c → aC nS d 181 [vR 36 0, vI c, vI x] M (fun v M' => (∃ x, v = some (vI x) ∧ z_i (2147483648, 2147483655) x) ∧ M = M') (fun _ _ => False)) ∧ M = M') (fun _ _ => False) := by
  rcases i_kd0 hT with h | h
  · exact aC_post (h_pC0 hct_against3 rfl rfl (Nat.le_trans (by decide) hd) (h_R (h_Iv ha trivial)) hT (h_G10 (k := 37) (j := 1) (by decide) rfl (h_e0 h))) (fun v M' z => ⟨by obtain ⟨⟨x, e, h9⟩, -⟩ := z; exact ⟨x, e, fun c hc => q_tb (Nat.le_trans (by decide) hd) hT hc h9⟩, z.2⟩) (fun _ _ z => z)
  · exact aC_post (h_pC0 hct_against0 rfl rfl (Nat.le_trans (by decide) hd) (h_R (h_Iv (z_iI_ok (by decide) ha) trivial)) hT (h_G10 (k := 37) (j := 1) (by decide) rfl h)) (fun v M' z => ⟨by obtain ⟨⟨x, e, h9⟩, -⟩ := z; exact ⟨x, e, fun c hc => h_pC0 hct_times0 rfl rfl (Nat.le_trans (by decide) hd) (h_R (h_Iv (z_iI_ok (by decide) hc) (h_Iv (z_iI_ok (by decide) h9) trivial))) hT (h_G10 (k := 37) (j := 1) (by decide) rfl h)⟩, z.2⟩) (fun _ _ z => z)
theorem hz_goes {J : Nat} (hJ : J ≤ 99) : z_ctH zTb (224, [.inr (.inr (36, 0)), .inl (2147483649, 2147483657), .inl (2147483648, 2147483651)], [(589840, (2147483648, J + 2147483648))], [(36, 13, 16), (41, 0, 108), (42, 0, 108)], [.inl (some (.inl (2147483648, 2147483649)), [(589840, (2147483648, J + 9 + 2147483648))])], 4) := by
  intro nS d as M hd hS hT hg
  obtain ⟨n, way, rfl, hn, hw⟩ := h_S3 (by decide) hS
  obtain ⟨nn, n9, en⟩ := x_rng (m := 9) (by decide) (z_iI_ok (v := (2147483648, 9 + 2147483648)) (by decide) hn)
  obtain ⟨q0, hq0, eq0⟩ := x_rng (m := J) (by omega) (hg _ List.mem_cons_self 36 0 16 (by decide) (by decide) rfl)
  obtain ⟨d, rfl⟩ := h_rk (r := 4) hd
  refine aC_mk rfl rfl ?_
  intro K hK _
  have post : ∀ (q : Nat) (v : Int32) (M1 : aM), q ≤ J + 9 → (v = 0 ∨ v = 1) → M1.1 36 0 16 = Int32.ofNat q → z_M (zTb, [(36, 13, 16), (41, 0, 108), (42, 0, 108)], []) M [] M1 → z_po (zTb, [(36, 13, 16), (41, 0, 108), (42, 0, 108)], []) M [.inl (some (.inl (2147483648, 2147483649)), [(589840, (2147483648, J + 9 + 2147483648))])] (some (vI v)) M1 := fun q v M1 hq hv e h => ⟨_, _, List.mem_cons_self, h_bo hv, h.1, h.2.1, h_G10 (k := 36) (j := 16) (by decide) rfl (x_rng' (m := J + 9) (by omega) hq e)⟩
  have lp : ∀ (m k q : Nat) (l4 l5 l6 : Option aV) (M1 : aM), k + m = nn → q ≤ J + k → M1.1 36 0 16 = Int32.ofNat q → z_M (zTb, [(36, 13, 16), (41, 0, 108), (42, 0, 108)], []) M [] M1 → K 2 [some (vR 36 0), some (vI n), some (vI way), some (vI (Int32.ofNat k)), l4, l5, l6] [] M1 := by
    intro m
    induction m with
    | zero =>
      intro k q l4 l5 l6 M1 hk hq es hM
      refine hK _ _ _ _ (hK _ _ _ _ (hK _ _ _ _ (⟨fun c1 => ?_, fun c1 => ?_⟩)))
      · exact hK _ _ _ _ (hK _ _ _ _ (⟨Or.inr rfl, post q 1 M1 (by omega) (Or.inr rfl) es hM⟩))
      · refine absurd ?_ c1
        rw [en]
        exact (hI_le (by omega) (by omega)).mpr (by omega)
    | succ m ih =>
      intro k q l4 l5 l6 M1 hk hq es hM
      refine hK _ _ _ _ (hK _ _ _ _ (hK _ _ _ _ (⟨fun c1 => ?_, fun c1 => ?_⟩)))
      · exact hK _ _ _ _ (hK _ _ _ _ (⟨Or.inr rfl, post q 1 M1 (by omega) (Or.inr rfl) es hM⟩))
      -- behind both coordinates
      have aY : ∀ (u x y : Int32) (l : Nat) (M2 : aM), z_M (zTb, [(36, 13, 16), (41, 0, 108), (42, 0, 108)], []) M [] M2 → M2.1 36 0 16 = Int32.ofNat q → K 287 [some (vR 36 0), some (vI n), some (vI way), some (vI (Int32.ofNat k)), some (vI x), some (vI y), some (vI (Int32.ofNat l))] [vI u, vR 36 0] M2 := by
        intro u x y l M2 hM2 es2
        have hM3 := h_Mp hM2 (k := 36) (i := 0) (j := 14) (v := (0, 4294967295)) (x := u) (by decide) (z_i_top _)
        have hM4 := h_Mp hM3 (k := 36) (i := 0) (j := 16) (v := (2147483648, 108 + 2147483648)) (x := Int32.ofNat (q + 1)) (by decide) (x_rng' (m := 108) (by decide) (show q + 1 ≤ 108 by omega) rfl)
        have es3 : (a_pI M2 36 0 14 u).1 36 0 16 = Int32.ofNat q := (x_pn (by decide)).trans es2
        refine hK _ _ _ _ (hK _ _ _ _ (hK _ _ _ _ (hK _ _ _ _ (hK _ _ _ _ (?_)))))
        rw [es3]
        refine hK _ _ _ _ (hK _ _ _ _ (hK _ _ _ _ (hK _ _ _ _ (hK _ _ _ _ (hK _ _ _ _ (hK _ _ _ _ (hK _ _ _ _ (?_))))))))
        rw [hI_s]
        refine hK _ _ _ _ ⟨x_vp x_pe (show q + 1 < 109 by omega) (by decide), ?_⟩
        rw [x_cl x_pe (by omega)]
        have q5 := z_M_pI (v := (0, 4294967295)) (a := 0) (b := 108) (j := q + 1) (x := (a_pI (a_pI M2 36 0 14 u) 36 0 16 (Int32.ofNat (q + 1))).1 36 0 13) hM4 (k := 41) (i := 0) (by decide) (by omega) (by omega) (z_i_top _)
        have hM5 : z_M (zTb, [(36, 13, 16), (41, 0, 108), (42, 0, 108)], []) M [] (a_pI (a_pI (a_pI M2 36 0 14 u) 36 0 16 (Int32.ofNat (q + 1))) 41 0 (q + 1) ((a_pI (a_pI M2 36 0 14 u) 36 0 16 (Int32.ofNat (q + 1))).1 36 0 13)) := ⟨q5.1, q5.2.1, h_MG0⟩
        have es5 : (a_pI (a_pI (a_pI M2 36 0 14 u) 36 0 16 (Int32.ofNat (q + 1))) 41 0 (q + 1) ((a_pI (a_pI M2 36 0 14 u) 36 0 16 (Int32.ofNat (q + 1))).1 36 0 13)).1 36 0 16 = Int32.ofNat (q + 1) := (x_pn (fun z => absurd z.1 (by decide))).trans x_pe
        refine hK _ _ _ _ (hK _ _ _ _ (hK _ _ _ _ (hK _ _ _ _ (hK _ _ _ _ (hK _ _ _ _ (?_))))))
        refine hK _ _ _ _ ⟨x_vp es5 (show q + 1 < 109 by omega) (by decide), ?_⟩
        rw [x_cl es5 (by omega)]
        have q6 := z_M_pI (v := (0, 4294967295)) (a := 0) (b := 108) (j := q + 1) (x := (a_pI (a_pI (a_pI M2 36 0 14 u) 36 0 16 (Int32.ofNat (q + 1))) 41 0 (q + 1) ((a_pI (a_pI M2 36 0 14 u) 36 0 16 (Int32.ofNat (q + 1))).1 36 0 13)).1 36 0 14) hM5 (k := 42) (i := 0) (by decide) (by omega) (by omega) (z_i_top _)
        refine hK _ _ _ _ (hK _ _ _ _ (?_))
        rw [hI_s]
        exact ih (k + 1) (q + 1) _ _ _ _ (by omega) (by omega) ((x_pn (fun z => absurd z.1 (by decide))).trans es5) ⟨q6.1, q6.2.1, h_MG0⟩
      have aX : ∀ (u x y : Int32) (l : Nat) (M2 : aM), z_M (zTb, [(36, 13, 16), (41, 0, 108), (42, 0, 108)], []) M [] M2 → M2.1 36 0 16 = Int32.ofNat q → K 257 [some (vR 36 0), some (vI n), some (vI way), some (vI (Int32.ofNat k)), some (vI x), some (vI y), some (vI (Int32.ofNat l))] [vI u, vR 36 0] M2 := by
        intro u x y l M2 hM2 es2
        have hM3 := h_Mp hM2 (k := 36) (i := 0) (j := 13) (v := (0, 4294967295)) (x := u) (by decide) (z_i_top _)
        have es3 : (a_pI M2 36 0 13 u).1 36 0 16 = Int32.ofNat q := (x_pn (by decide)).trans es2
        refine hK _ _ _ _ (?_)
        refine hK _ _ _ _ (hK _ _ _ _ (hK _ _ _ _ (hK _ _ _ _ (⟨fun _ => ?_, fun _ => ?_⟩))))
        · refine hK _ _ _ _ (hK _ _ _ _ (hK _ _ _ _ (⟨fun _ => ?_, fun _ => ?_⟩)))
          · refine hK _ _ _ _ (?_)
            exact aY _ _ _ _ _ hM3 es3
          · refine hK _ _ _ _ (hK _ _ _ _ (hK _ _ _ _ (hK _ _ _ _ (?_))))
            exact aY _ _ _ _ _ hM3 es3
        · refine hK _ _ _ _ (hK _ _ _ _ (hK _ _ _ _ (hK _ _ _ _ (?_))))
          exact aY _ _ _ _ _ hM3 es3
      -- behind the product
      have aC9 : ∀ (u x y : Int32) (l : Nat), z_i (2147483648, 2147483655) u → K 228 [some (vR 36 0), some (vI n), some (vI way), some (vI (Int32.ofNat k)), some (vI x), some (vI y), some (vI (Int32.ofNat l))] [vI u, vR 36 0] M1 := by
        intro u x y l hu
        have hM2 := h_Mp hM (k := 36) (i := 0) (j := 15) (v := (2147483648, 2147483655)) (x := u) (by decide) hu
        have es2 : (a_pI M1 36 0 15 u).1 36 0 16 = Int32.ofNat q := (x_pn (by decide)).trans es
        refine hK _ _ _ _ (?_)
        refine hK _ _ _ _ (hK _ _ _ _ (hK _ _ _ _ (⟨fun _ => ?_, fun _ => ?_⟩)))
        · refine hK _ _ _ _ (hK _ _ _ _ (hK _ _ _ _ (⟨fun _ => ?_, fun _ => ?_⟩)))
          · refine hK _ _ _ _ (?_)
            exact aX _ _ _ _ _ hM2 es2
          · refine hK _ _ _ _ (hK _ _ _ _ (hK _ _ _ _ (hK _ _ _ _ (?_))))
            exact aX _ _ _ _ _ hM2 es2
        · refine hK _ _ _ _ (hK _ _ _ _ (hK _ _ _ _ (hK _ _ _ _ (?_))))
          exact aX _ _ _ _ _ hM2 es2
      -- behind the line
      have aL : ∀ (x y z a b : Int32), (z = 0 ∨ z = 1) → K 174 [some (vR 36 0), some (vI n), some (vI way), some (vI (Int32.ofNat k)), some (vI x), some (vI y), l6] [vI z, vI b, vI a, vR 36 0] M1 := by
        intro x y z a b hz
        refine hK _ _ _ _ (⟨_, h_p2 hz_lineOf rfl (show 3 ≤ d + 3 by omega) (h_R (h_I (h_I (h_Iv (h_bo hz) trivial)))) hM.1 h_MG0, rfl, fun v174 M174 g => ?_⟩)
        obtain ⟨r, rfl, g4⟩ := g
        have hr : (r = -1 ∨ ∃ l, l ≤ 23 ∧ r = Int32.ofNat l) ∧ M1 = M174 := by
          rcases g4 with ⟨u1, u2⟩ | ⟨u1, u2⟩
          · exact ⟨Or.inl (z_b_inj ((Nat.le_antisymm u1.2 u1.1).trans z_b_m1.symm)), (h_MW u2.2.1).symm⟩
          · exact ⟨Or.inr (x_rng (m := 23) (by decide) u1), (h_MW u2.2.1).symm⟩
        obtain ⟨hr, rfl⟩ := hr
        rcases hr with rfl | ⟨l, hl, rfl⟩
        · refine hK _ _ _ _ (hK _ _ _ _ (hK _ _ _ _ (hK _ _ _ _ (⟨fun c2 => ?_, fun c2 => ?_⟩))))
          · exact absurd rfl c2
          · exact hK _ _ _ _ (hK _ _ _ _ (⟨Or.inl rfl, post q 0 M1 (by omega) (Or.inl rfl) es hM⟩))
        · refine hK _ _ _ _ (hK _ _ _ _ (hK _ _ _ _ (hK _ _ _ _ (⟨fun c2 => ?_, fun c2 => ?_⟩))))
          · have e20 : (20 : Int32) + Int32.ofNat l = Int32.ofNat (20 + l) := hI_ad (a := 20)
            have hv := i_ln0 hM.1 (j := 20 + l) (by omega) (by omega)
            have hc := h_TR (T := zTb) (k := 36) (i := 0) (j := 15) hM.1
            refine hK _ _ _ _ (hK _ _ _ _ (hK _ _ _ _ (hK _ _ _ _ (hK _ _ _ _ (hK _ _ _ _ (hK _ _ _ _ (⟨fun _ => ?_, fun _ => ?_⟩)))))))
            · refine hK _ _ _ _ (hK _ _ _ _ (hK _ _ _ _ (hK _ _ _ _ (hK _ _ _ _ (hK _ _ _ _ (?_))))))
              refine hK _ _ _ _ ⟨x_vp e20 (show 20 + l < 1010 by omega) (by decide), ?_⟩
              rw [x_cl e20 (by omega)]
              refine hK _ _ _ _ (⟨_, q_ab (by omega) hM.1 hv, rfl, fun v222 M222 g222 => ?_⟩)
              obtain ⟨⟨w, rfl, hw9⟩, rfl⟩ := g222
              refine hK _ _ _ _ (⟨_, hw9 _ hc, rfl, fun v225 M225 g225 => ?_⟩)
              obtain ⟨⟨w2, rfl, hw2⟩, rfl⟩ := g225
              exact aC9 w2 _ _ _ hw2
            · refine hK _ _ _ _ (hK _ _ _ _ (hK _ _ _ _ (hK _ _ _ _ (hK _ _ _ _ (?_)))))
              refine hK _ _ _ _ ⟨x_vp e20 (show 20 + l < 1010 by omega) (by decide), ?_⟩
              rw [x_cl e20 (by omega)]
              refine hK _ _ _ _ (hK _ _ _ _ (⟨_, q_tb (by omega) hM.1 hc hv, rfl, fun v225 M225 g225 => ?_⟩))
              obtain ⟨⟨w2, rfl, hw2⟩, rfl⟩ := g225
              exact aC9 w2 _ _ _ hw2
          · exact absurd c2 (x_m1 (by omega))
      -- the corner that is gone from
      have a159 : ∀ (x y a b : Int32), K 159 [some (vR 36 0), some (vI n), some (vI way), some (vI (Int32.ofNat k)), some (vI x), some (vI y), l6] [vI b, vI a, vR 36 0] M1 := by
        intro x y a b
        refine hK _ _ _ _ (hK _ _ _ _ (hK _ _ _ _ (⟨fun _ => ?_, fun _ => ?_⟩)))
        · refine hK _ _ _ _ (hK _ _ _ _ (?_))
          exact (by first | exact aL _ _ _ _ _ (Or.inl rfl) | exact aL _ _ _ _ _ (Or.inr rfl))
        · refine hK _ _ _ _ (hK _ _ _ _ (hK _ _ _ _ (⟨fun _ => ?_, fun _ => ?_⟩)))
          · refine hK _ _ _ _ (?_)
            exact (by first | exact aL _ _ _ _ _ (Or.inl rfl) | exact aL _ _ _ _ _ (Or.inr rfl))
          · refine hK _ _ _ _ (hK _ _ _ _ (?_))
            exact (by first | exact aL _ _ _ _ _ (Or.inl rfl) | exact aL _ _ _ _ _ (Or.inr rfl))
      have a145 : ∀ (x y a : Int32), K 145 [some (vR 36 0), some (vI n), some (vI way), some (vI (Int32.ofNat k)), some (vI x), some (vI y), l6] [vI a, vR 36 0] M1 := by
        intro x y a
        refine hK _ _ _ _ (hK _ _ _ _ (hK _ _ _ _ (⟨fun _ => ?_, fun _ => ?_⟩)))
        · refine hK _ _ _ _ (?_)
          exact a159 _ _ _ _
        · refine hK _ _ _ _ (hK _ _ _ _ (hK _ _ _ _ (hK _ _ _ _ (?_))))
          exact a159 _ _ _ _
      have a130 : ∀ (x y : Int32), K 130 [some (vR 36 0), some (vI n), some (vI way), some (vI (Int32.ofNat k)), some (vI x), some (vI y), l6] [] M1 := by
        intro x y
        refine hK _ _ _ _ (hK _ _ _ _ (hK _ _ _ _ (hK _ _ _ _ (⟨fun _ => ?_, fun _ => ?_⟩))))
        · refine hK _ _ _ _ (?_)
          exact a145 _ _ _
        · refine hK _ _ _ _ (hK _ _ _ _ (hK _ _ _ _ (hK _ _ _ _ (?_))))
          exact a145 _ _ _
      have a102 : ∀ (x y : Int32), K 102 [some (vR 36 0), some (vI n), some (vI way), some (vI (Int32.ofNat k)), some (vI x), some (vI y), l6] [] M1 := by
        intro x y
        refine hK _ _ _ _ (hK _ _ _ _ (hK _ _ _ _ (⟨fun _ => ?_, fun _ => ?_⟩)))
        · exact a130 _ _
        · refine hK _ _ _ _ (hK _ _ _ _ (hK _ _ _ _ (hK _ _ _ _ (⟨x_vp (a := 5) rfl (by decide) (by decide), ?_⟩))))
          refine hK _ _ _ _ (hK _ _ _ _ (⟨fun _ => ?_, fun _ => ?_⟩))
          · exact a130 _ _
          · refine hK _ _ _ _ (hK _ _ _ _ (⟨fun _ => ?_, fun _ => ?_⟩))
            · exact a130 _ _
            · refine hK _ _ _ _ (hK _ _ _ _ (hK _ _ _ _ (hK _ _ _ _ (⟨x_vp (a := 4) rfl (by decide) (by decide), ?_⟩))))
              refine hK _ _ _ _ (?_)
              exact a130 _ _
      have a73 : ∀ (x y : Int32), K 73 [some (vR 36 0), some (vI n), some (vI way), some (vI (Int32.ofNat k)), some (vI x), some (vI y), l6] [] M1 := by
        intro x y
        refine hK _ _ _ _ (hK _ _ _ _ (hK _ _ _ _ (⟨fun _ => ?_, fun _ => ?_⟩)))
        · exact a102 _ _
        · refine hK _ _ _ _ (hK _ _ _ _ (hK _ _ _ _ (hK _ _ _ _ (⟨x_vp (a := 5) rfl (by decide) (by decide), ?_⟩))))
          refine hK _ _ _ _ (hK _ _ _ _ (⟨fun _ => ?_, fun _ => ?_⟩))
          · exact a102 _ _
          · refine hK _ _ _ _ (hK _ _ _ _ (hK _ _ _ _ (hK _ _ _ _ (hK _ _ _ _ (⟨x_vp (a := 4) rfl (by decide) (by decide), ?_⟩)))))
            refine hK _ _ _ _ (⟨fun _ => ?_, fun _ => ?_⟩)
            · exact a102 _ _
            · refine hK _ _ _ _ (hK _ _ _ _ (?_))
              exact a102 _ _
      have a46 : ∀ (x y : Int32), K 46 [some (vR 36 0), some (vI n), some (vI way), some (vI (Int32.ofNat k)), some (vI x), some (vI y), l6] [] M1 := by
        intro x y
        refine hK _ _ _ _ (hK _ _ _ _ (hK _ _ _ _ (⟨fun _ => ?_, fun _ => ?_⟩)))
        · exact a73 _ _
        · refine hK _ _ _ _ (hK _ _ _ _ (hK _ _ _ _ (hK _ _ _ _ (⟨x_vp (a := 5) rfl (by decide) (by decide), ?_⟩))))
          refine hK _ _ _ _ (⟨fun _ => ?_, fun _ => ?_⟩)
          · exact a73 _ _
          · refine hK _ _ _ _ (hK _ _ _ _ (⟨fun _ => ?_, fun _ => ?_⟩))
            · exact a73 _ _
            · refine hK _ _ _ _ (hK _ _ _ _ (hK _ _ _ _ (hK _ _ _ _ (⟨x_vp (a := 3) rfl (by decide) (by decide), ?_⟩))))
              refine hK _ _ _ _ (?_)
              exact a73 _ _
      refine hK _ _ _ _ (hK _ _ _ _ (hK _ _ _ _ (hK _ _ _ _ (hK _ _ _ _ (hK _ _ _ _ (hK _ _ _ _ (hK _ _ _ _ (⟨fun _ => ?_, fun _ => ?_⟩))))))))
      · exact a46 _ _
      · refine hK _ _ _ _ (hK _ _ _ _ (hK _ _ _ _ (hK _ _ _ _ (⟨x_vp (a := 5) rfl (by decide) (by decide), ?_⟩))))
        refine hK _ _ _ _ (⟨fun _ => ?_, fun _ => ?_⟩)
        · exact a46 _ _
        · refine hK _ _ _ _ (hK _ _ _ _ (hK _ _ _ _ (hK _ _ _ _ (hK _ _ _ _ (⟨x_vp (a := 3) rfl (by decide) (by decide), ?_⟩)))))
          refine hK _ _ _ _ (⟨fun _ => ?_, fun _ => ?_⟩)
          · exact a46 _ _
          · refine hK _ _ _ _ (hK _ _ _ _ (?_))
            exact a46 _ _
  refine hK _ _ _ _ (hK _ _ _ _ (?_))
  exact lp nn 0 q0 _ _ _ M (by omega) (by omega) eq0 (h_M0 hT)
theorem hct_goes_0 : z_ctH zTb ct_goes_0 := hz_goes (J := 0) (by decide)
def ct_goes_1 : zCt := (224, [.inr (.inr (36, 0)), .inl (2147483649, 2147483657), .inl (2147483648, 2147483651)], [(589840, (2147483648, 2147483657))], [(36, 13, 16), (41, 0, 108), (42, 0, 108)], [.inl (some (.inl (2147483648, 2147483649)), [(589840, (2147483648, 2147483666))])], 4)
theorem hct_goes_1 : z_ctH zTb ct_goes_1 := hz_goes (J := 9) (by decide)
def ct_goes_2 : zCt := (224, [.inr (.inr (36, 0)), .inl (2147483649, 2147483657), .inl (2147483648, 2147483651)], [(589840, (2147483648, 2147483666))], [(36, 13, 16), (41, 0, 108), (42, 0, 108)], [.inl (some (.inl (2147483648, 2147483649)), [(589840, (2147483648, 2147483675))])], 4)
theorem hct_goes_2 : z_ctH zTb ct_goes_2 := hz_goes (J := 18) (by decide)
def ct_goes_3 : zCt := (224, [.inr (.inr (36, 0)), .inl (2147483649, 2147483657), .inl (2147483648, 2147483651)], [(589840, (2147483648, 2147483675))], [(36, 13, 16), (41, 0, 108), (42, 0, 108)], [.inl (some (.inl (2147483648, 2147483649)), [(589840, (2147483648, 2147483684))])], 4)
theorem hct_goes_3 : z_ctH zTb ct_goes_3 := hz_goes (J := 27) (by decide)
def ct_goes_4 : zCt := (224, [.inr (.inr (36, 0)), .inl (2147483649, 2147483657), .inl (2147483648, 2147483651)], [(589840, (2147483648, 2147483684))], [(36, 13, 16), (41, 0, 108), (42, 0, 108)], [.inl (some (.inl (2147483648, 2147483649)), [(589840, (2147483648, 2147483693))])], 4)
theorem hct_goes_4 : z_ctH zTb ct_goes_4 := hz_goes (J := 36) (by decide)
def ct_goes_5 : zCt := (224, [.inr (.inr (36, 0)), .inl (2147483649, 2147483657), .inl (2147483648, 2147483651)], [(589840, (2147483648, 2147483693))], [(36, 13, 16), (41, 0, 108), (42, 0, 108)], [.inl (some (.inl (2147483648, 2147483649)), [(589840, (2147483648, 2147483702))])], 4)
theorem hct_goes_5 : z_ctH zTb ct_goes_5 := hz_goes (J := 45) (by decide)
def ct_goes_6 : zCt := (224, [.inr (.inr (36, 0)), .inl (2147483649, 2147483657), .inl (2147483648, 2147483651)], [(589840, (2147483648, 2147483702))], [(36, 13, 16), (41, 0, 108), (42, 0, 108)], [.inl (some (.inl (2147483648, 2147483649)), [(589840, (2147483648, 2147483711))])], 4)
theorem hct_goes_6 : z_ctH zTb ct_goes_6 := hz_goes (J := 54) (by decide)
def ct_goes_7 : zCt := (224, [.inr (.inr (36, 0)), .inl (2147483649, 2147483657), .inl (2147483648, 2147483651)], [(589840, (2147483648, 2147483711))], [(36, 13, 16), (41, 0, 108), (42, 0, 108)], [.inl (some (.inl (2147483648, 2147483649)), [(589840, (2147483648, 2147483720))])], 4)
theorem hct_goes_7 : z_ctH zTb ct_goes_7 := hz_goes (J := 63) (by decide)
def ct_goes_8 : zCt := (224, [.inr (.inr (36, 0)), .inl (2147483649, 2147483657), .inl (2147483648, 2147483651)], [(589840, (2147483648, 2147483720))], [(36, 13, 16), (41, 0, 108), (42, 0, 108)], [.inl (some (.inl (2147483648, 2147483649)), [(589840, (2147483648, 2147483729))])], 4)
theorem hct_goes_8 : z_ctH zTb ct_goes_8 := hz_goes (J := 72) (by decide)
def ct_goes_9 : zCt := (224, [.inr (.inr (36, 0)), .inl (2147483649, 2147483657), .inl (2147483648, 2147483651)], [(589840, (2147483648, 2147483729))], [(36, 13, 16), (41, 0, 108), (42, 0, 108)], [.inl (some (.inl (2147483648, 2147483649)), [(589840, (2147483648, 2147483738))])], 4)
theorem hct_goes_9 : z_ctH zTb ct_goes_9 := hz_goes (J := 81) (by decide)
def ct_goes_10 : zCt := (224, [.inr (.inr (36, 0)), .inl (2147483649, 2147483657), .inl (2147483648, 2147483651)], [(589840, (2147483648, 2147483738))], [(36, 13, 16), (41, 0, 108), (42, 0, 108)], [.inl (some (.inl (2147483648, 2147483649)), [(589840, (2147483648, 2147483747))])], 4)
theorem hct_goes_10 : z_ctH zTb ct_goes_10 := hz_goes (J := 90) (by decide)
def ct_goes_11 : zCt := (224, [.inr (.inr (36, 0)), .inl (2147483649, 2147483657), .inl (2147483648, 2147483651)], [(589840, (2147483648, 2147483747))], [(36, 13, 16), (41, 0, 108), (42, 0, 108)], [.inl (some (.inl (2147483648, 2147483649)), [(589840, (2147483648, 2147483756))])], 4)
theorem hct_goes_11 : z_ctH zTb ct_goes_11 := hz_goes (J := 99) (by decide)
def ct_figures_w : zCt := (207, [.inr (.inr (36, 0)), .inl (2147483648, 2147483648), .inl (2147483649, 2147483651)], [(589833, (2147483647, 2147483647))], [(36, 8, 8), (36, 9, 9), (36, 10, 10)], [.inl (some (.inl (0, 4294967295)), [(589834, (2147483648, 2147484048)), (589832, (2147483648, 2147484048)), (589833, (2147483648, 2147484048))]), .inl (some (.inl (2147483648, 2147483651)), [(589834, (2147483648, 2147484048)), (589832, (2147483648, 2147484048)), (589833, (2147483647, 2147483647))])], 3)
theorem hct_figures_w : z_ctH zTb ct_figures_w := hz_figures
def ct_walks : zCt := (225, [.inr (.inr (36, 0))], [], [(36, 6, 16), (41, 0, 108), (42, 0, 108)], [.inl (none, [(589831, (2147483648, 2147484048)), (589832, (2147483648, 2147484048)), (589833, (2147483648, 2147484048)), (589840, (2147483648, 2147483756)), (589830, (2147483648, 2147483648))]), .inl (none, [(589831, (2147483648, 2147484048)), (589832, (2147483648, 2147484048)), (589833, (2147483647, 2147483647)), (589830, (2147483648, 2147483648)), (589834, (2147483648, 2147484048)), (589840, (2147483648, 2147483756))])], 10)
theorem hct_walks : z_ctH zTb ct_walks := sorry
def ct_walk : zCt := (227, [.inr (.inr (36, 0)), .inl (0, 4294967295)], [], [(36, 0, 0), (36, 6, 16), (41, 0, 108), (42, 0, 108)], [.inl (some (.inl (2147483648, 2147483756)), [(589824, (2147483648, 2147483650)), (589831, (2147483648, 2147484048)), (589832, (2147483648, 2147484048)), (589833, (2147483647, 2147483647)), (589830, (2147483648, 2147483648)), (589834, (2147483648, 2147484048)), (589840, (2147483648, 2147483756))]), .inl (some (.inl (2147483648, 2147483648)), [(589824, (2147483649, 2147483649)), (589831, (2147483648, 2147484048)), (589832, (2147483648, 2147484048)), (589833, (2147483648, 2147484048)), (589840, (2147483648, 2147483756)), (589830, (2147483648, 2147483648))])], 12)
theorem hct_walk : z_ctH zTb ct_walk := sorry
def ct_isAlikeBy : zCt := (233, [.inr (.inr (36, 0)), .inl (2147483648, 2147483655)], [], [(45, 0, 15)], [.inl (some (.inl (2147483648, 2147483649)), [])], 4)
/-- how many of the first n are not told -/
def cnF (f : Nat → Int32) : Nat → Nat
  | 0 => 0
  | n + 1 => cnF f n + (if f n = -1 then 1 else 0)
theorem cnF_eq {f g : Nat → Int32} : ∀ n, (∀ u, u < n → f u = g u) → cnF f n = cnF g n
  | 0, _ => rfl
  | n + 1, h => by
    show cnF f n + (if f n = -1 then 1 else 0) = cnF g n + (if g n = -1 then 1 else 0)
    rw [cnF_eq n (fun u hu => h u (by omega)), h n (by omega)]
theorem cnF_lt {f g : Nat → Int32} {a : Nat} : ∀ n, a < n → f a = -1 → ¬ g a = -1 → (∀ u, u ≠ a → g u = f u) → cnF g n < cnF f n
  | 0, h, _, _, _ => absurd h (Nat.not_lt_zero _)
  | n + 1, h, h1, h2, h3 => by
    show cnF g n + (if g n = -1 then 1 else 0) < cnF f n + (if f n = -1 then 1 else 0)
    by_cases e : a = n
    · subst e
      rw [if_pos h1, if_neg h2, cnF_eq a (fun u hu => h3 u (by omega))]
      omega
    · have := cnF_lt n (by omega) h1 h2 h3
      rw [h3 n (fun z => e z.symm)]
      omega
/-- the group's ways over turns below a bound H -/
theorem q_pack {M : aM} (hT : z_MT (zTb, [], []) M) : ∃ H : Nat, 2147483655 ≤ H ∧ H ≤ 2147483656 ∧ ∀ (nS d : Nat) (M1 : aM), 2 ≤ d → z_MT (zTb, [], []) M1 → M1.1 37 0 1 = M.1 37 0 1 → (∀ a b : Int32, z_i (2147483648, H) a → z_i (2147483648, H) b → aC nS d 181 [vR 36 0, vI a, vI b] M1 (fun v M' => (∃ x, v = some (vI x) ∧ z_i (2147483648, H) x) ∧ M1 = M') (fun _ _ => False)) ∧ ∀ a : Int32, z_i (2147483648, H) a → aC nS d 182 [vR 36 0, vI a] M1 (fun v M' => (∃ x, v = some (vI x) ∧ z_i (2147483648, H) x) ∧ M1 = M') (fun _ _ => False) := by
  rcases i_kd0 hT with h | h
  · refine ⟨2147483655, by decide, by decide, fun nS d M1 hd h1 h2 => ⟨fun a b ha hb => ?_, fun a ha => ?_⟩⟩
    · exact h_pC0 hct_times3 rfl rfl (Nat.le_trans (by decide) hd) (h_R (h_Iv ha (h_Iv hb trivial))) h1 (h_G10 (k := 37) (j := 1) (by decide) rfl (h_e0 (by rw [h2]; exact h)))
    · exact h_pC0 hct_against3 rfl rfl (Nat.le_trans (by decide) hd) (h_R (h_Iv ha trivial)) h1 (h_G10 (k := 37) (j := 1) (by decide) rfl (h_e0 (by rw [h2]; exact h)))
  · refine ⟨2147483656, by decide, by decide, fun nS d M1 hd h1 h2 => ⟨fun a b ha hb => ?_, fun a ha => ?_⟩⟩
    · exact aC_post (h_pC0 hct_times0 rfl rfl (Nat.le_trans (by decide) hd) (h_R (h_Iv (z_iI_ok (by decide) ha) (h_Iv (z_iI_ok (by decide) hb) trivial))) h1 (h_G10 (k := 37) (j := 1) (by decide) rfl (by rw [h2]; exact h))) (fun v M' z => ⟨by obtain ⟨⟨x, e, h9⟩, -⟩ := z; exact ⟨x, e, z_iI_ok (by decide) h9⟩, z.2⟩) (fun _ _ z => z)
    · exact h_pC0 hct_against0 rfl rfl (Nat.le_trans (by decide) hd) (h_R (h_Iv ha trivial)) h1 (h_G10 (k := 37) (j := 1) (by decide) rfl (by rw [h2]; exact h))
theorem hz_isAlikeBy : z_ctH zTb (233, [.inr (.inr (36, 0)), .inl (2147483648, 2147483655)], [], [(45, 0, 15)], [.inl (some (.inl (2147483648, 2147483649)), [])], 4) := by
  intro nS d as M hd hS hT hg
  obtain ⟨f, rfl, hf⟩ := h_S2 (by decide) hS
  obtain ⟨H, H1, H2, pk⟩ := q_pack hT
  obtain ⟨d, rfl⟩ := h_rk (r := 4) hd
  refine aC_mk rfl rfl ?_
  intro K hK _
  have post : ∀ (v : Int32) (M1 : aM), (v = 0 ∨ v = 1) → z_M (zTb, [(45, 0, 15)], []) M [] M1 → z_po (zTb, [(45, 0, 15)], []) M [.inl (some (.inl (2147483648, 2147483649)), [])] (some (vI v)) M1 := fun v M1 hv h => ⟨_, _, List.mem_cons_self, h_bo hv, h⟩
  have okz : ∀ {x : Int32}, z_i (2147483648, H) x → z_i (2147483647, 2147483663) x ∧ ¬ x = -1 := fun h => ⟨⟨by have := h.1; dsimp only at this ⊢; omega, by have := h.2; dsimp only at this ⊢; omega⟩, fun z => by have := h.1; rw [z, z_b_m1] at this; dsimp only at this; omega⟩
  have ln : ∀ {M1 : aM} {k j : Nat}, (k = 37 ∨ k = 38) → z_MT (zTb, [], []) M1 → j < 24 → z_i (2147483648, H) (M1.1 k 0 (20 + j)) := by
    intro M1 k j hk h hj
    have e : z_i (2147483648, 2147483655) (M1.1 k 0 (20 + j)) := by
      rcases hk with rfl | rfl
      · exact h (37, 18, 43, (2147483648, 2147483655)) (by decide +kernel) 0 (20 + j) (by decide) (show 18 ≤ 20 + j by omega) (show 20 + j ≤ 43 by omega)
      · exact h (38, 18, 43, (2147483648, 2147483655)) (by decide +kernel) 0 (20 + j) (by decide) (show 18 ≤ 20 + j by omega) (show 20 + j ≤ 43 by omega)
    exact ⟨e.1, by have := e.2; dsimp only at this ⊢; omega⟩
  have kd : ∀ {M1 : aM}, z_M (zTb, [(45, 0, 15)], []) M [] M1 → M1.1 37 0 1 = M.1 37 0 1 := fun h => (h.2.1 37 0 1 rfl).1
  have put : ∀ {M1 : aM} {a : Nat} {x : Int32}, z_M (zTb, [(45, 0, 15)], []) M [] M1 → a < 16 → z_i (2147483647, 2147483663) x → z_M (zTb, [(45, 0, 15)], []) M [] (a_pI M1 45 0 a x) := by
    intro M1 a x h ha hx
    have q := z_M_pI (v := (2147483647, 2147483663)) (a := 0) (b := 15) (j := a) (x := x) h (k := 45) (i := 0) (by decide) (by omega) (by omega) hx
    exact ⟨q.1, q.2.1, h_MG0⟩
  -- round after round
  have lpo : ∀ (c : Nat) (mo : Int32) (l3 l4 l5 l6 l7 : Option aV) (M1 : aM), cnF (M1.1 45 0) 16 ≤ c → (mo = 0 ∨ mo = 1) → z_M (zTb, [(45, 0, 15)], []) M [] M1 → (∀ u, u < 16 → M1.1 45 0 u = -1 ∨ z_i (2147483648, H) (M1.1 45 0 u)) → K 30 [some (vR 36 0), some (vI f), some (vI mo), l3, l4, l5, l6, l7] [] M1 := by
    intro c
    induction c using Nat.strongRecOn with
    | ind c ihc =>
    intro mo l3 l4 l5 l6 l7 M0 hc hmo hM0 hF0
    rcases hmo with rfl | rfl
    · refine hK _ _ _ _ (hK _ _ _ _ (⟨fun q => ?_, fun q => ?_⟩))
      · exact hK _ _ _ _ (hK _ _ _ _ (⟨Or.inr rfl, post 1 M0 (Or.inr rfl) hM0⟩))
      · exact absurd rfl q
    refine hK _ _ _ _ (hK _ _ _ _ (⟨fun q => ?_, fun q => ?_⟩))
    · exact absurd q (by decide)
    -- line after line
    have lpi : ∀ (m j : Nat) (mo : Int32) (l4 l5 l6 l7 : Option aV) (M1 : aM), j + m = 24 → (mo = 0 ∨ (mo = 1 ∧ cnF (M1.1 45 0) 16 < cnF (M0.1 45 0) 16)) → z_M (zTb, [(45, 0, 15)], []) M [] M1 → (∀ u, u < 16 → M1.1 45 0 u = -1 ∨ z_i (2147483648, H) (M1.1 45 0 u)) → cnF (M1.1 45 0) 16 ≤ cnF (M0.1 45 0) 16 → K 38 [some (vR 36 0), some (vI f), some (vI mo), some (vI (Int32.ofNat j)), l4, l5, l6, l7] [] M1 := by
      intro m
      induction m with
      | zero =>
        intro j mo l4 l5 l6 l7 M1 hj hmo hM hF hle
        refine hK _ _ _ _ (hK _ _ _ _ (hK _ _ _ _ (⟨_, h_pI hct_lineMany rfl rfl rfl (show 2 ≤ d + 3 by omega) (h_R trivial) hM.1, rfl, fun v40 M40 g40 => ?_⟩)))
        obtain ⟨⟨r, rfl, hr⟩, rfl⟩ := g40
        refine hK _ _ _ _ (⟨fun q => ?_, fun q => ?_⟩)
        · refine hK _ _ _ _ (?_)
          rcases hmo with rfl | ⟨rfl, hlt⟩
          · refine hK _ _ _ _ (hK _ _ _ _ (⟨fun q => ?_, fun q => ?_⟩))
            · exact hK _ _ _ _ (hK _ _ _ _ (⟨Or.inr rfl, post 1 M1 (Or.inr rfl) hM⟩))
            · exact absurd rfl q
          · exact ihc _ (Nat.lt_of_lt_of_le hlt hc) _ _ _ _ _ _ _ (Nat.le_refl _) (Or.inr rfl) hM hF
        · exfalso
          apply q
          have h9 : z_b r ≤ 2147483672 := hr.2
          exact z_b_le.mpr (by rw [z_b_ofNat (by omega)]; omega)
      | succ m ih =>
        intro j mo l4 l5 l6 l7 M1 hj hmo hM hF hle
        refine hK _ _ _ _ (hK _ _ _ _ (hK _ _ _ _ (⟨_, h_pI hct_lineMany rfl rfl rfl (show 2 ≤ d + 3 by omega) (h_R trivial) hM.1, rfl, fun v40 M40 g40 => ?_⟩)))
        obtain ⟨⟨r, rfl, hr⟩, rfl⟩ := g40
        refine hK _ _ _ _ (⟨fun q => ?_, fun q => ?_⟩)
        · refine hK _ _ _ _ (?_)
          rcases hmo with rfl | ⟨rfl, hlt⟩
          · refine hK _ _ _ _ (hK _ _ _ _ (⟨fun q => ?_, fun q => ?_⟩))
            · exact hK _ _ _ _ (hK _ _ _ _ (⟨Or.inr rfl, post 1 M1 (Or.inr rfl) hM⟩))
            · exact absurd rfl q
          · exact ihc _ (Nat.lt_of_lt_of_le hlt hc) _ _ _ _ _ _ _ (Nat.le_refl _) (Or.inr rfl) hM hF
        clear q
        have ij : z_i (2147483648, 23 + 2147483648) (Int32.ofNat j) := x_rng' (m := 23) (by decide) (show j ≤ 23 by omega) rfl
        refine hK _ _ _ _ (hK _ _ _ _ (hK _ _ _ _ (hK _ _ _ _ (⟨_, h_pI hz_endOf rfl rfl rfl (show 3 ≤ d + 3 by omega) (h_R (h_Iv ij (h_Iv (h_bo (Or.inl rfl)) trivial))) hM.1, rfl, fun v49 M49 g49 => ?_⟩))))
        obtain ⟨⟨ra, rfl, ha⟩, rfl⟩ := g49
        obtain ⟨a, ha, rfl⟩ := x_rng (m := 15) (by decide) ha
        refine hK _ _ _ _ (hK _ _ _ _ (hK _ _ _ _ (hK _ _ _ _ (hK _ _ _ _ (⟨_, h_pI hz_endOf rfl rfl rfl (show 3 ≤ d + 3 by omega) (h_R (h_Iv ij (h_Iv (h_bo (Or.inr rfl)) trivial))) hM.1, rfl, fun v57 M57 g57 => ?_⟩)))))
        obtain ⟨⟨rb, rfl, hb⟩, rfl⟩ := g57
        obtain ⟨b, hb, rfl⟩ := x_rng (m := 15) (by decide) hb
        have e20 : (20 : Int32) + Int32.ofNat j = Int32.ofNat (20 + j) := hI_ad (a := 20)
        refine hK _ _ _ _ (hK _ _ _ _ (hK _ _ _ _ (hK _ _ _ _ (hK _ _ _ _ (hK _ _ _ _ (?_))))))
        refine hK _ _ _ _ ⟨x_vp e20 (show 20 + j < 1010 by omega) (by decide), ?_⟩
        rw [x_cl e20 (by omega)]
        refine hK _ _ _ _ (hK _ _ _ _ (hK _ _ _ _ (hK _ _ _ _ (hK _ _ _ _ (hK _ _ _ _ (?_))))))
        refine hK _ _ _ _ ⟨x_vp e20 (show 20 + j < 1010 by omega) (by decide), ?_⟩
        rw [x_cl e20 (by omega)]
        have hv := ln (Or.inl rfl) hM.1 (show j < 24 by omega)
        have hk := ln (Or.inr rfl) hM.1 (show j < 24 by omega)
        have hP := fun nS d hd => pk nS d M1 hd hM.1 (kd hM)
        -- to the next line
        have nxt : K 248 [some (vR 36 0), some (vI f), some (vI mo), some (vI (Int32.ofNat j)), some (vI (Int32.ofNat a)), some (vI (Int32.ofNat b)), some (vI (M1.1 37 0 (20 + j))), some (vI (M1.1 38 0 (20 + j)))] [] M1 := by
          refine hK _ _ _ _ (hK _ _ _ _ (?_))
          rw [hI_s]
          exact ih (j + 1) mo _ _ _ _ M1 (by omega) hmo hM hF hle
        -- one more is told
        have tell : ∀ (u : Nat) (x : Int32), u < 16 → M1.1 45 0 u = -1 → z_i (2147483648, H) x → ∀ l4 l5 l6 l7 : Option aV, K 248 [some (vR 36 0), some (vI f), some (vI 1), some (vI (Int32.ofNat j)), l4, l5, l6, l7] [] (a_pI M1 45 0 u x) := by
          intro u x hu hu1 hx l4 l5 l6 l7
          have hlt : cnF ((a_pI M1 45 0 u x).1 45 0) 16 < cnF (M1.1 45 0) 16 := cnF_lt (a := u) 16 hu hu1 (by rw [x_pe]; exact (okz hx).2) (fun w hw => x_pn (fun z => hw z.2.2))
          refine hK _ _ _ _ (hK _ _ _ _ (?_))
          rw [hI_s]
          refine ih (j + 1) 1 _ _ _ _ _ (by omega) (Or.inr ⟨rfl, Nat.lt_of_lt_of_le hlt hle⟩) (put hM hu (okz hx).1) (fun w hw => ?_) (Nat.le_of_lt (Nat.lt_of_lt_of_le hlt hle))
          by_cases e : w = u
          · rw [e, x_pe]
            exact Or.inr hx
          · rw [x_pn (fun z => e z.2.2)]
            exact hF w hw
        by_cases fa : M1.1 45 0 a = -1
        · -- the begin is not told
          refine hK _ _ _ _ (hK _ _ _ _ (hK _ _ _ _ (hK _ _ _ _ (?_))))
          refine hK _ _ _ _ ⟨x_vp rfl (show a < 16 by omega) (by decide), ?_⟩
          rw [x_cl rfl (by omega)]
          refine hK _ _ _ _ (hK _ _ _ _ (⟨fun q => ?_, fun q => ?_⟩))
          case refine_2 => exact absurd fa q
          refine hK _ _ _ _ (hK _ _ _ _ (hK _ _ _ _ (?_)))
          refine hK _ _ _ _ ⟨x_vp rfl (show a < 16 by omega) (by decide), ?_⟩
          rw [x_cl rfl (by omega)]
          refine hK _ _ _ _ (hK _ _ _ _ (⟨fun q => ?_, fun q => ?_⟩))
          case refine_1 => exact absurd fa q
          refine hK _ _ _ _ (hK _ _ _ _ (hK _ _ _ _ (?_)))
          refine hK _ _ _ _ ⟨x_vp rfl (show b < 16 by omega) (by decide), ?_⟩
          rw [x_cl rfl (by omega)]
          refine hK _ _ _ _ (hK _ _ _ _ (⟨fun q => ?_, fun q => ?_⟩))
          · -- neither
            refine hK _ _ _ _ (hK _ _ _ _ (hK _ _ _ _ (?_)))
            refine hK _ _ _ _ ⟨x_vp rfl (show a < 16 by omega) (by decide), ?_⟩
            rw [x_cl rfl (by omega)]
            refine hK _ _ _ _ (hK _ _ _ _ (⟨fun q2 => ?_, fun q2 => ?_⟩))
            · exact nxt
            · exact absurd fa q2
          · -- the end is
            have hb2 := (hF b (by omega)).resolve_left q
            refine hK _ _ _ _ (hK _ _ _ _ (hK _ _ _ _ (hK _ _ _ _ (hK _ _ _ _ (hK _ _ _ _ (hK _ _ _ _ (hK _ _ _ _ (hK _ _ _ _ (?_)))))))))
            refine hK _ _ _ _ ⟨x_vp rfl (show b < 16 by omega) (by decide), ?_⟩
            rw [x_cl rfl (by omega)]
            refine hK _ _ _ _ (⟨_, (hP nS _ (by omega)).1 _ _ hk hb2, rfl, fun v184 M184 g184 => ?_⟩)
            obtain ⟨⟨w1, rfl, h1⟩, rfl⟩ := g184
            refine hK _ _ _ _ (hK _ _ _ _ (hK _ _ _ _ (⟨_, (hP nS _ (by omega)).2 _ hv, rfl, fun v190 M190 g190 => ?_⟩)))
            obtain ⟨⟨w2, rfl, h2⟩, rfl⟩ := g190
            refine hK _ _ _ _ (⟨_, (hP nS _ (by omega)).1 _ _ h1 h2, rfl, fun v193 M193 g193 => ?_⟩)
            obtain ⟨⟨w3, rfl, h3⟩, rfl⟩ := g193
            refine hK _ _ _ _ ⟨x_vp rfl (show a < 16 by omega) (by decide), ?_⟩
            rw [x_cl rfl (by omega)]
            refine hK _ _ _ _ (hK _ _ _ _ (hK _ _ _ _ (?_)))
            exact tell a w3 (by omega) fa h3 _ _ _ _
        · have ha2 := (hF a (by omega)).resolve_left fa
          refine hK _ _ _ _ (hK _ _ _ _ (hK _ _ _ _ (hK _ _ _ _ (?_))))
          refine hK _ _ _ _ ⟨x_vp rfl (show a < 16 by omega) (by decide), ?_⟩
          rw [x_cl rfl (by omega)]
          refine hK _ _ _ _ (hK _ _ _ _ (⟨fun q => ?_, fun q => ?_⟩))
          case refine_1 => exact absurd q fa
          refine hK _ _ _ _ (hK _ _ _ _ (hK _ _ _ _ (?_)))
          refine hK _ _ _ _ ⟨x_vp rfl (show b < 16 by omega) (by decide), ?_⟩
          rw [x_cl rfl (by omega)]
          refine hK _ _ _ _ (hK _ _ _ _ (⟨fun q => ?_, fun q => ?_⟩))
          · -- both are told
            have hb2 := (hF b (by omega)).resolve_left q
            refine hK _ _ _ _ (hK _ _ _ _ (hK _ _ _ _ (?_)))
            refine hK _ _ _ _ ⟨x_vp rfl (show a < 16 by omega) (by decide), ?_⟩
            rw [x_cl rfl (by omega)]
            refine hK _ _ _ _ (hK _ _ _ _ (⟨fun q => ?_, fun q => ?_⟩))
            case refine_2 => exact absurd q fa
            refine hK _ _ _ _ (hK _ _ _ _ (hK _ _ _ _ (?_)))
            refine hK _ _ _ _ ⟨x_vp rfl (show a < 16 by omega) (by decide), ?_⟩
            rw [x_cl rfl (by omega)]
            refine hK _ _ _ _ (hK _ _ _ _ (⟨fun q2 => ?_, fun q2 => ?_⟩))
            · exact absurd q2 fa
            refine hK _ _ _ _ (hK _ _ _ _ (hK _ _ _ _ (hK _ _ _ _ (hK _ _ _ _ (?_)))))
            refine hK _ _ _ _ ⟨x_vp rfl (show a < 16 by omega) (by decide), ?_⟩
            rw [x_cl rfl (by omega)]
            refine hK _ _ _ _ (hK _ _ _ _ (⟨_, (hP nS _ (by omega)).1 _ _ ha2 hv, rfl, fun v224 M224 g224 => ?_⟩))
            obtain ⟨⟨w1, rfl, h1⟩, rfl⟩ := g224
            refine hK _ _ _ _ (hK _ _ _ _ (hK _ _ _ _ (hK _ _ _ _ (?_))))
            refine hK _ _ _ _ ⟨x_vp rfl (show b < 16 by omega) (by decide), ?_⟩
            rw [x_cl rfl (by omega)]
            refine hK _ _ _ _ (⟨_, (hP nS _ (by omega)).2 _ hb2, rfl, fun v235 M235 g235 => ?_⟩)
            obtain ⟨⟨w2, rfl, h2⟩, rfl⟩ := g235
            refine hK _ _ _ _ (⟨_, (hP nS _ (by omega)).1 _ _ h1 h2, rfl, fun v238 M238 g238 => ?_⟩)
            obtain ⟨⟨w3, rfl, h3⟩, rfl⟩ := g238
            refine hK _ _ _ _ (hK _ _ _ _ (⟨fun _ => ?_, fun _ => ?_⟩))
            · exact nxt
            · exact hK _ _ _ _ (hK _ _ _ _ (⟨Or.inl rfl, post 0 M1 (Or.inl rfl) hM⟩))
          · -- the begin is
            refine hK _ _ _ _ (hK _ _ _ _ (hK _ _ _ _ (hK _ _ _ _ (hK _ _ _ _ (hK _ _ _ _ (hK _ _ _ _ (hK _ _ _ _ (hK _ _ _ _ (hK _ _ _ _ (?_))))))))))
            refine hK _ _ _ _ ⟨x_vp rfl (show a < 16 by omega) (by decide), ?_⟩
            rw [x_cl rfl (by omega)]
            refine hK _ _ _ _ (hK _ _ _ _ (⟨_, (hP nS _ (by omega)).1 _ _ ha2 hv, rfl, fun v125 M125 g125 => ?_⟩))
            obtain ⟨⟨w1, rfl, h1⟩, rfl⟩ := g125
            refine hK _ _ _ _ (⟨_, (hP nS _ (by omega)).2 _ h1, rfl, fun v128 M128 g128 => ?_⟩)
            obtain ⟨⟨w2, rfl, h2⟩, rfl⟩ := g128
            refine hK _ _ _ _ (hK _ _ _ _ (⟨_, (hP nS _ (by omega)).1 _ _ h2 hk, rfl, fun v133 M133 g133 => ?_⟩))
            obtain ⟨⟨w3, rfl, h3⟩, rfl⟩ := g133
            refine hK _ _ _ _ (⟨_, (hP nS _ (by omega)).2 _ h3, rfl, fun v136 M136 g136 => ?_⟩)
            obtain ⟨⟨w4, rfl, h4⟩, rfl⟩ := g136
            refine hK _ _ _ _ ⟨x_vp rfl (show b < 16 by omega) (by decide), ?_⟩
            rw [x_cl rfl (by omega)]
            refine hK _ _ _ _ (hK _ _ _ _ (hK _ _ _ _ (?_)))
            exact tell b w4 (by omega) q h4 _ _ _ _
    refine hK _ _ _ _ (hK _ _ _ _ (hK _ _ _ _ (hK _ _ _ _ (?_))))
    exact lpi 24 0 0 _ _ _ _ M0 rfl (Or.inl rfl) hM0 hF0 (Nat.le_refl _)
  -- none is told at first
  have lp0 : ∀ (m j : Nat) (M1 : aM), j + m = 16 → z_M (zTb, [(45, 0, 15)], []) M [] M1 → (∀ u, u < j → M1.1 45 0 u = -1) → K 2 [some (vR 36 0), some (vI f), some (vI (Int32.ofNat j)), none, none, none, none, none] [] M1 := by
    intro m
    induction m with
    | zero =>
      intro j M1 hj hM hu
      refine hK _ _ _ _ (hK _ _ _ _ (hK _ _ _ _ (⟨fun q => ?_, fun q => ?_⟩)))
      · refine hK _ _ _ _ (hK _ _ _ _ (hK _ _ _ _ (hK _ _ _ _ (?_))))
        refine hK _ _ _ _ ⟨x_vp (a := 0) rfl (by decide) (by decide), ?_⟩
        rw [x_cl (j := 0) (a := 0) rfl (by decide)]
        refine hK _ _ _ _ (hK _ _ _ _ (?_))
        have hf2 : z_i (2147483648, H) f := ⟨hf.1, by have := hf.2; dsimp only at this ⊢; omega⟩
        refine lpo _ 1 _ _ _ _ _ _ (Nat.le_refl _) (Or.inr rfl) (put hM (by decide) (okz hf2).1) (fun u hu2 => ?_)
        by_cases e : u = 0
        · rw [e, x_pe]
          exact Or.inr hf2
        · rw [x_pn (fun z => e z.2.2)]
          exact Or.inl (hu u (by omega))
      · exact absurd ((hI_le (a := 16) (b := j) (by decide) (by omega)).mpr (by omega)) q
    | succ m ih =>
      intro j M1 hj hM hu
      refine hK _ _ _ _ (hK _ _ _ _ (hK _ _ _ _ (⟨fun q => ?_, fun q => ?_⟩)))
      · have := (hI_le (a := 16) (b := j) (by decide) (by omega)).mp q
        omega
      · refine hK _ _ _ _ (hK _ _ _ _ (hK _ _ _ _ (hK _ _ _ _ (?_))))
        refine hK _ _ _ _ ⟨x_vp rfl (show j < 16 by omega) (by decide), ?_⟩
        rw [x_cl rfl (by omega)]
        refine hK _ _ _ _ (hK _ _ _ _ (?_))
        rw [hI_s]
        refine ih (j + 1) _ (by omega) (put hM (by omega) ⟨Nat.le_of_eq z_b_m1.symm, by rw [z_b_m1]; decide⟩) (fun u hu2 => ?_)
        by_cases e : u = j
        · rw [e, x_pe]
        · rw [x_pn (fun z => e z.2.2)]
          exact hu u (by omega)
  refine hK _ _ _ _ (hK _ _ _ _ (?_))
  exact lp0 16 0 M rfl (h_M0 hT) (fun u hu => absurd hu (Nat.not_lt_zero _))
theorem hct_isAlikeBy : z_ctH zTb ct_isAlikeBy := hz_isAlikeBy
def ct_alike : zCt := (232, [.inr (.inr (36, 0))], [], [(36, 0, 0), (45, 0, 15)], [.inl (some (.inl (2147483648, 2147483649)), [(589824, (2147483648, 2147483649))])], 5)
theorem hct_alike : z_ctH zTb ct_alike := sorry
def ct_mean_0_2 : zCt := (247, [.inr (.inr (36, 0)), .inl (0, 4294967295)], [(606209, (2147483648, 2147483648)), (606210, (2147483650, 2147483650))], [(36, 0, 0), (36, 6, 16), (41, 0, 108), (42, 0, 108), (43, 0, 79), (44, 0, 79)], [.inl (some (.inr (.inl none)), [(589824, (2147483649, 2147483650)), (589830, (2147483648, 2147483648))]), .inl (some (.inr (.inl none)), [(589824, (2147483648, 2147483651)), (589831, (2147483648, 2147484048)), (589832, (2147483648, 2147484048)), (589833, (2147483647, 2147483647)), (589830, (2147483648, 2147483648)), (589834, (2147483648, 2147484048)), (589840, (2147483648, 2147483756))])], 12)
theorem hct_mean_0_2 : z_ctH zTb ct_mean_0_2 := sorry
def ct_mean_0_3 : zCt := (247, [.inr (.inr (36, 0)), .inl (0, 4294967295)], [(606209, (2147483648, 2147483648)), (606210, (2147483651, 2147483651))], [(36, 0, 0), (36, 6, 16), (41, 0, 108), (42, 0, 108), (43, 0, 79), (44, 0, 79)], [.inl (some (.inr (.inl none)), [(589824, (2147483649, 2147483650)), (589830, (2147483648, 2147483648))]), .inl (some (.inr (.inl none)), [(589824, (2147483648, 2147483651)), (589831, (2147483648, 2147484048)), (589832, (2147483648, 2147484048)), (589833, (2147483647, 2147483647)), (589830, (2147483648, 2147483648)), (589834, (2147483648, 2147484048)), (589840, (2147483648, 2147483756))])], 12)
theorem hct_mean_0_3 : z_ctH zTb ct_mean_0_3 := sorry
def ct_mean_0_4 : zCt := (247, [.inr (.inr (36, 0)), .inl (0, 4294967295)], [(606209, (2147483648, 2147483648)), (606210, (2147483652, 2147483652))], [(36, 0, 0), (36, 6, 16), (41, 0, 108), (42, 0, 108), (43, 0, 79), (44, 0, 79)], [.inl (some (.inr (.inl none)), [(589824, (2147483649, 2147483650)), (589830, (2147483648, 2147483648))]), .inl (some (.inr (.inl none)), [(589824, (2147483648, 2147483651)), (589831, (2147483648, 2147484048)), (589832, (2147483648, 2147484048)), (589833, (2147483647, 2147483647)), (589830, (2147483648, 2147483648)), (589834, (2147483648, 2147484048)), (589840, (2147483648, 2147483756))])], 12)
theorem hct_mean_0_4 : z_ctH zTb ct_mean_0_4 := sorry
def ct_mean_0_5 : zCt := (247, [.inr (.inr (36, 0)), .inl (0, 4294967295)], [(606209, (2147483648, 2147483648)), (606210, (2147483653, 2147483653))], [(36, 0, 0), (36, 6, 16), (41, 0, 108), (42, 0, 108), (43, 0, 79), (44, 0, 79)], [.inl (some (.inr (.inl none)), [(589824, (2147483649, 2147483650)), (589830, (2147483648, 2147483648))]), .inl (some (.inr (.inl none)), [(589824, (2147483648, 2147483651)), (589831, (2147483648, 2147484048)), (589832, (2147483648, 2147484048)), (589833, (2147483647, 2147483647)), (589830, (2147483648, 2147483648)), (589834, (2147483648, 2147484048)), (589840, (2147483648, 2147483756))])], 12)
theorem hct_mean_0_5 : z_ctH zTb ct_mean_0_5 := sorry
def ct_mean_0_6 : zCt := (247, [.inr (.inr (36, 0)), .inl (0, 4294967295)], [(606209, (2147483648, 2147483648)), (606210, (2147483654, 2147483654))], [(36, 0, 0), (36, 6, 16), (41, 0, 108), (42, 0, 108), (43, 0, 79), (44, 0, 79)], [.inl (some (.inr (.inl none)), [(589824, (2147483649, 2147483650)), (589830, (2147483648, 2147483648))]), .inl (some (.inr (.inl none)), [(589824, (2147483648, 2147483651)), (589831, (2147483648, 2147484048)), (589832, (2147483648, 2147484048)), (589833, (2147483647, 2147483647)), (589830, (2147483648, 2147483648)), (589834, (2147483648, 2147484048)), (589840, (2147483648, 2147483756))])], 12)
theorem hct_mean_0_6 : z_ctH zTb ct_mean_0_6 := sorry
def ct_mean_0_7 : zCt := (247, [.inr (.inr (36, 0)), .inl (0, 4294967295)], [(606209, (2147483648, 2147483648)), (606210, (2147483655, 2147483655))], [(36, 0, 0), (36, 6, 16), (41, 0, 108), (42, 0, 108), (43, 0, 79), (44, 0, 79)], [.inl (some (.inr (.inl none)), [(589824, (2147483649, 2147483650)), (589830, (2147483648, 2147483648))]), .inl (some (.inr (.inl none)), [(589824, (2147483648, 2147483651)), (589831, (2147483648, 2147484048)), (589832, (2147483648, 2147484048)), (589833, (2147483647, 2147483647)), (589830, (2147483648, 2147483648)), (589834, (2147483648, 2147484048)), (589840, (2147483648, 2147483756))])], 12)
theorem hct_mean_0_7 : z_ctH zTb ct_mean_0_7 := sorry

def ct_mean_0_8 : zCt := (247, [.inr (.inr (36, 0)), .inl (0, 4294967295)], [(606209, (2147483648, 2147483648)), (606210, (2147483656, 2147483656))], [(36, 0, 0), (36, 6, 16), (41, 0, 108), (42, 0, 108), (43, 0, 79), (44, 0, 79)], [.inl (some (.inr (.inl none)), [(589824, (2147483649, 2147483650)), (589830, (2147483648, 2147483648))]), .inl (some (.inr (.inl none)), [(589824, (2147483648, 2147483651)), (589831, (2147483648, 2147484048)), (589832, (2147483648, 2147484048)), (589833, (2147483647, 2147483647)), (589830, (2147483648, 2147483648)), (589834, (2147483648, 2147484048)), (589840, (2147483648, 2147483756))])], 12)
theorem hct_mean_0_8 : z_ctH zTb ct_mean_0_8 := sorry
def ct_mean_1_4 : zCt := (247, [.inr (.inr (36, 0)), .inl (0, 4294967295)], [(606209, (2147483649, 2147483649)), (606210, (2147483652, 2147483652))], [(36, 0, 0), (36, 6, 16), (41, 0, 108), (42, 0, 108), (43, 0, 79), (44, 0, 79)], [.inl (some (.inr (.inl none)), [(589824, (2147483649, 2147483650)), (589830, (2147483648, 2147483648))]), .inl (some (.inr (.inl none)), [(589824, (2147483648, 2147483651)), (589831, (2147483648, 2147484048)), (589832, (2147483648, 2147484048)), (589833, (2147483647, 2147483647)), (589830, (2147483648, 2147483648)), (589834, (2147483648, 2147484048)), (589840, (2147483648, 2147483756))])], 12)
theorem hct_mean_1_4 : z_ctH zTb ct_mean_1_4 := sorry
def ct_mean_1_6 : zCt := (247, [.inr (.inr (36, 0)), .inl (0, 4294967295)], [(606209, (2147483649, 2147483649)), (606210, (2147483654, 2147483654))], [(36, 0, 0), (36, 6, 16), (41, 0, 108), (42, 0, 108), (43, 0, 79), (44, 0, 79)], [.inl (some (.inr (.inl none)), [(589824, (2147483649, 2147483650)), (589830, (2147483648, 2147483648))]), .inl (some (.inr (.inl none)), [(589824, (2147483648, 2147483651)), (589831, (2147483648, 2147484048)), (589832, (2147483648, 2147484048)), (589833, (2147483647, 2147483647)), (589830, (2147483648, 2147483648)), (589834, (2147483648, 2147484048)), (589840, (2147483648, 2147483756))])], 12)
theorem hct_mean_1_6 : z_ctH zTb ct_mean_1_6 := sorry
def ct_mean_1_8 : zCt := (247, [.inr (.inr (36, 0)), .inl (0, 4294967295)], [(606209, (2147483649, 2147483649)), (606210, (2147483656, 2147483656))], [(36, 0, 0), (36, 6, 16), (41, 0, 108), (42, 0, 108), (43, 0, 79), (44, 0, 79)], [.inl (some (.inr (.inl none)), [(589824, (2147483649, 2147483650)), (589830, (2147483648, 2147483648))]), .inl (some (.inr (.inl none)), [(589824, (2147483648, 2147483651)), (589831, (2147483648, 2147484048)), (589832, (2147483648, 2147484048)), (589833, (2147483647, 2147483647)), (589830, (2147483648, 2147483648)), (589834, (2147483648, 2147484048)), (589840, (2147483648, 2147483756))])], 12)
theorem hct_mean_1_8 : z_ctH zTb ct_mean_1_8 := sorry
def ct_mean_2_8 : zCt := (247, [.inr (.inr (36, 0)), .inl (0, 4294967295)], [(606209, (2147483650, 2147483650)), (606210, (2147483656, 2147483656))], [(36, 0, 0), (36, 6, 16), (41, 0, 108), (42, 0, 108), (43, 0, 79), (44, 0, 79)], [.inl (some (.inr (.inl none)), [(589824, (2147483649, 2147483650)), (589830, (2147483648, 2147483648))]), .inl (some (.inr (.inl none)), [(589824, (2147483648, 2147483651)), (589831, (2147483648, 2147484048)), (589832, (2147483648, 2147484048)), (589833, (2147483647, 2147483647)), (589830, (2147483648, 2147483648)), (589834, (2147483648, 2147484048)), (589840, (2147483648, 2147483756))])], 12)
theorem hct_mean_2_8 : z_ctH zTb ct_mean_2_8 := sorry
def ct_mean_3_2 : zCt := (247, [.inr (.inr (36, 0)), .inl (0, 4294967295)], [(606209, (2147483651, 2147483651)), (606210, (2147483650, 2147483650))], [(36, 0, 0), (36, 6, 16), (41, 0, 108), (42, 0, 108), (43, 0, 79), (44, 0, 79)], [.inl (some (.inr (.inl none)), [(589824, (2147483649, 2147483650)), (589830, (2147483648, 2147483648))]), .inl (some (.inr (.inl none)), [(589824, (2147483648, 2147483651)), (589831, (2147483648, 2147484048)), (589832, (2147483648, 2147484048)), (589833, (2147483647, 2147483647)), (589830, (2147483648, 2147483648)), (589834, (2147483648, 2147484048)), (589840, (2147483648, 2147483756))])], 12)
theorem hct_mean_3_2 : z_ctH zTb ct_mean_3_2 := sorry
def ct_mean_3_4 : zCt := (247, [.inr (.inr (36, 0)), .inl (0, 4294967295)], [(606209, (2147483651, 2147483651)), (606210, (2147483652, 2147483652))], [(36, 0, 0), (36, 6, 16), (41, 0, 108), (42, 0, 108), (43, 0, 79), (44, 0, 79)], [.inl (some (.inr (.inl none)), [(589824, (2147483649, 2147483650)), (589830, (2147483648, 2147483648))]), .inl (some (.inr (.inl none)), [(589824, (2147483648, 2147483651)), (589831, (2147483648, 2147484048)), (589832, (2147483648, 2147484048)), (589833, (2147483647, 2147483647)), (589830, (2147483648, 2147483648)), (589834, (2147483648, 2147484048)), (589840, (2147483648, 2147483756))])], 12)
theorem hct_mean_3_4 : z_ctH zTb ct_mean_3_4 := sorry
def ct_mean_3_8 : zCt := (247, [.inr (.inr (36, 0)), .inl (0, 4294967295)], [(606209, (2147483651, 2147483651)), (606210, (2147483656, 2147483656))], [(36, 0, 0), (36, 6, 16), (41, 0, 108), (42, 0, 108), (43, 0, 79), (44, 0, 79)], [.inl (some (.inr (.inl none)), [(589824, (2147483649, 2147483650)), (589830, (2147483648, 2147483648))]), .inl (some (.inr (.inl none)), [(589824, (2147483648, 2147483651)), (589831, (2147483648, 2147484048)), (589832, (2147483648, 2147484048)), (589833, (2147483647, 2147483647)), (589830, (2147483648, 2147483648)), (589834, (2147483648, 2147484048)), (589840, (2147483648, 2147483756))])], 12)
theorem hct_mean_3_8 : z_ctH zTb ct_mean_3_8 := sorry
def ct_X6_at_2_0 : zCt := (104, [.inr (.inr (2, 0)), .inl (0, 4294967295)], [], [], [.inl (some (.inl (0, 4294967295)), [])], 1)
theorem hct_X6_at_2_0 : z_ctH zTb ct_X6_at_2_0 := sorry
def ct_X6_put_2_0 : zCt := (106, [.inr (.inr (2, 0)), .inl (0, 4294967295), .inl (0, 4294967295)], [], [(2, 0, 399)], [.inl (none, [])], 1)
theorem hct_X6_put_2_0 : z_ctH zTb ct_X6_put_2_0 := sorry
def ct_X6_add_2_0 : zCt := (107, [.inr (.inr (2, 0)), .inl (0, 4294967295), .inl (0, 4294967295)], [], [(2, 0, 399)], [.inl (none, [])], 1)
theorem hct_X6_add_2_0 : z_ctH zTb ct_X6_add_2_0 := sorry
def ct_X6_fill_2_0 : zCt := (110, [.inr (.inr (2, 0)), .inl (0, 4294967295)], [], [(2, 0, 399)], [.inl (none, [])], 1)
theorem hct_X6_fill_2_0 : z_ctH zTb ct_X6_fill_2_0 := sorry
def ct_X6_at_6_0 : zCt := (104, [.inr (.inr (6, 0)), .inl (0, 4294967295)], [], [], [.inl (some (.inl (0, 4294967295)), [])], 1)
theorem hct_X6_at_6_0 : z_ctH zTb ct_X6_at_6_0 := sorry
def ct_X6_put_6_0 : zCt := (106, [.inr (.inr (6, 0)), .inl (0, 4294967295), .inl (0, 4294967295)], [], [(6, 0, 63)], [.inl (none, [])], 1)
theorem hct_X6_put_6_0 : z_ctH zTb ct_X6_put_6_0 := sorry
def ct_X6_add_6_0 : zCt := (107, [.inr (.inr (6, 0)), .inl (0, 4294967295), .inl (0, 4294967295)], [], [(6, 0, 63)], [.inl (none, [])], 1)
theorem hct_X6_add_6_0 : z_ctH zTb ct_X6_add_6_0 := sorry
def ct_X6_fill_6_0 : zCt := (110, [.inr (.inr (6, 0)), .inl (0, 4294967295)], [], [(6, 0, 63)], [.inl (none, [])], 1)
theorem hct_X6_fill_6_0 : z_ctH zTb ct_X6_fill_6_0 := sorry
def ct_X6_at_6_1 : zCt := (104, [.inr (.inr (6, 1)), .inl (0, 4294967295)], [], [], [.inl (some (.inl (0, 4294967295)), [])], 1)
theorem hct_X6_at_6_1 : z_ctH zTb ct_X6_at_6_1 := sorry
def ct_X6_put_6_1 : zCt := (106, [.inr (.inr (6, 1)), .inl (0, 4294967295), .inl (0, 4294967295)], [], [(6, 0, 63)], [.inl (none, [])], 1)
theorem hct_X6_put_6_1 : z_ctH zTb ct_X6_put_6_1 := sorry
def ct_X6_add_6_1 : zCt := (107, [.inr (.inr (6, 1)), .inl (0, 4294967295), .inl (0, 4294967295)], [], [(6, 0, 63)], [.inl (none, [])], 1)
theorem hct_X6_add_6_1 : z_ctH zTb ct_X6_add_6_1 := sorry
def ct_X6_fill_6_1 : zCt := (110, [.inr (.inr (6, 1)), .inl (0, 4294967295)], [], [(6, 0, 63)], [.inl (none, [])], 1)
theorem hct_X6_fill_6_1 : z_ctH zTb ct_X6_fill_6_1 := sorry
def ct_X6_at_6_2 : zCt := (104, [.inr (.inr (6, 2)), .inl (0, 4294967295)], [], [], [.inl (some (.inl (0, 4294967295)), [])], 1)
theorem hct_X6_at_6_2 : z_ctH zTb ct_X6_at_6_2 := sorry
def ct_X6_put_6_2 : zCt := (106, [.inr (.inr (6, 2)), .inl (0, 4294967295), .inl (0, 4294967295)], [], [(6, 0, 63)], [.inl (none, [])], 1)
theorem hct_X6_put_6_2 : z_ctH zTb ct_X6_put_6_2 := sorry
def ct_X6_add_6_2 : zCt := (107, [.inr (.inr (6, 2)), .inl (0, 4294967295), .inl (0, 4294967295)], [], [(6, 0, 63)], [.inl (none, [])], 1)
theorem hct_X6_add_6_2 : z_ctH zTb ct_X6_add_6_2 := sorry
def ct_X6_fill_6_2 : zCt := (110, [.inr (.inr (6, 2)), .inl (0, 4294967295)], [], [(6, 0, 63)], [.inl (none, [])], 1)
theorem hct_X6_fill_6_2 : z_ctH zTb ct_X6_fill_6_2 := sorry
def ct_X6_at_7_0 : zCt := (104, [.inr (.inr (7, 0)), .inl (0, 4294967295)], [], [], [.inl (some (.inl (0, 4294967295)), [])], 1)
theorem hct_X6_at_7_0 : z_ctH zTb ct_X6_at_7_0 := sorry
def ct_X6_put_7_0 : zCt := (106, [.inr (.inr (7, 0)), .inl (0, 4294967295), .inl (0, 4294967295)], [], [(7, 0, 7)], [.inl (none, [])], 1)
theorem hct_X6_put_7_0 : z_ctH zTb ct_X6_put_7_0 := sorry
def ct_X6_add_7_0 : zCt := (107, [.inr (.inr (7, 0)), .inl (0, 4294967295), .inl (0, 4294967295)], [], [(7, 0, 7)], [.inl (none, [])], 1)
theorem hct_X6_add_7_0 : z_ctH zTb ct_X6_add_7_0 := sorry
def ct_X6_fill_7_0 : zCt := (110, [.inr (.inr (7, 0)), .inl (0, 4294967295)], [], [(7, 0, 7)], [.inl (none, [])], 1)
theorem hct_X6_fill_7_0 : z_ctH zTb ct_X6_fill_7_0 := sorry
def ct_X6_at_7_1 : zCt := (104, [.inr (.inr (7, 1)), .inl (0, 4294967295)], [], [], [.inl (some (.inl (0, 4294967295)), [])], 1)
theorem hct_X6_at_7_1 : z_ctH zTb ct_X6_at_7_1 := sorry
def ct_X6_put_7_1 : zCt := (106, [.inr (.inr (7, 1)), .inl (0, 4294967295), .inl (0, 4294967295)], [], [(7, 0, 7)], [.inl (none, [])], 1)
theorem hct_X6_put_7_1 : z_ctH zTb ct_X6_put_7_1 := sorry
def ct_X6_add_7_1 : zCt := (107, [.inr (.inr (7, 1)), .inl (0, 4294967295), .inl (0, 4294967295)], [], [(7, 0, 7)], [.inl (none, [])], 1)
theorem hct_X6_add_7_1 : z_ctH zTb ct_X6_add_7_1 := sorry
def ct_X6_fill_7_1 : zCt := (110, [.inr (.inr (7, 1)), .inl (0, 4294967295)], [], [(7, 0, 7)], [.inl (none, [])], 1)
theorem hct_X6_fill_7_1 : z_ctH zTb ct_X6_fill_7_1 := sorry
def ct_X6_at_7_2 : zCt := (104, [.inr (.inr (7, 2)), .inl (0, 4294967295)], [], [], [.inl (some (.inl (0, 4294967295)), [])], 1)
theorem hct_X6_at_7_2 : z_ctH zTb ct_X6_at_7_2 := sorry
def ct_X6_put_7_2 : zCt := (106, [.inr (.inr (7, 2)), .inl (0, 4294967295), .inl (0, 4294967295)], [], [(7, 0, 7)], [.inl (none, [])], 1)
theorem hct_X6_put_7_2 : z_ctH zTb ct_X6_put_7_2 := sorry
def ct_X6_add_7_2 : zCt := (107, [.inr (.inr (7, 2)), .inl (0, 4294967295), .inl (0, 4294967295)], [], [(7, 0, 7)], [.inl (none, [])], 1)
theorem hct_X6_add_7_2 : z_ctH zTb ct_X6_add_7_2 := sorry
def ct_X6_fill_7_2 : zCt := (110, [.inr (.inr (7, 2)), .inl (0, 4294967295)], [], [(7, 0, 7)], [.inl (none, [])], 1)
theorem hct_X6_fill_7_2 : z_ctH zTb ct_X6_fill_7_2 := sorry
def ct_X6_at_8_0 : zCt := (104, [.inr (.inr (8, 0)), .inl (0, 4294967295)], [], [], [.inl (some (.inl (0, 4294967295)), [])], 1)
theorem hct_X6_at_8_0 : z_ctH zTb ct_X6_at_8_0 := sorry
def ct_X6_put_8_0 : zCt := (106, [.inr (.inr (8, 0)), .inl (0, 4294967295), .inl (0, 4294967295)], [], [(8, 0, 7)], [.inl (none, [])], 1)
theorem hct_X6_put_8_0 : z_ctH zTb ct_X6_put_8_0 := sorry
def ct_X6_add_8_0 : zCt := (107, [.inr (.inr (8, 0)), .inl (0, 4294967295), .inl (0, 4294967295)], [], [(8, 0, 7)], [.inl (none, [])], 1)
theorem hct_X6_add_8_0 : z_ctH zTb ct_X6_add_8_0 := sorry
def ct_X6_fill_8_0 : zCt := (110, [.inr (.inr (8, 0)), .inl (0, 4294967295)], [], [(8, 0, 7)], [.inl (none, [])], 1)
theorem hct_X6_fill_8_0 : z_ctH zTb ct_X6_fill_8_0 := sorry
def ct_X6_at_8_1 : zCt := (104, [.inr (.inr (8, 1)), .inl (0, 4294967295)], [], [], [.inl (some (.inl (0, 4294967295)), [])], 1)
theorem hct_X6_at_8_1 : z_ctH zTb ct_X6_at_8_1 := sorry
def ct_X6_put_8_1 : zCt := (106, [.inr (.inr (8, 1)), .inl (0, 4294967295), .inl (0, 4294967295)], [], [(8, 0, 7)], [.inl (none, [])], 1)
theorem hct_X6_put_8_1 : z_ctH zTb ct_X6_put_8_1 := sorry
def ct_X6_add_8_1 : zCt := (107, [.inr (.inr (8, 1)), .inl (0, 4294967295), .inl (0, 4294967295)], [], [(8, 0, 7)], [.inl (none, [])], 1)
theorem hct_X6_add_8_1 : z_ctH zTb ct_X6_add_8_1 := sorry
def ct_X6_fill_8_1 : zCt := (110, [.inr (.inr (8, 1)), .inl (0, 4294967295)], [], [(8, 0, 7)], [.inl (none, [])], 1)
theorem hct_X6_fill_8_1 : z_ctH zTb ct_X6_fill_8_1 := sorry
def ct_X6_at_8_2 : zCt := (104, [.inr (.inr (8, 2)), .inl (0, 4294967295)], [], [], [.inl (some (.inl (0, 4294967295)), [])], 1)
theorem hct_X6_at_8_2 : z_ctH zTb ct_X6_at_8_2 := sorry
def ct_X6_put_8_2 : zCt := (106, [.inr (.inr (8, 2)), .inl (0, 4294967295), .inl (0, 4294967295)], [], [(8, 0, 7)], [.inl (none, [])], 1)
theorem hct_X6_put_8_2 : z_ctH zTb ct_X6_put_8_2 := sorry
def ct_X6_add_8_2 : zCt := (107, [.inr (.inr (8, 2)), .inl (0, 4294967295), .inl (0, 4294967295)], [], [(8, 0, 7)], [.inl (none, [])], 1)
theorem hct_X6_add_8_2 : z_ctH zTb ct_X6_add_8_2 := sorry
def ct_X6_fill_8_2 : zCt := (110, [.inr (.inr (8, 2)), .inl (0, 4294967295)], [], [(8, 0, 7)], [.inl (none, [])], 1)
theorem hct_X6_fill_8_2 : z_ctH zTb ct_X6_fill_8_2 := sorry
def ct_X6_at_9_0 : zCt := (104, [.inr (.inr (9, 0)), .inl (0, 4294967295)], [], [], [.inl (some (.inl (0, 4294967295)), [])], 1)
theorem hct_X6_at_9_0 : z_ctH zTb ct_X6_at_9_0 := sorry
def ct_X6_put_9_0 : zCt := (106, [.inr (.inr (9, 0)), .inl (0, 4294967295), .inl (0, 4294967295)], [], [(9, 0, 7)], [.inl (none, [])], 1)
theorem hct_X6_put_9_0 : z_ctH zTb ct_X6_put_9_0 := sorry
def ct_X6_add_9_0 : zCt := (107, [.inr (.inr (9, 0)), .inl (0, 4294967295), .inl (0, 4294967295)], [], [(9, 0, 7)], [.inl (none, [])], 1)
theorem hct_X6_add_9_0 : z_ctH zTb ct_X6_add_9_0 := sorry
def ct_X6_fill_9_0 : zCt := (110, [.inr (.inr (9, 0)), .inl (0, 4294967295)], [], [(9, 0, 7)], [.inl (none, [])], 1)
theorem hct_X6_fill_9_0 : z_ctH zTb ct_X6_fill_9_0 := sorry
def ct_X6_at_9_1 : zCt := (104, [.inr (.inr (9, 1)), .inl (0, 4294967295)], [], [], [.inl (some (.inl (0, 4294967295)), [])], 1)
theorem hct_X6_at_9_1 : z_ctH zTb ct_X6_at_9_1 := sorry
def ct_X6_put_9_1 : zCt := (106, [.inr (.inr (9, 1)), .inl (0, 4294967295), .inl (0, 4294967295)], [], [(9, 0, 7)], [.inl (none, [])], 1)
theorem hct_X6_put_9_1 : z_ctH zTb ct_X6_put_9_1 := sorry
def ct_X6_add_9_1 : zCt := (107, [.inr (.inr (9, 1)), .inl (0, 4294967295), .inl (0, 4294967295)], [], [(9, 0, 7)], [.inl (none, [])], 1)
theorem hct_X6_add_9_1 : z_ctH zTb ct_X6_add_9_1 := sorry
def ct_X6_fill_9_1 : zCt := (110, [.inr (.inr (9, 1)), .inl (0, 4294967295)], [], [(9, 0, 7)], [.inl (none, [])], 1)
theorem hct_X6_fill_9_1 : z_ctH zTb ct_X6_fill_9_1 := sorry
def ct_X6_at_9_2 : zCt := (104, [.inr (.inr (9, 2)), .inl (0, 4294967295)], [], [], [.inl (some (.inl (0, 4294967295)), [])], 1)
theorem hct_X6_at_9_2 : z_ctH zTb ct_X6_at_9_2 := sorry
def ct_X6_put_9_2 : zCt := (106, [.inr (.inr (9, 2)), .inl (0, 4294967295), .inl (0, 4294967295)], [], [(9, 0, 7)], [.inl (none, [])], 1)
theorem hct_X6_put_9_2 : z_ctH zTb ct_X6_put_9_2 := sorry
def ct_X6_add_9_2 : zCt := (107, [.inr (.inr (9, 2)), .inl (0, 4294967295), .inl (0, 4294967295)], [], [(9, 0, 7)], [.inl (none, [])], 1)
theorem hct_X6_add_9_2 : z_ctH zTb ct_X6_add_9_2 := sorry
def ct_X6_fill_9_2 : zCt := (110, [.inr (.inr (9, 2)), .inl (0, 4294967295)], [], [(9, 0, 7)], [.inl (none, [])], 1)
theorem hct_X6_fill_9_2 : z_ctH zTb ct_X6_fill_9_2 := sorry
def ct_X6_at_10_0 : zCt := (104, [.inr (.inr (10, 0)), .inl (0, 4294967295)], [], [], [.inl (some (.inl (0, 4294967295)), [])], 1)
theorem hct_X6_at_10_0 : z_ctH zTb ct_X6_at_10_0 := sorry
def ct_X6_put_10_0 : zCt := (106, [.inr (.inr (10, 0)), .inl (0, 4294967295), .inl (0, 4294967295)], [], [(10, 0, 7)], [.inl (none, [])], 1)
theorem hct_X6_put_10_0 : z_ctH zTb ct_X6_put_10_0 := sorry
def ct_X6_add_10_0 : zCt := (107, [.inr (.inr (10, 0)), .inl (0, 4294967295), .inl (0, 4294967295)], [], [(10, 0, 7)], [.inl (none, [])], 1)
theorem hct_X6_add_10_0 : z_ctH zTb ct_X6_add_10_0 := sorry
def ct_X6_fill_10_0 : zCt := (110, [.inr (.inr (10, 0)), .inl (0, 4294967295)], [], [(10, 0, 7)], [.inl (none, [])], 1)
theorem hct_X6_fill_10_0 : z_ctH zTb ct_X6_fill_10_0 := sorry
def ct_X6_at_10_1 : zCt := (104, [.inr (.inr (10, 1)), .inl (0, 4294967295)], [], [], [.inl (some (.inl (0, 4294967295)), [])], 1)
theorem hct_X6_at_10_1 : z_ctH zTb ct_X6_at_10_1 := sorry
def ct_X6_put_10_1 : zCt := (106, [.inr (.inr (10, 1)), .inl (0, 4294967295), .inl (0, 4294967295)], [], [(10, 0, 7)], [.inl (none, [])], 1)
theorem hct_X6_put_10_1 : z_ctH zTb ct_X6_put_10_1 := sorry
def ct_X6_add_10_1 : zCt := (107, [.inr (.inr (10, 1)), .inl (0, 4294967295), .inl (0, 4294967295)], [], [(10, 0, 7)], [.inl (none, [])], 1)
theorem hct_X6_add_10_1 : z_ctH zTb ct_X6_add_10_1 := sorry
def ct_X6_fill_10_1 : zCt := (110, [.inr (.inr (10, 1)), .inl (0, 4294967295)], [], [(10, 0, 7)], [.inl (none, [])], 1)
theorem hct_X6_fill_10_1 : z_ctH zTb ct_X6_fill_10_1 := sorry
def ct_X6_at_10_2 : zCt := (104, [.inr (.inr (10, 2)), .inl (0, 4294967295)], [], [], [.inl (some (.inl (0, 4294967295)), [])], 1)
theorem hct_X6_at_10_2 : z_ctH zTb ct_X6_at_10_2 := sorry
def ct_X6_put_10_2 : zCt := (106, [.inr (.inr (10, 2)), .inl (0, 4294967295), .inl (0, 4294967295)], [], [(10, 0, 7)], [.inl (none, [])], 1)
theorem hct_X6_put_10_2 : z_ctH zTb ct_X6_put_10_2 := sorry
def ct_X6_add_10_2 : zCt := (107, [.inr (.inr (10, 2)), .inl (0, 4294967295), .inl (0, 4294967295)], [], [(10, 0, 7)], [.inl (none, [])], 1)
theorem hct_X6_add_10_2 : z_ctH zTb ct_X6_add_10_2 := sorry
def ct_X6_fill_10_2 : zCt := (110, [.inr (.inr (10, 2)), .inl (0, 4294967295)], [], [(10, 0, 7)], [.inl (none, [])], 1)
theorem hct_X6_fill_10_2 : z_ctH zTb ct_X6_fill_10_2 := sorry
def ct_X6_at_11_0 : zCt := (104, [.inr (.inr (11, 0)), .inl (0, 4294967295)], [], [], [.inl (some (.inl (0, 4294967295)), [])], 1)
theorem hct_X6_at_11_0 : z_ctH zTb ct_X6_at_11_0 := sorry
def ct_X6_put_11_0 : zCt := (106, [.inr (.inr (11, 0)), .inl (0, 4294967295), .inl (0, 4294967295)], [], [(11, 0, 7)], [.inl (none, [])], 1)
theorem hct_X6_put_11_0 : z_ctH zTb ct_X6_put_11_0 := sorry
def ct_X6_add_11_0 : zCt := (107, [.inr (.inr (11, 0)), .inl (0, 4294967295), .inl (0, 4294967295)], [], [(11, 0, 7)], [.inl (none, [])], 1)
theorem hct_X6_add_11_0 : z_ctH zTb ct_X6_add_11_0 := sorry
def ct_X6_fill_11_0 : zCt := (110, [.inr (.inr (11, 0)), .inl (0, 4294967295)], [], [(11, 0, 7)], [.inl (none, [])], 1)
theorem hct_X6_fill_11_0 : z_ctH zTb ct_X6_fill_11_0 := sorry
def ct_X6_at_11_1 : zCt := (104, [.inr (.inr (11, 1)), .inl (0, 4294967295)], [], [], [.inl (some (.inl (0, 4294967295)), [])], 1)
theorem hct_X6_at_11_1 : z_ctH zTb ct_X6_at_11_1 := sorry
def ct_X6_put_11_1 : zCt := (106, [.inr (.inr (11, 1)), .inl (0, 4294967295), .inl (0, 4294967295)], [], [(11, 0, 7)], [.inl (none, [])], 1)
theorem hct_X6_put_11_1 : z_ctH zTb ct_X6_put_11_1 := sorry
def ct_X6_add_11_1 : zCt := (107, [.inr (.inr (11, 1)), .inl (0, 4294967295), .inl (0, 4294967295)], [], [(11, 0, 7)], [.inl (none, [])], 1)
theorem hct_X6_add_11_1 : z_ctH zTb ct_X6_add_11_1 := sorry
def ct_X6_fill_11_1 : zCt := (110, [.inr (.inr (11, 1)), .inl (0, 4294967295)], [], [(11, 0, 7)], [.inl (none, [])], 1)
theorem hct_X6_fill_11_1 : z_ctH zTb ct_X6_fill_11_1 := sorry
def ct_X6_at_11_2 : zCt := (104, [.inr (.inr (11, 2)), .inl (0, 4294967295)], [], [], [.inl (some (.inl (0, 4294967295)), [])], 1)
theorem hct_X6_at_11_2 : z_ctH zTb ct_X6_at_11_2 := sorry
def ct_X6_put_11_2 : zCt := (106, [.inr (.inr (11, 2)), .inl (0, 4294967295), .inl (0, 4294967295)], [], [(11, 0, 7)], [.inl (none, [])], 1)
theorem hct_X6_put_11_2 : z_ctH zTb ct_X6_put_11_2 := sorry
def ct_X6_add_11_2 : zCt := (107, [.inr (.inr (11, 2)), .inl (0, 4294967295), .inl (0, 4294967295)], [], [(11, 0, 7)], [.inl (none, [])], 1)
theorem hct_X6_add_11_2 : z_ctH zTb ct_X6_add_11_2 := sorry
def ct_X6_fill_11_2 : zCt := (110, [.inr (.inr (11, 2)), .inl (0, 4294967295)], [], [(11, 0, 7)], [.inl (none, [])], 1)
theorem hct_X6_fill_11_2 : z_ctH zTb ct_X6_fill_11_2 := sorry
def ct_X6_at_12_0 : zCt := (104, [.inr (.inr (12, 0)), .inl (0, 4294967295)], [], [], [.inl (some (.inl (0, 4294967295)), [])], 1)
theorem hct_X6_at_12_0 : z_ctH zTb ct_X6_at_12_0 := sorry
def ct_X6_put_12_0 : zCt := (106, [.inr (.inr (12, 0)), .inl (0, 4294967295), .inl (0, 4294967295)], [], [(12, 0, 31)], [.inl (none, [])], 1)
theorem hct_X6_put_12_0 : z_ctH zTb ct_X6_put_12_0 := sorry
def ct_X6_add_12_0 : zCt := (107, [.inr (.inr (12, 0)), .inl (0, 4294967295), .inl (0, 4294967295)], [], [(12, 0, 31)], [.inl (none, [])], 1)
theorem hct_X6_add_12_0 : z_ctH zTb ct_X6_add_12_0 := sorry
def ct_X6_fill_12_0 : zCt := (110, [.inr (.inr (12, 0)), .inl (0, 4294967295)], [], [(12, 0, 31)], [.inl (none, [])], 1)
theorem hct_X6_fill_12_0 : z_ctH zTb ct_X6_fill_12_0 := sorry
def ct_X6_at_12_1 : zCt := (104, [.inr (.inr (12, 1)), .inl (0, 4294967295)], [], [], [.inl (some (.inl (0, 4294967295)), [])], 1)
theorem hct_X6_at_12_1 : z_ctH zTb ct_X6_at_12_1 := sorry
def ct_X6_put_12_1 : zCt := (106, [.inr (.inr (12, 1)), .inl (0, 4294967295), .inl (0, 4294967295)], [], [(12, 0, 31)], [.inl (none, [])], 1)
theorem hct_X6_put_12_1 : z_ctH zTb ct_X6_put_12_1 := sorry
def ct_X6_add_12_1 : zCt := (107, [.inr (.inr (12, 1)), .inl (0, 4294967295), .inl (0, 4294967295)], [], [(12, 0, 31)], [.inl (none, [])], 1)
theorem hct_X6_add_12_1 : z_ctH zTb ct_X6_add_12_1 := sorry
def ct_X6_fill_12_1 : zCt := (110, [.inr (.inr (12, 1)), .inl (0, 4294967295)], [], [(12, 0, 31)], [.inl (none, [])], 1)
theorem hct_X6_fill_12_1 : z_ctH zTb ct_X6_fill_12_1 := sorry
def ct_X6_at_12_2 : zCt := (104, [.inr (.inr (12, 2)), .inl (0, 4294967295)], [], [], [.inl (some (.inl (0, 4294967295)), [])], 1)
theorem hct_X6_at_12_2 : z_ctH zTb ct_X6_at_12_2 := sorry
def ct_X6_put_12_2 : zCt := (106, [.inr (.inr (12, 2)), .inl (0, 4294967295), .inl (0, 4294967295)], [], [(12, 0, 31)], [.inl (none, [])], 1)
theorem hct_X6_put_12_2 : z_ctH zTb ct_X6_put_12_2 := sorry
def ct_X6_add_12_2 : zCt := (107, [.inr (.inr (12, 2)), .inl (0, 4294967295), .inl (0, 4294967295)], [], [(12, 0, 31)], [.inl (none, [])], 1)
theorem hct_X6_add_12_2 : z_ctH zTb ct_X6_add_12_2 := sorry
def ct_X6_fill_12_2 : zCt := (110, [.inr (.inr (12, 2)), .inl (0, 4294967295)], [], [(12, 0, 31)], [.inl (none, [])], 1)
theorem hct_X6_fill_12_2 : z_ctH zTb ct_X6_fill_12_2 := sorry
def ct_X6_at_13_0 : zCt := (104, [.inr (.inr (13, 0)), .inl (0, 4294967295)], [], [], [.inl (some (.inl (0, 4294967295)), [])], 1)
theorem hct_X6_at_13_0 : z_ctH zTb ct_X6_at_13_0 := sorry
def ct_X6_put_13_0 : zCt := (106, [.inr (.inr (13, 0)), .inl (0, 4294967295), .inl (0, 4294967295)], [], [(13, 0, 7)], [.inl (none, [])], 1)
theorem hct_X6_put_13_0 : z_ctH zTb ct_X6_put_13_0 := sorry
def ct_X6_add_13_0 : zCt := (107, [.inr (.inr (13, 0)), .inl (0, 4294967295), .inl (0, 4294967295)], [], [(13, 0, 7)], [.inl (none, [])], 1)
theorem hct_X6_add_13_0 : z_ctH zTb ct_X6_add_13_0 := sorry
def ct_X6_fill_13_0 : zCt := (110, [.inr (.inr (13, 0)), .inl (0, 4294967295)], [], [(13, 0, 7)], [.inl (none, [])], 1)
theorem hct_X6_fill_13_0 : z_ctH zTb ct_X6_fill_13_0 := sorry
def ct_X6_at_13_1 : zCt := (104, [.inr (.inr (13, 1)), .inl (0, 4294967295)], [], [], [.inl (some (.inl (0, 4294967295)), [])], 1)
theorem hct_X6_at_13_1 : z_ctH zTb ct_X6_at_13_1 := sorry
def ct_X6_put_13_1 : zCt := (106, [.inr (.inr (13, 1)), .inl (0, 4294967295), .inl (0, 4294967295)], [], [(13, 0, 7)], [.inl (none, [])], 1)
theorem hct_X6_put_13_1 : z_ctH zTb ct_X6_put_13_1 := sorry
def ct_X6_add_13_1 : zCt := (107, [.inr (.inr (13, 1)), .inl (0, 4294967295), .inl (0, 4294967295)], [], [(13, 0, 7)], [.inl (none, [])], 1)
theorem hct_X6_add_13_1 : z_ctH zTb ct_X6_add_13_1 := sorry
def ct_X6_fill_13_1 : zCt := (110, [.inr (.inr (13, 1)), .inl (0, 4294967295)], [], [(13, 0, 7)], [.inl (none, [])], 1)
theorem hct_X6_fill_13_1 : z_ctH zTb ct_X6_fill_13_1 := sorry
def ct_X6_at_13_2 : zCt := (104, [.inr (.inr (13, 2)), .inl (0, 4294967295)], [], [], [.inl (some (.inl (0, 4294967295)), [])], 1)
theorem hct_X6_at_13_2 : z_ctH zTb ct_X6_at_13_2 := sorry
def ct_X6_put_13_2 : zCt := (106, [.inr (.inr (13, 2)), .inl (0, 4294967295), .inl (0, 4294967295)], [], [(13, 0, 7)], [.inl (none, [])], 1)
theorem hct_X6_put_13_2 : z_ctH zTb ct_X6_put_13_2 := sorry
def ct_X6_add_13_2 : zCt := (107, [.inr (.inr (13, 2)), .inl (0, 4294967295), .inl (0, 4294967295)], [], [(13, 0, 7)], [.inl (none, [])], 1)
theorem hct_X6_add_13_2 : z_ctH zTb ct_X6_add_13_2 := sorry
def ct_X6_fill_13_2 : zCt := (110, [.inr (.inr (13, 2)), .inl (0, 4294967295)], [], [(13, 0, 7)], [.inl (none, [])], 1)
theorem hct_X6_fill_13_2 : z_ctH zTb ct_X6_fill_13_2 := sorry
def ct_X6_at_14_0 : zCt := (104, [.inr (.inr (14, 0)), .inl (0, 4294967295)], [], [], [.inl (some (.inl (2147483648, 2147483649)), [])], 1)
theorem hct_X6_at_14_0 : z_ctH zTb ct_X6_at_14_0 := sorry
def ct_X6_put_14_0 : zCt := (106, [.inr (.inr (14, 0)), .inl (0, 4294967295), .inl (2147483648, 2147483649)], [], [(14, 0, 15)], [.inl (none, [])], 1)
theorem hct_X6_put_14_0 : z_ctH zTb ct_X6_put_14_0 := sorry
def ct_X6_fill_14_0 : zCt := (110, [.inr (.inr (14, 0)), .inl (2147483648, 2147483649)], [], [(14, 0, 15)], [.inl (none, [])], 1)
theorem hct_X6_fill_14_0 : z_ctH zTb ct_X6_fill_14_0 := sorry
def ct_X6_at_14_1 : zCt := (104, [.inr (.inr (14, 1)), .inl (0, 4294967295)], [], [], [.inl (some (.inl (2147483648, 2147483649)), [])], 1)
theorem hct_X6_at_14_1 : z_ctH zTb ct_X6_at_14_1 := sorry
def ct_X6_put_14_1 : zCt := (106, [.inr (.inr (14, 1)), .inl (0, 4294967295), .inl (2147483648, 2147483649)], [], [(14, 0, 15)], [.inl (none, [])], 1)
theorem hct_X6_put_14_1 : z_ctH zTb ct_X6_put_14_1 := sorry
def ct_X6_fill_14_1 : zCt := (110, [.inr (.inr (14, 1)), .inl (2147483648, 2147483649)], [], [(14, 0, 15)], [.inl (none, [])], 1)
theorem hct_X6_fill_14_1 : z_ctH zTb ct_X6_fill_14_1 := sorry
def ct_X6_at_14_2 : zCt := (104, [.inr (.inr (14, 2)), .inl (0, 4294967295)], [], [], [.inl (some (.inl (2147483648, 2147483649)), [])], 1)
theorem hct_X6_at_14_2 : z_ctH zTb ct_X6_at_14_2 := sorry
def ct_X6_put_14_2 : zCt := (106, [.inr (.inr (14, 2)), .inl (0, 4294967295), .inl (2147483648, 2147483649)], [], [(14, 0, 15)], [.inl (none, [])], 1)
theorem hct_X6_put_14_2 : z_ctH zTb ct_X6_put_14_2 := sorry
def ct_X6_fill_14_2 : zCt := (110, [.inr (.inr (14, 2)), .inl (2147483648, 2147483649)], [], [(14, 0, 15)], [.inl (none, [])], 1)
theorem hct_X6_fill_14_2 : z_ctH zTb ct_X6_fill_14_2 := sorry
def ct_X6_at_15_0 : zCt := (104, [.inr (.inr (15, 0)), .inl (0, 4294967295)], [], [], [.inl (some (.inl (0, 4294967295)), [])], 1)
theorem hct_X6_at_15_0 : z_ctH zTb ct_X6_at_15_0 := sorry
def ct_X6_put_15_0 : zCt := (106, [.inr (.inr (15, 0)), .inl (0, 4294967295), .inl (0, 4294967295)], [], [(15, 0, 15)], [.inl (none, [])], 1)
theorem hct_X6_put_15_0 : z_ctH zTb ct_X6_put_15_0 := sorry
def ct_X6_add_15_0 : zCt := (107, [.inr (.inr (15, 0)), .inl (0, 4294967295), .inl (0, 4294967295)], [], [(15, 0, 15)], [.inl (none, [])], 1)
theorem hct_X6_add_15_0 : z_ctH zTb ct_X6_add_15_0 := sorry
def ct_X6_fill_15_0 : zCt := (110, [.inr (.inr (15, 0)), .inl (0, 4294967295)], [], [(15, 0, 15)], [.inl (none, [])], 1)
theorem hct_X6_fill_15_0 : z_ctH zTb ct_X6_fill_15_0 := sorry
def ct_X6_at_15_1 : zCt := (104, [.inr (.inr (15, 1)), .inl (0, 4294967295)], [], [], [.inl (some (.inl (0, 4294967295)), [])], 1)
theorem hct_X6_at_15_1 : z_ctH zTb ct_X6_at_15_1 := sorry
def ct_X6_put_15_1 : zCt := (106, [.inr (.inr (15, 1)), .inl (0, 4294967295), .inl (0, 4294967295)], [], [(15, 0, 15)], [.inl (none, [])], 1)
theorem hct_X6_put_15_1 : z_ctH zTb ct_X6_put_15_1 := sorry
def ct_X6_add_15_1 : zCt := (107, [.inr (.inr (15, 1)), .inl (0, 4294967295), .inl (0, 4294967295)], [], [(15, 0, 15)], [.inl (none, [])], 1)
theorem hct_X6_add_15_1 : z_ctH zTb ct_X6_add_15_1 := sorry
def ct_X6_fill_15_1 : zCt := (110, [.inr (.inr (15, 1)), .inl (0, 4294967295)], [], [(15, 0, 15)], [.inl (none, [])], 1)
theorem hct_X6_fill_15_1 : z_ctH zTb ct_X6_fill_15_1 := sorry
def ct_X6_at_15_2 : zCt := (104, [.inr (.inr (15, 2)), .inl (0, 4294967295)], [], [], [.inl (some (.inl (0, 4294967295)), [])], 1)
theorem hct_X6_at_15_2 : z_ctH zTb ct_X6_at_15_2 := sorry
def ct_X6_put_15_2 : zCt := (106, [.inr (.inr (15, 2)), .inl (0, 4294967295), .inl (0, 4294967295)], [], [(15, 0, 15)], [.inl (none, [])], 1)
theorem hct_X6_put_15_2 : z_ctH zTb ct_X6_put_15_2 := sorry
def ct_X6_add_15_2 : zCt := (107, [.inr (.inr (15, 2)), .inl (0, 4294967295), .inl (0, 4294967295)], [], [(15, 0, 15)], [.inl (none, [])], 1)
theorem hct_X6_add_15_2 : z_ctH zTb ct_X6_add_15_2 := sorry
def ct_X6_fill_15_2 : zCt := (110, [.inr (.inr (15, 2)), .inl (0, 4294967295)], [], [(15, 0, 15)], [.inl (none, [])], 1)
theorem hct_X6_fill_15_2 : z_ctH zTb ct_X6_fill_15_2 := sorry
def ct_X6_at_18_0 : zCt := (104, [.inr (.inr (18, 0)), .inl (0, 4294967295)], [], [], [.inl (some (.inl (0, 4294967295)), [])], 1)
theorem hct_X6_at_18_0 : z_ctH zTb ct_X6_at_18_0 := sorry
def ct_X6_put_18_0 : zCt := (106, [.inr (.inr (18, 0)), .inl (0, 4294967295), .inl (0, 4294967295)], [], [(18, 0, 15)], [.inl (none, [])], 1)
theorem hct_X6_put_18_0 : z_ctH zTb ct_X6_put_18_0 := sorry
def ct_X6_add_18_0 : zCt := (107, [.inr (.inr (18, 0)), .inl (0, 4294967295), .inl (0, 4294967295)], [], [(18, 0, 15)], [.inl (none, [])], 1)
theorem hct_X6_add_18_0 : z_ctH zTb ct_X6_add_18_0 := sorry
def ct_X6_fill_18_0 : zCt := (110, [.inr (.inr (18, 0)), .inl (0, 4294967295)], [], [(18, 0, 15)], [.inl (none, [])], 1)
theorem hct_X6_fill_18_0 : z_ctH zTb ct_X6_fill_18_0 := sorry
def ct_X6_at_19_0 : zCt := (104, [.inr (.inr (19, 0)), .inl (0, 4294967295)], [], [], [.inl (some (.inl (0, 4294967295)), [])], 1)
theorem hct_X6_at_19_0 : z_ctH zTb ct_X6_at_19_0 := sorry
def ct_X6_put_19_0 : zCt := (106, [.inr (.inr (19, 0)), .inl (0, 4294967295), .inl (0, 4294967295)], [], [(19, 0, 15)], [.inl (none, [])], 1)
theorem hct_X6_put_19_0 : z_ctH zTb ct_X6_put_19_0 := sorry
def ct_X6_add_19_0 : zCt := (107, [.inr (.inr (19, 0)), .inl (0, 4294967295), .inl (0, 4294967295)], [], [(19, 0, 15)], [.inl (none, [])], 1)
theorem hct_X6_add_19_0 : z_ctH zTb ct_X6_add_19_0 := sorry
def ct_X6_fill_19_0 : zCt := (110, [.inr (.inr (19, 0)), .inl (0, 4294967295)], [], [(19, 0, 15)], [.inl (none, [])], 1)
theorem hct_X6_fill_19_0 : z_ctH zTb ct_X6_fill_19_0 := sorry
def ct_X6_at_21_0 : zCt := (104, [.inr (.inr (21, 0)), .inl (0, 4294967295)], [], [], [.inl (some (.inl (0, 4294967295)), [])], 1)
theorem hct_X6_at_21_0 : z_ctH zTb ct_X6_at_21_0 := sorry
def ct_X6_put_21_0 : zCt := (106, [.inr (.inr (21, 0)), .inl (0, 4294967295), .inl (0, 4294967295)], [], [(21, 0, 19)], [.inl (none, [])], 1)
theorem hct_X6_put_21_0 : z_ctH zTb ct_X6_put_21_0 := sorry
def ct_X6_add_21_0 : zCt := (107, [.inr (.inr (21, 0)), .inl (0, 4294967295), .inl (0, 4294967295)], [], [(21, 0, 19)], [.inl (none, [])], 1)
theorem hct_X6_add_21_0 : z_ctH zTb ct_X6_add_21_0 := sorry
def ct_X6_fill_21_0 : zCt := (110, [.inr (.inr (21, 0)), .inl (0, 4294967295)], [], [(21, 0, 19)], [.inl (none, [])], 1)
theorem hct_X6_fill_21_0 : z_ctH zTb ct_X6_fill_21_0 := sorry
def ct_X6_at_22_0 : zCt := (104, [.inr (.inr (22, 0)), .inl (0, 4294967295)], [], [], [.inl (some (.inl (0, 4294967295)), [])], 1)
theorem hct_X6_at_22_0 : z_ctH zTb ct_X6_at_22_0 := sorry
def ct_X6_put_22_0 : zCt := (106, [.inr (.inr (22, 0)), .inl (0, 4294967295), .inl (0, 4294967295)], [], [(22, 0, 19)], [.inl (none, [])], 1)
theorem hct_X6_put_22_0 : z_ctH zTb ct_X6_put_22_0 := sorry
def ct_X6_add_22_0 : zCt := (107, [.inr (.inr (22, 0)), .inl (0, 4294967295), .inl (0, 4294967295)], [], [(22, 0, 19)], [.inl (none, [])], 1)
theorem hct_X6_add_22_0 : z_ctH zTb ct_X6_add_22_0 := sorry
def ct_X6_fill_22_0 : zCt := (110, [.inr (.inr (22, 0)), .inl (0, 4294967295)], [], [(22, 0, 19)], [.inl (none, [])], 1)
theorem hct_X6_fill_22_0 : z_ctH zTb ct_X6_fill_22_0 := sorry
def ct_X6_at_23_0 : zCt := (104, [.inr (.inr (23, 0)), .inl (0, 4294967295)], [], [], [.inl (some (.inl (0, 4294967295)), [])], 1)
theorem hct_X6_at_23_0 : z_ctH zTb ct_X6_at_23_0 := sorry
def ct_X6_put_23_0 : zCt := (106, [.inr (.inr (23, 0)), .inl (0, 4294967295), .inl (0, 4294967295)], [], [(23, 0, 19)], [.inl (none, [])], 1)
theorem hct_X6_put_23_0 : z_ctH zTb ct_X6_put_23_0 := sorry
def ct_X6_add_23_0 : zCt := (107, [.inr (.inr (23, 0)), .inl (0, 4294967295), .inl (0, 4294967295)], [], [(23, 0, 19)], [.inl (none, [])], 1)
theorem hct_X6_add_23_0 : z_ctH zTb ct_X6_add_23_0 := sorry
def ct_X6_fill_23_0 : zCt := (110, [.inr (.inr (23, 0)), .inl (0, 4294967295)], [], [(23, 0, 19)], [.inl (none, [])], 1)
theorem hct_X6_fill_23_0 : z_ctH zTb ct_X6_fill_23_0 := sorry
def ct_X6_at_29_0 : zCt := (104, [.inr (.inr (29, 0)), .inl (0, 4294967295)], [], [], [.inl (some (.inl (0, 4294967295)), [])], 1)
theorem hct_X6_at_29_0 : z_ctH zTb ct_X6_at_29_0 := sorry
def ct_X6_put_29_0 : zCt := (106, [.inr (.inr (29, 0)), .inl (0, 4294967295), .inl (0, 4294967295)], [], [(29, 0, 31)], [.inl (none, [])], 1)
theorem hct_X6_put_29_0 : z_ctH zTb ct_X6_put_29_0 := sorry
def ct_X6_add_29_0 : zCt := (107, [.inr (.inr (29, 0)), .inl (0, 4294967295), .inl (0, 4294967295)], [], [(29, 0, 31)], [.inl (none, [])], 1)
theorem hct_X6_add_29_0 : z_ctH zTb ct_X6_add_29_0 := sorry
def ct_X6_fill_29_0 : zCt := (110, [.inr (.inr (29, 0)), .inl (0, 4294967295)], [], [(29, 0, 31)], [.inl (none, [])], 1)
theorem hct_X6_fill_29_0 : z_ctH zTb ct_X6_fill_29_0 := sorry
def ct_X6_at_30_0 : zCt := (104, [.inr (.inr (30, 0)), .inl (0, 4294967295)], [], [], [.inl (some (.inl (0, 4294967295)), [])], 1)
theorem hct_X6_at_30_0 : z_ctH zTb ct_X6_at_30_0 := sorry
def ct_X6_put_30_0 : zCt := (106, [.inr (.inr (30, 0)), .inl (0, 4294967295), .inl (0, 4294967295)], [], [(30, 0, 31)], [.inl (none, [])], 1)
theorem hct_X6_put_30_0 : z_ctH zTb ct_X6_put_30_0 := sorry
def ct_X6_add_30_0 : zCt := (107, [.inr (.inr (30, 0)), .inl (0, 4294967295), .inl (0, 4294967295)], [], [(30, 0, 31)], [.inl (none, [])], 1)
theorem hct_X6_add_30_0 : z_ctH zTb ct_X6_add_30_0 := sorry
def ct_X6_fill_30_0 : zCt := (110, [.inr (.inr (30, 0)), .inl (0, 4294967295)], [], [(30, 0, 31)], [.inl (none, [])], 1)
theorem hct_X6_fill_30_0 : z_ctH zTb ct_X6_fill_30_0 := sorry
def ct_X6_at_31_0 : zCt := (104, [.inr (.inr (31, 0)), .inl (0, 4294967295)], [], [], [.inl (some (.inl (0, 4294967295)), [])], 1)
theorem hct_X6_at_31_0 : z_ctH zTb ct_X6_at_31_0 := sorry
def ct_X6_put_31_0 : zCt := (106, [.inr (.inr (31, 0)), .inl (0, 4294967295), .inl (0, 4294967295)], [], [(31, 0, 31)], [.inl (none, [])], 1)
theorem hct_X6_put_31_0 : z_ctH zTb ct_X6_put_31_0 := sorry
def ct_X6_add_31_0 : zCt := (107, [.inr (.inr (31, 0)), .inl (0, 4294967295), .inl (0, 4294967295)], [], [(31, 0, 31)], [.inl (none, [])], 1)
theorem hct_X6_add_31_0 : z_ctH zTb ct_X6_add_31_0 := sorry
def ct_X6_fill_31_0 : zCt := (110, [.inr (.inr (31, 0)), .inl (0, 4294967295)], [], [(31, 0, 31)], [.inl (none, [])], 1)
theorem hct_X6_fill_31_0 : z_ctH zTb ct_X6_fill_31_0 := sorry
def ct_X6_at_32_0 : zCt := (104, [.inr (.inr (32, 0)), .inl (0, 4294967295)], [], [], [.inl (some (.inl (0, 4294967295)), [])], 1)
theorem hct_X6_at_32_0 : z_ctH zTb ct_X6_at_32_0 := sorry
def ct_X6_put_32_0 : zCt := (106, [.inr (.inr (32, 0)), .inl (0, 4294967295), .inl (0, 4294967295)], [], [(32, 0, 15)], [.inl (none, [])], 1)
theorem hct_X6_put_32_0 : z_ctH zTb ct_X6_put_32_0 := sorry
def ct_X6_add_32_0 : zCt := (107, [.inr (.inr (32, 0)), .inl (0, 4294967295), .inl (0, 4294967295)], [], [(32, 0, 15)], [.inl (none, [])], 1)
theorem hct_X6_add_32_0 : z_ctH zTb ct_X6_add_32_0 := sorry
def ct_X6_fill_32_0 : zCt := (110, [.inr (.inr (32, 0)), .inl (0, 4294967295)], [], [(32, 0, 15)], [.inl (none, [])], 1)
theorem hct_X6_fill_32_0 : z_ctH zTb ct_X6_fill_32_0 := sorry
def ct_X6_at_33_0 : zCt := (104, [.inr (.inr (33, 0)), .inl (0, 4294967295)], [], [], [.inl (some (.inl (0, 4294967295)), [])], 1)
theorem hct_X6_at_33_0 : z_ctH zTb ct_X6_at_33_0 := sorry
def ct_X6_put_33_0 : zCt := (106, [.inr (.inr (33, 0)), .inl (0, 4294967295), .inl (0, 4294967295)], [], [(33, 0, 3)], [.inl (none, [])], 1)
theorem hct_X6_put_33_0 : z_ctH zTb ct_X6_put_33_0 := sorry
def ct_X6_add_33_0 : zCt := (107, [.inr (.inr (33, 0)), .inl (0, 4294967295), .inl (0, 4294967295)], [], [(33, 0, 3)], [.inl (none, [])], 1)
theorem hct_X6_add_33_0 : z_ctH zTb ct_X6_add_33_0 := sorry
def ct_X6_fill_33_0 : zCt := (110, [.inr (.inr (33, 0)), .inl (0, 4294967295)], [], [(33, 0, 3)], [.inl (none, [])], 1)
theorem hct_X6_fill_33_0 : z_ctH zTb ct_X6_fill_33_0 := sorry
def ct_X6_at_34_0 : zCt := (104, [.inr (.inr (34, 0)), .inl (0, 4294967295)], [], [], [.inl (some (.inl (0, 4294967295)), [])], 1)
theorem hct_X6_at_34_0 : z_ctH zTb ct_X6_at_34_0 := sorry
def ct_X6_put_34_0 : zCt := (106, [.inr (.inr (34, 0)), .inl (0, 4294967295), .inl (0, 4294967295)], [], [(34, 0, 31)], [.inl (none, [])], 1)
theorem hct_X6_put_34_0 : z_ctH zTb ct_X6_put_34_0 := sorry
def ct_X6_add_34_0 : zCt := (107, [.inr (.inr (34, 0)), .inl (0, 4294967295), .inl (0, 4294967295)], [], [(34, 0, 31)], [.inl (none, [])], 1)
theorem hct_X6_add_34_0 : z_ctH zTb ct_X6_add_34_0 := sorry
def ct_X6_fill_34_0 : zCt := (110, [.inr (.inr (34, 0)), .inl (0, 4294967295)], [], [(34, 0, 31)], [.inl (none, [])], 1)
theorem hct_X6_fill_34_0 : z_ctH zTb ct_X6_fill_34_0 := sorry
def ct_X6_at__25_0 : zCt := (105, [.inr (.inr (25, 0)), .inl (0, 4294967295)], [], [], [.inl (some (.inr (.inl none)), [])], 1)
theorem hct_X6_at__25_0 : z_ctH zTb ct_X6_at__25_0 := sorry
def ct_X6_put__25_0 : zCt := (108, [.inr (.inr (25, 0)), .inl (0, 4294967295), .inr (.inl none)], [], [(25, 0, 7)], [.inl (none, [])], 1)
theorem hct_X6_put__25_0 : z_ctH zTb ct_X6_put__25_0 := sorry
def ct_X6_add__25_0 : zCt := (109, [.inr (.inr (25, 0)), .inl (0, 4294967295), .inr (.inl none)], [], [(25, 0, 7)], [.inl (none, [])], 1)
theorem hct_X6_add__25_0 : z_ctH zTb ct_X6_add__25_0 := sorry
def ct_X6_fill__25_0 : zCt := (111, [.inr (.inr (25, 0)), .inr (.inl none)], [], [(25, 0, 7)], [.inl (none, [])], 1)
theorem hct_X6_fill__25_0 : z_ctH zTb ct_X6_fill__25_0 := sorry
def ct_X6_at__26_0 : zCt := (105, [.inr (.inr (26, 0)), .inl (0, 4294967295)], [], [], [.inl (some (.inr (.inl none)), [])], 1)
theorem hct_X6_at__26_0 : z_ctH zTb ct_X6_at__26_0 := sorry
def ct_X6_put__26_0 : zCt := (108, [.inr (.inr (26, 0)), .inl (0, 4294967295), .inr (.inl none)], [], [(26, 0, 7)], [.inl (none, [])], 1)
theorem hct_X6_put__26_0 : z_ctH zTb ct_X6_put__26_0 := sorry
def ct_X6_add__26_0 : zCt := (109, [.inr (.inr (26, 0)), .inl (0, 4294967295), .inr (.inl none)], [], [(26, 0, 7)], [.inl (none, [])], 1)
theorem hct_X6_add__26_0 : z_ctH zTb ct_X6_add__26_0 := sorry
def ct_X6_fill__26_0 : zCt := (111, [.inr (.inr (26, 0)), .inr (.inl none)], [], [(26, 0, 7)], [.inl (none, [])], 1)
theorem hct_X6_fill__26_0 : z_ctH zTb ct_X6_fill__26_0 := sorry
def ct_X6_at__27_0 : zCt := (105, [.inr (.inr (27, 0)), .inl (0, 4294967295)], [], [], [.inl (some (.inr (.inl none)), [])], 1)
theorem hct_X6_at__27_0 : z_ctH zTb ct_X6_at__27_0 := sorry
def ct_X6_put__27_0 : zCt := (108, [.inr (.inr (27, 0)), .inl (0, 4294967295), .inr (.inl none)], [], [(27, 0, 7)], [.inl (none, [])], 1)
theorem hct_X6_put__27_0 : z_ctH zTb ct_X6_put__27_0 := sorry
def ct_X6_add__27_0 : zCt := (109, [.inr (.inr (27, 0)), .inl (0, 4294967295), .inr (.inl none)], [], [(27, 0, 7)], [.inl (none, [])], 1)
theorem hct_X6_add__27_0 : z_ctH zTb ct_X6_add__27_0 := sorry
def ct_X6_fill__27_0 : zCt := (111, [.inr (.inr (27, 0)), .inr (.inl none)], [], [(27, 0, 7)], [.inl (none, [])], 1)
theorem hct_X6_fill__27_0 : z_ctH zTb ct_X6_fill__27_0 := sorry
def ct_X6_at__35_0 : zCt := (105, [.inr (.inr (35, 0)), .inl (0, 4294967295)], [], [], [.inl (some (.inr (.inl none)), [])], 1)
theorem hct_X6_at__35_0 : z_ctH zTb ct_X6_at__35_0 := sorry
def ct_X6_put__35_0 : zCt := (108, [.inr (.inr (35, 0)), .inl (0, 4294967295), .inr (.inl none)], [], [(35, 0, 32)], [.inl (none, [])], 1)
theorem hct_X6_put__35_0 : z_ctH zTb ct_X6_put__35_0 := sorry
def ct_X6_add__35_0 : zCt := (109, [.inr (.inr (35, 0)), .inl (0, 4294967295), .inr (.inl none)], [], [(35, 0, 32)], [.inl (none, [])], 1)
theorem hct_X6_add__35_0 : z_ctH zTb ct_X6_add__35_0 := sorry
def ct_X6_fill__35_0 : zCt := (111, [.inr (.inr (35, 0)), .inr (.inl none)], [], [(35, 0, 32)], [.inl (none, [])], 1)
theorem hct_X6_fill__35_0 : z_ctH zTb ct_X6_fill__35_0 := sorry
def ct_X6_copy_12_0_1 : zCt := (112, [.inr (.inr (12, 0)), .inr (.inr (12, 1))], [], [(12, 0, 31)], [.inl (none, [])], 1)
theorem hct_X6_copy_12_0_1 : z_ctH zTb ct_X6_copy_12_0_1 := sorry
def ct_X6_copy_12_0_2 : zCt := (112, [.inr (.inr (12, 0)), .inr (.inr (12, 2))], [], [(12, 0, 31)], [.inl (none, [])], 1)
theorem hct_X6_copy_12_0_2 : z_ctH zTb ct_X6_copy_12_0_2 := sorry
def ct_X6_copy_12_1_0 : zCt := (112, [.inr (.inr (12, 1)), .inr (.inr (12, 0))], [], [(12, 0, 31)], [.inl (none, [])], 1)
theorem hct_X6_copy_12_1_0 : z_ctH zTb ct_X6_copy_12_1_0 := sorry
def ct_X6_copy_12_1_2 : zCt := (112, [.inr (.inr (12, 1)), .inr (.inr (12, 2))], [], [(12, 0, 31)], [.inl (none, [])], 1)
theorem hct_X6_copy_12_1_2 : z_ctH zTb ct_X6_copy_12_1_2 := sorry
def ct_X6_copy_12_2_0 : zCt := (112, [.inr (.inr (12, 2)), .inr (.inr (12, 0))], [], [(12, 0, 31)], [.inl (none, [])], 1)
theorem hct_X6_copy_12_2_0 : z_ctH zTb ct_X6_copy_12_2_0 := sorry
def ct_X6_copy_12_2_1 : zCt := (112, [.inr (.inr (12, 2)), .inr (.inr (12, 1))], [], [(12, 0, 31)], [.inl (none, [])], 1)
theorem hct_X6_copy_12_2_1 : z_ctH zTb ct_X6_copy_12_2_1 := sorry
def ct_X6_copy_13_0_1 : zCt := (112, [.inr (.inr (13, 0)), .inr (.inr (13, 1))], [], [(13, 0, 7)], [.inl (none, [])], 1)
theorem hct_X6_copy_13_0_1 : z_ctH zTb ct_X6_copy_13_0_1 := sorry
def ct_X6_copy_13_0_2 : zCt := (112, [.inr (.inr (13, 0)), .inr (.inr (13, 2))], [], [(13, 0, 7)], [.inl (none, [])], 1)
theorem hct_X6_copy_13_0_2 : z_ctH zTb ct_X6_copy_13_0_2 := sorry
def ct_X6_copy_13_1_0 : zCt := (112, [.inr (.inr (13, 1)), .inr (.inr (13, 0))], [], [(13, 0, 7)], [.inl (none, [])], 1)
theorem hct_X6_copy_13_1_0 : z_ctH zTb ct_X6_copy_13_1_0 := sorry
def ct_X6_copy_13_1_2 : zCt := (112, [.inr (.inr (13, 1)), .inr (.inr (13, 2))], [], [(13, 0, 7)], [.inl (none, [])], 1)
theorem hct_X6_copy_13_1_2 : z_ctH zTb ct_X6_copy_13_1_2 := sorry
def ct_X6_copy_13_2_0 : zCt := (112, [.inr (.inr (13, 2)), .inr (.inr (13, 0))], [], [(13, 0, 7)], [.inl (none, [])], 1)
theorem hct_X6_copy_13_2_0 : z_ctH zTb ct_X6_copy_13_2_0 := sorry
def ct_X6_copy_13_2_1 : zCt := (112, [.inr (.inr (13, 2)), .inr (.inr (13, 1))], [], [(13, 0, 7)], [.inl (none, [])], 1)
theorem hct_X6_copy_13_2_1 : z_ctH zTb ct_X6_copy_13_2_1 := sorry
def ct_X6_copy_14_0_1 : zCt := (112, [.inr (.inr (14, 0)), .inr (.inr (14, 1))], [], [(14, 0, 15)], [.inl (none, [])], 1)
theorem hct_X6_copy_14_0_1 : z_ctH zTb ct_X6_copy_14_0_1 := sorry
def ct_X6_copy_14_0_2 : zCt := (112, [.inr (.inr (14, 0)), .inr (.inr (14, 2))], [], [(14, 0, 15)], [.inl (none, [])], 1)
theorem hct_X6_copy_14_0_2 : z_ctH zTb ct_X6_copy_14_0_2 := sorry
def ct_X6_copy_14_1_0 : zCt := (112, [.inr (.inr (14, 1)), .inr (.inr (14, 0))], [], [(14, 0, 15)], [.inl (none, [])], 1)
theorem hct_X6_copy_14_1_0 : z_ctH zTb ct_X6_copy_14_1_0 := sorry
def ct_X6_copy_14_1_2 : zCt := (112, [.inr (.inr (14, 1)), .inr (.inr (14, 2))], [], [(14, 0, 15)], [.inl (none, [])], 1)
theorem hct_X6_copy_14_1_2 : z_ctH zTb ct_X6_copy_14_1_2 := sorry
def ct_X6_copy_14_2_0 : zCt := (112, [.inr (.inr (14, 2)), .inr (.inr (14, 0))], [], [(14, 0, 15)], [.inl (none, [])], 1)
theorem hct_X6_copy_14_2_0 : z_ctH zTb ct_X6_copy_14_2_0 := sorry
def ct_X6_copy_14_2_1 : zCt := (112, [.inr (.inr (14, 2)), .inr (.inr (14, 1))], [], [(14, 0, 15)], [.inl (none, [])], 1)
theorem hct_X6_copy_14_2_1 : z_ctH zTb ct_X6_copy_14_2_1 := sorry
def ct_X2_times_0 : zCt := (59, [.inr (.inr (5, 0)), .inl (0, 4294967295), .inl (0, 4294967295)], [], [], [.inl (some (.inl (0, 4294967295)), [])], 3)
theorem hct_X2_times_0 : z_ctH zTb ct_X2_times_0 := sorry
def ct_X2_against_0 : zCt := (60, [.inr (.inr (5, 0)), .inl (0, 4294967295)], [], [], [.inl (some (.inl (0, 4294967295)), [])], 3)
theorem hct_X2_against_0 : z_ctH zTb ct_X2_against_0 := sorry
def ct_X2_commute_0 : zCt := (61, [.inr (.inr (5, 0)), .inl (0, 4294967295), .inl (0, 4294967295)], [], [], [.inl (some (.inl (2147483648, 2147483649)), [])], 6)
theorem hct_X2_commute_0 : z_ctH zTb ct_X2_commute_0 := sorry
def ct_X2_timesToRest_0 : zCt := (62, [.inr (.inr (5, 0)), .inl (0, 4294967295)], [], [], [.inl (some (.inl (2147483649, 2147483656)), [])], 6)
theorem hct_X2_timesToRest_0 : z_ctH zTb ct_X2_timesToRest_0 := sorry
def ct_X2_kinOf_0 : zCt := (67, [.inr (.inr (5, 0)), .inl (0, 4294967295)], [], [], [.inl (some (.inl (0, 4294967295)), [])], 4)
theorem hct_X2_kinOf_0 : z_ctH zTb ct_X2_kinOf_0 := sorry
def ct_X2_kinSize_0 : zCt := (68, [.inr (.inr (5, 0)), .inl (0, 4294967295)], [], [], [.inl (some (.inl (0, 4294967295)), [])], 7)
theorem hct_X2_kinSize_0 : z_ctH zTb ct_X2_kinSize_0 := sorry
def ct_X2_commutators_0 : zCt := (69, [.inr (.inr (5, 0)), .inl (0, 4294967295)], [], [], [.inl (some (.inl (0, 4294967295)), [])], 4)
theorem hct_X2_commutators_0 : z_ctH zTb ct_X2_commutators_0 := sorry
def ct_X2_roots_0 : zCt := (70, [.inr (.inr (5, 0)), .inl (0, 4294967295)], [], [], [.inl (some (.inl (0, 4294967295)), [])], 4)
theorem hct_X2_roots_0 : z_ctH zTb ct_X2_roots_0 := sorry
def ct_X2_product_0 : zCt := (54, [.inr (.inr (5, 0)), .inl (0, 4294967295), .inl (0, 4294967295)], [], [], [.inl (some (.inl (0, 4294967295)), [])], 3)
theorem hct_X2_product_0 : z_ctH zTb ct_X2_product_0 := sorry
def ct_X2_times_1 : zCt := (59, [.inr (.inr (5, 1)), .inl (0, 4294967295), .inl (0, 4294967295)], [], [], [.inl (some (.inl (0, 4294967295)), [])], 3)
theorem hct_X2_times_1 : z_ctH zTb ct_X2_times_1 := sorry
def ct_X2_against_1 : zCt := (60, [.inr (.inr (5, 1)), .inl (0, 4294967295)], [], [], [.inl (some (.inl (0, 4294967295)), [])], 3)
theorem hct_X2_against_1 : z_ctH zTb ct_X2_against_1 := sorry
def ct_X2_commute_1 : zCt := (61, [.inr (.inr (5, 1)), .inl (0, 4294967295), .inl (0, 4294967295)], [], [], [.inl (some (.inl (2147483648, 2147483649)), [])], 6)
theorem hct_X2_commute_1 : z_ctH zTb ct_X2_commute_1 := sorry
def ct_X2_timesToRest_1 : zCt := (62, [.inr (.inr (5, 1)), .inl (0, 4294967295)], [], [], [.inl (some (.inl (2147483649, 2147483656)), [])], 6)
theorem hct_X2_timesToRest_1 : z_ctH zTb ct_X2_timesToRest_1 := sorry
def ct_X2_kinOf_1 : zCt := (67, [.inr (.inr (5, 1)), .inl (0, 4294967295)], [], [], [.inl (some (.inl (0, 4294967295)), [])], 4)
theorem hct_X2_kinOf_1 : z_ctH zTb ct_X2_kinOf_1 := sorry
def ct_X2_kinSize_1 : zCt := (68, [.inr (.inr (5, 1)), .inl (0, 4294967295)], [], [], [.inl (some (.inl (0, 4294967295)), [])], 7)
theorem hct_X2_kinSize_1 : z_ctH zTb ct_X2_kinSize_1 := sorry
def ct_X2_commutators_1 : zCt := (69, [.inr (.inr (5, 1)), .inl (0, 4294967295)], [], [], [.inl (some (.inl (0, 4294967295)), [])], 4)
theorem hct_X2_commutators_1 : z_ctH zTb ct_X2_commutators_1 := sorry
def ct_X2_roots_1 : zCt := (70, [.inr (.inr (5, 1)), .inl (0, 4294967295)], [], [], [.inl (some (.inl (0, 4294967295)), [])], 4)
theorem hct_X2_roots_1 : z_ctH zTb ct_X2_roots_1 := sorry
def ct_X2_product_1 : zCt := (54, [.inr (.inr (5, 1)), .inl (0, 4294967295), .inl (0, 4294967295)], [], [], [.inl (some (.inl (0, 4294967295)), [])], 3)
theorem hct_X2_product_1 : z_ctH zTb ct_X2_product_1 := sorry
def ct_X2_times_2 : zCt := (59, [.inr (.inr (5, 2)), .inl (0, 4294967295), .inl (0, 4294967295)], [], [], [.inl (some (.inl (0, 4294967295)), [])], 3)
theorem hct_X2_times_2 : z_ctH zTb ct_X2_times_2 := sorry
def ct_X2_against_2 : zCt := (60, [.inr (.inr (5, 2)), .inl (0, 4294967295)], [], [], [.inl (some (.inl (0, 4294967295)), [])], 3)
theorem hct_X2_against_2 : z_ctH zTb ct_X2_against_2 := sorry
def ct_X2_commute_2 : zCt := (61, [.inr (.inr (5, 2)), .inl (0, 4294967295), .inl (0, 4294967295)], [], [], [.inl (some (.inl (2147483648, 2147483649)), [])], 6)
theorem hct_X2_commute_2 : z_ctH zTb ct_X2_commute_2 := sorry
def ct_X2_timesToRest_2 : zCt := (62, [.inr (.inr (5, 2)), .inl (0, 4294967295)], [], [], [.inl (some (.inl (2147483649, 2147483656)), [])], 6)
theorem hct_X2_timesToRest_2 : z_ctH zTb ct_X2_timesToRest_2 := sorry
def ct_X2_kinOf_2 : zCt := (67, [.inr (.inr (5, 2)), .inl (0, 4294967295)], [], [], [.inl (some (.inl (0, 4294967295)), [])], 4)
theorem hct_X2_kinOf_2 : z_ctH zTb ct_X2_kinOf_2 := sorry
def ct_X2_kinSize_2 : zCt := (68, [.inr (.inr (5, 2)), .inl (0, 4294967295)], [], [], [.inl (some (.inl (0, 4294967295)), [])], 7)
theorem hct_X2_kinSize_2 : z_ctH zTb ct_X2_kinSize_2 := sorry
def ct_X2_commutators_2 : zCt := (69, [.inr (.inr (5, 2)), .inl (0, 4294967295)], [], [], [.inl (some (.inl (0, 4294967295)), [])], 4)
theorem hct_X2_commutators_2 : z_ctH zTb ct_X2_commutators_2 := sorry
def ct_X2_roots_2 : zCt := (70, [.inr (.inr (5, 2)), .inl (0, 4294967295)], [], [], [.inl (some (.inl (0, 4294967295)), [])], 4)
theorem hct_X2_roots_2 : z_ctH zTb ct_X2_roots_2 := sorry
def ct_X2_product_2 : zCt := (54, [.inr (.inr (5, 2)), .inl (0, 4294967295), .inl (0, 4294967295)], [], [], [.inl (some (.inl (0, 4294967295)), [])], 3)
theorem hct_X2_product_2 : z_ctH zTb ct_X2_product_2 := sorry
def ct_X2_fillProducts_0 : zCt := (53, [.inr (.inr (5, 0))], [], [(6, 0, 63), (7, 0, 7)], [.inl (none, [])], 5)
theorem hct_X2_fillProducts_0 : z_ctH zTb ct_X2_fillProducts_0 := sorry
def ct_X2_fillProducts_1 : zCt := (53, [.inr (.inr (5, 1))], [], [(6, 0, 63), (7, 0, 7)], [.inl (none, [])], 5)
theorem hct_X2_fillProducts_1 : z_ctH zTb ct_X2_fillProducts_1 := sorry
def ct_X2_fillProducts_2 : zCt := (53, [.inr (.inr (5, 2))], [], [(6, 0, 63), (7, 0, 7)], [.inl (none, [])], 5)
theorem hct_X2_fillProducts_2 : z_ctH zTb ct_X2_fillProducts_2 := sorry
def ct_X2_fillKins_0 : zCt := (55, [.inr (.inr (5, 0))], [], [(5, 2, 2), (8, 0, 7), (9, 0, 7)], [.inl (none, [])], 5)
theorem hct_X2_fillKins_0 : z_ctH zTb ct_X2_fillKins_0 := sorry
def ct_X2_fillKins_1 : zCt := (55, [.inr (.inr (5, 1))], [], [(5, 2, 2), (8, 0, 7), (9, 0, 7)], [.inl (none, [])], 5)
theorem hct_X2_fillKins_1 : z_ctH zTb ct_X2_fillKins_1 := sorry
def ct_X2_fillKins_2 : zCt := (55, [.inr (.inr (5, 2))], [], [(5, 2, 2), (8, 0, 7), (9, 0, 7)], [.inl (none, [])], 5)
theorem hct_X2_fillKins_2 : z_ctH zTb ct_X2_fillKins_2 := sorry
def ct_X2_fillCounts_0 : zCt := (56, [.inr (.inr (5, 0))], [], [(10, 0, 7), (11, 0, 7)], [.inl (none, [])], 5)
theorem hct_X2_fillCounts_0 : z_ctH zTb ct_X2_fillCounts_0 := sorry
def ct_X2_fillCounts_1 : zCt := (56, [.inr (.inr (5, 1))], [], [(10, 0, 7), (11, 0, 7)], [.inl (none, [])], 5)
theorem hct_X2_fillCounts_1 : z_ctH zTb ct_X2_fillCounts_1 := sorry
def ct_X2_fillCounts_2 : zCt := (56, [.inr (.inr (5, 2))], [], [(10, 0, 7), (11, 0, 7)], [.inl (none, [])], 5)
theorem hct_X2_fillCounts_2 : z_ctH zTb ct_X2_fillCounts_2 := sorry
def ct_X2_become_0 : zCt := (52, [.inr (.inr (5, 0)), .inl (2147483648, 2147483651), .inl (2147483650, 2147483656)], [], [(5, 0, 2), (6, 0, 63), (7, 0, 7), (8, 0, 7), (9, 0, 7), (10, 0, 7), (11, 0, 7)], [.inl (none, [])], 7)
theorem hct_X2_become_0 : z_ctH zTb ct_X2_become_0 := sorry
def ct_X2_become_1 : zCt := (52, [.inr (.inr (5, 1)), .inl (2147483648, 2147483651), .inl (2147483650, 2147483656)], [], [(5, 0, 2), (6, 0, 63), (7, 0, 7), (8, 0, 7), (9, 0, 7), (10, 0, 7), (11, 0, 7)], [.inl (none, [])], 7)
theorem hct_X2_become_1 : z_ctH zTb ct_X2_become_1 := sorry
def ct_X2_become_2 : zCt := (52, [.inr (.inr (5, 2)), .inl (2147483648, 2147483651), .inl (2147483650, 2147483656)], [], [(5, 0, 2), (6, 0, 63), (7, 0, 7), (8, 0, 7), (9, 0, 7), (10, 0, 7), (11, 0, 7)], [.inl (none, [])], 7)
theorem hct_X2_become_2 : z_ctH zTb ct_X2_become_2 := sorry
def ct_X2_exists_0 : zCt := (51, [.inl (0, 4294967295), .inl (0, 4294967295)], [], [], [.inl (some (.inl (2147483648, 2147483649)), [])], 1)
theorem hct_X2_exists_0 : z_ctH zTb ct_X2_exists_0 := sorry
def ct_X2_has_0 : zCt := (57, [.inr (.inr (5, 0)), .inl (0, 4294967295)], [], [], [.inl (some (.inl (2147483648, 2147483649)), [])], 2)
theorem hct_X2_has_0 : z_ctH zTb ct_X2_has_0 := sorry
def ct_X2_has_1 : zCt := (57, [.inr (.inr (5, 1)), .inl (0, 4294967295)], [], [], [.inl (some (.inl (2147483648, 2147483649)), [])], 2)
theorem hct_X2_has_1 : z_ctH zTb ct_X2_has_1 := sorry
def ct_X2_has_2 : zCt := (57, [.inr (.inr (5, 2)), .inl (0, 4294967295)], [], [], [.inl (some (.inl (2147483648, 2147483649)), [])], 2)
theorem hct_X2_has_2 : z_ctH zTb ct_X2_has_2 := sorry
def ct_X2_hasKin_0 : zCt := (58, [.inr (.inr (5, 0)), .inl (0, 4294967295)], [], [], [.inl (some (.inl (2147483648, 2147483649)), [])], 2)
theorem hct_X2_hasKin_0 : z_ctH zTb ct_X2_hasKin_0 := sorry
def ct_X2_hasKin_1 : zCt := (58, [.inr (.inr (5, 1)), .inl (0, 4294967295)], [], [], [.inl (some (.inl (2147483648, 2147483649)), [])], 2)
theorem hct_X2_hasKin_1 : z_ctH zTb ct_X2_hasKin_1 := sorry
def ct_X2_hasKin_2 : zCt := (58, [.inr (.inr (5, 2)), .inl (0, 4294967295)], [], [], [.inl (some (.inl (2147483648, 2147483649)), [])], 2)
theorem hct_X2_hasKin_2 : z_ctH zTb ct_X2_hasKin_2 := sorry
def ct_X2_kind_0 : zCt := (63, [.inr (.inr (5, 0))], [], [], [.inl (some (.inl (2147483648, 2147483651)), [])], 2)
theorem hct_X2_kind_0 : z_ctH zTb ct_X2_kind_0 := sorry
def ct_X2_kind_1 : zCt := (63, [.inr (.inr (5, 1))], [], [], [.inl (some (.inl (2147483648, 2147483651)), [])], 2)
theorem hct_X2_kind_1 : z_ctH zTb ct_X2_kind_1 := sorry
def ct_X2_kind_2 : zCt := (63, [.inr (.inr (5, 2))], [], [], [.inl (some (.inl (2147483648, 2147483651)), [])], 2)
theorem hct_X2_kind_2 : z_ctH zTb ct_X2_kind_2 := sorry
def ct_X2_order_0 : zCt := (64, [.inr (.inr (5, 0))], [], [], [.inl (some (.inl (2147483650, 2147483656)), [])], 2)
theorem hct_X2_order_0 : z_ctH zTb ct_X2_order_0 := sorry
def ct_X2_order_1 : zCt := (64, [.inr (.inr (5, 1))], [], [], [.inl (some (.inl (2147483650, 2147483656)), [])], 2)
theorem hct_X2_order_1 : z_ctH zTb ct_X2_order_1 := sorry
def ct_X2_order_2 : zCt := (64, [.inr (.inr (5, 2))], [], [], [.inl (some (.inl (2147483650, 2147483656)), [])], 2)
theorem hct_X2_order_2 : z_ctH zTb ct_X2_order_2 := sorry
def ct_X2_kins_0 : zCt := (65, [.inr (.inr (5, 0))], [], [], [.inl (some (.inl (0, 4294967295)), [])], 2)
theorem hct_X2_kins_0 : z_ctH zTb ct_X2_kins_0 := sorry
def ct_X2_kins_1 : zCt := (65, [.inr (.inr (5, 1))], [], [], [.inl (some (.inl (0, 4294967295)), [])], 2)
theorem hct_X2_kins_1 : z_ctH zTb ct_X2_kins_1 := sorry
def ct_X2_kins_2 : zCt := (65, [.inr (.inr (5, 2))], [], [], [.inl (some (.inl (0, 4294967295)), [])], 2)
theorem hct_X2_kins_2 : z_ctH zTb ct_X2_kins_2 := sorry
def ct_X2_isOfHalves_0 : zCt := (66, [.inr (.inr (5, 0))], [], [], [.inl (some (.inl (2147483648, 2147483649)), [])], 2)
theorem hct_X2_isOfHalves_0 : z_ctH zTb ct_X2_isOfHalves_0 := sorry
def ct_X2_isOfHalves_1 : zCt := (66, [.inr (.inr (5, 1))], [], [], [.inl (some (.inl (2147483648, 2147483649)), [])], 2)
theorem hct_X2_isOfHalves_1 : z_ctH zTb ct_X2_isOfHalves_1 := sorry
def ct_X2_isOfHalves_2 : zCt := (66, [.inr (.inr (5, 2))], [], [], [.inl (some (.inl (2147483648, 2147483649)), [])], 2)
theorem hct_X2_isOfHalves_2 : z_ctH zTb ct_X2_isOfHalves_2 := sorry
def ct_X0_startGroup_0 : zCt := (1, [.inr (.inr (4, 0))], [], [(12, 0, 31), (13, 0, 7)], [.inl (none, [])], 3)
theorem hct_X0_startGroup_0 : z_ctH zTb ct_X0_startGroup_0 := sorry
def ct_X0_startGroup_1 : zCt := (1, [.inr (.inr (4, 1))], [], [(12, 0, 31), (13, 0, 7)], [.inl (none, [])], 3)
theorem hct_X0_startGroup_1 : z_ctH zTb ct_X0_startGroup_1 := sorry
def ct_X0_startGroup_2 : zCt := (1, [.inr (.inr (4, 2))], [], [(12, 0, 31), (13, 0, 7)], [.inl (none, [])], 3)
theorem hct_X0_startGroup_2 : z_ctH zTb ct_X0_startGroup_2 := sorry
def ct_X0_makeHole_0 : zCt := (4, [.inr (.inr (4, 0)), .inl (0, 4294967295)], [], [(14, 0, 15)], [.inl (none, [])], 3)
theorem hct_X0_makeHole_0 : z_ctH zTb ct_X0_makeHole_0 := sorry
def ct_X0_makeHole_1 : zCt := (4, [.inr (.inr (4, 1)), .inl (0, 4294967295)], [], [(14, 0, 15)], [.inl (none, [])], 3)
theorem hct_X0_makeHole_1 : z_ctH zTb ct_X0_makeHole_1 := sorry
def ct_X0_makeHole_2 : zCt := (4, [.inr (.inr (4, 2)), .inl (0, 4294967295)], [], [(14, 0, 15)], [.inl (none, [])], 3)
theorem hct_X0_makeHole_2 : z_ctH zTb ct_X0_makeHole_2 := sorry
def ct_X0_countText_0 : zCt := (5, [.inr (.inr (4, 0))], [], [(4, 4, 4)], [.inl (none, [])], 2)
theorem hct_X0_countText_0 : z_ctH zTb ct_X0_countText_0 := sorry
def ct_X0_countText_1 : zCt := (5, [.inr (.inr (4, 1))], [], [(4, 4, 4)], [.inl (none, [])], 2)
theorem hct_X0_countText_1 : z_ctH zTb ct_X0_countText_1 := sorry
def ct_X0_countText_2 : zCt := (5, [.inr (.inr (4, 2))], [], [(4, 4, 4)], [.inl (none, [])], 2)
theorem hct_X0_countText_2 : z_ctH zTb ct_X0_countText_2 := sorry
def ct_X0_group_0 : zCt := (6, [.inr (.inr (4, 0))], [], [], [.inl (some (.inr (.inr (5, 0))), [])], 2)
theorem hct_X0_group_0 : z_ctH zTb ct_X0_group_0 := sorry
def ct_X0_group_1 : zCt := (6, [.inr (.inr (4, 1))], [], [], [.inl (some (.inr (.inr (5, 1))), [])], 2)
theorem hct_X0_group_1 : z_ctH zTb ct_X0_group_1 := sorry
def ct_X0_group_2 : zCt := (6, [.inr (.inr (4, 2))], [], [], [.inl (some (.inr (.inr (5, 2))), [])], 2)
theorem hct_X0_group_2 : z_ctH zTb ct_X0_group_2 := sorry
def ct_X0_wide_0 : zCt := (7, [.inr (.inr (4, 0))], [], [], [.inl (some (.inl (2147483649, 2147483651)), [])], 2)
theorem hct_X0_wide_0 : z_ctH zTb ct_X0_wide_0 := sorry
def ct_X0_wide_1 : zCt := (7, [.inr (.inr (4, 1))], [], [], [.inl (some (.inl (2147483649, 2147483651)), [])], 2)
theorem hct_X0_wide_1 : z_ctH zTb ct_X0_wide_1 := sorry
def ct_X0_wide_2 : zCt := (7, [.inr (.inr (4, 2))], [], [], [.inl (some (.inl (2147483649, 2147483651)), [])], 2)
theorem hct_X0_wide_2 : z_ctH zTb ct_X0_wide_2 := sorry
def ct_X0_high_0 : zCt := (8, [.inr (.inr (4, 0))], [], [], [.inl (some (.inl (2147483649, 2147483651)), [])], 2)
theorem hct_X0_high_0 : z_ctH zTb ct_X0_high_0 := sorry
def ct_X0_high_1 : zCt := (8, [.inr (.inr (4, 1))], [], [], [.inl (some (.inl (2147483649, 2147483651)), [])], 2)
theorem hct_X0_high_1 : z_ctH zTb ct_X0_high_1 := sorry
def ct_X0_high_2 : zCt := (8, [.inr (.inr (4, 2))], [], [], [.inl (some (.inl (2147483649, 2147483651)), [])], 2)
theorem hct_X0_high_2 : z_ctH zTb ct_X0_high_2 := sorry
def ct_X0_shape_0 : zCt := (9, [.inr (.inr (4, 0))], [], [], [.inl (some (.inl (2147483648, 2147483650)), [])], 2)
theorem hct_X0_shape_0 : z_ctH zTb ct_X0_shape_0 := sorry
def ct_X0_shape_1 : zCt := (9, [.inr (.inr (4, 1))], [], [], [.inl (some (.inl (2147483648, 2147483650)), [])], 2)
theorem hct_X0_shape_1 : z_ctH zTb ct_X0_shape_1 := sorry
def ct_X0_shape_2 : zCt := (9, [.inr (.inr (4, 2))], [], [], [.inl (some (.inl (2147483648, 2147483650)), [])], 2)
theorem hct_X0_shape_2 : z_ctH zTb ct_X0_shape_2 := sorry
def ct_X0_texts_0 : zCt := (10, [.inr (.inr (4, 0))], [], [], [.inl (some (.inl (0, 4294967295)), [])], 2)
theorem hct_X0_texts_0 : z_ctH zTb ct_X0_texts_0 := sorry
def ct_X0_texts_1 : zCt := (10, [.inr (.inr (4, 1))], [], [], [.inl (some (.inl (0, 4294967295)), [])], 2)
theorem hct_X0_texts_1 : z_ctH zTb ct_X0_texts_1 := sorry
def ct_X0_texts_2 : zCt := (10, [.inr (.inr (4, 2))], [], [], [.inl (some (.inl (0, 4294967295)), [])], 2)
theorem hct_X0_texts_2 : z_ctH zTb ct_X0_texts_2 := sorry
def ct_X0_squares_0 : zCt := (11, [.inr (.inr (4, 0))], [], [], [.inl (some (.inl (2147483649, 2147483657)), [])], 2)
theorem hct_X0_squares_0 : z_ctH zTb ct_X0_squares_0 := sorry
def ct_X0_squares_1 : zCt := (11, [.inr (.inr (4, 1))], [], [], [.inl (some (.inl (2147483649, 2147483657)), [])], 2)
theorem hct_X0_squares_1 : z_ctH zTb ct_X0_squares_1 := sorry
def ct_X0_squares_2 : zCt := (11, [.inr (.inr (4, 2))], [], [], [.inl (some (.inl (2147483649, 2147483657)), [])], 2)
theorem hct_X0_squares_2 : z_ctH zTb ct_X0_squares_2 := sorry
def ct_X0_isFlat_0 : zCt := (12, [.inr (.inr (4, 0))], [], [], [.inl (some (.inl (2147483648, 2147483649)), [])], 2)
theorem hct_X0_isFlat_0 : z_ctH zTb ct_X0_isFlat_0 := sorry
def ct_X0_isFlat_1 : zCt := (12, [.inr (.inr (4, 1))], [], [], [.inl (some (.inl (2147483648, 2147483649)), [])], 2)
theorem hct_X0_isFlat_1 : z_ctH zTb ct_X0_isFlat_1 := sorry
def ct_X0_isFlat_2 : zCt := (12, [.inr (.inr (4, 2))], [], [], [.inl (some (.inl (2147483648, 2147483649)), [])], 2)
theorem hct_X0_isFlat_2 : z_ctH zTb ct_X0_isFlat_2 := sorry
def ct_X0_isClosed_0 : zCt := (13, [.inr (.inr (4, 0))], [], [], [.inl (some (.inl (2147483648, 2147483649)), [])], 2)
theorem hct_X0_isClosed_0 : z_ctH zTb ct_X0_isClosed_0 := sorry
def ct_X0_isClosed_1 : zCt := (13, [.inr (.inr (4, 1))], [], [], [.inl (some (.inl (2147483648, 2147483649)), [])], 2)
theorem hct_X0_isClosed_1 : z_ctH zTb ct_X0_isClosed_1 := sorry
def ct_X0_isClosed_2 : zCt := (13, [.inr (.inr (4, 2))], [], [], [.inl (some (.inl (2147483648, 2147483649)), [])], 2)
theorem hct_X0_isClosed_2 : z_ctH zTb ct_X0_isClosed_2 := sorry
def ct_X0_corners_0 : zCt := (14, [.inr (.inr (4, 0))], [], [], [.inl (some (.inl (2147483649, 2147483664)), [])], 2)
theorem hct_X0_corners_0 : z_ctH zTb ct_X0_corners_0 := sorry
def ct_X0_corners_1 : zCt := (14, [.inr (.inr (4, 1))], [], [], [.inl (some (.inl (2147483649, 2147483664)), [])], 2)
theorem hct_X0_corners_1 : z_ctH zTb ct_X0_corners_1 := sorry
def ct_X0_corners_2 : zCt := (14, [.inr (.inr (4, 2))], [], [], [.inl (some (.inl (2147483649, 2147483664)), [])], 2)
theorem hct_X0_corners_2 : z_ctH zTb ct_X0_corners_2 := sorry
def ct_X0_lines_0 : zCt := (15, [.inr (.inr (4, 0))], [], [], [.inl (some (.inl (2147483650, 2147483672)), [])], 2)
theorem hct_X0_lines_0 : z_ctH zTb ct_X0_lines_0 := sorry
def ct_X0_lines_1 : zCt := (15, [.inr (.inr (4, 1))], [], [], [.inl (some (.inl (2147483650, 2147483672)), [])], 2)
theorem hct_X0_lines_1 : z_ctH zTb ct_X0_lines_1 := sorry
def ct_X0_lines_2 : zCt := (15, [.inr (.inr (4, 2))], [], [], [.inl (some (.inl (2147483650, 2147483672)), [])], 2)
theorem hct_X0_lines_2 : z_ctH zTb ct_X0_lines_2 := sorry
def ct_X0_holes_0 : zCt := (16, [.inr (.inr (4, 0))], [], [], [.inl (some (.inl (2147483648, 2147483664)), [])], 3)
theorem hct_X0_holes_0 : z_ctH zTb ct_X0_holes_0 := sorry
def ct_X0_holes_1 : zCt := (16, [.inr (.inr (4, 1))], [], [], [.inl (some (.inl (2147483648, 2147483664)), [])], 3)
theorem hct_X0_holes_1 : z_ctH zTb ct_X0_holes_1 := sorry
def ct_X0_holes_2 : zCt := (16, [.inr (.inr (4, 2))], [], [], [.inl (some (.inl (2147483648, 2147483664)), [])], 3)
theorem hct_X0_holes_2 : z_ctH zTb ct_X0_holes_2 := sorry
def ct_X0_cornerAt_0 : zCt := (17, [.inr (.inr (4, 0)), .inl (0, 4294967295), .inl (0, 4294967295)], [], [], [.inl (some (.inl (2147483647, 2147483663)), [])], 2)
theorem hct_X0_cornerAt_0 : z_ctH zTb ct_X0_cornerAt_0 := sorry
def ct_X0_cornerAt_1 : zCt := (17, [.inr (.inr (4, 1)), .inl (0, 4294967295), .inl (0, 4294967295)], [], [], [.inl (some (.inl (2147483647, 2147483663)), [])], 2)
theorem hct_X0_cornerAt_1 : z_ctH zTb ct_X0_cornerAt_1 := sorry
def ct_X0_cornerAt_2 : zCt := (17, [.inr (.inr (4, 2)), .inl (0, 4294967295), .inl (0, 4294967295)], [], [], [.inl (some (.inl (2147483647, 2147483663)), [])], 2)
theorem hct_X0_cornerAt_2 : z_ctH zTb ct_X0_cornerAt_2 := sorry
def ct_X0_columnOf_0 : zCt := (20, [.inl (0, 4294967295)], [], [], [.inl (some (.inl (0, 4294967295)), [])], 1)
theorem hct_X0_columnOf_0 : z_ctH zTb ct_X0_columnOf_0 := sorry
def ct_X0_rowOf_0 : zCt := (21, [.inl (0, 4294967295)], [], [], [.inl (some (.inl (0, 4294967295)), [])], 1)
theorem hct_X0_rowOf_0 : z_ctH zTb ct_X0_rowOf_0 := sorry
def ct_X0_isNorth_0 : zCt := (22, [.inl (0, 4294967295)], [], [], [.inl (some (.inl (2147483648, 2147483649)), [])], 1)
theorem hct_X0_isNorth_0 : z_ctH zTb ct_X0_isNorth_0 := sorry
def ct_X0_beginOf_0 : zCt := (23, [.inl (0, 4294967295)], [], [], [.inl (some (.inl (0, 4294967295)), [])], 1)
theorem hct_X0_beginOf_0 : z_ctH zTb ct_X0_beginOf_0 := sorry
def ct_X0_hasLine_0 : zCt := (25, [.inr (.inr (4, 0)), .inl (0, 4294967295)], [], [], [.inl (some (.inl (2147483648, 2147483649)), [])], 3)
theorem hct_X0_hasLine_0 : z_ctH zTb ct_X0_hasLine_0 := sorry
def ct_X0_hasLine_1 : zCt := (25, [.inr (.inr (4, 1)), .inl (0, 4294967295)], [], [], [.inl (some (.inl (2147483648, 2147483649)), [])], 3)
theorem hct_X0_hasLine_1 : z_ctH zTb ct_X0_hasLine_1 := sorry
def ct_X0_hasLine_2 : zCt := (25, [.inr (.inr (4, 2)), .inl (0, 4294967295)], [], [], [.inl (some (.inl (2147483648, 2147483649)), [])], 3)
theorem hct_X0_hasLine_2 : z_ctH zTb ct_X0_hasLine_2 := sorry
def ct_X0_lineAt_0 : zCt := (18, [.inr (.inr (4, 0)), .inl (0, 4294967295), .inl (0, 4294967295), .inl (2147483648, 2147483649)], [], [], [.inl (some (.inl (2147483647, 2147483679)), [])], 5)
theorem hct_X0_lineAt_0 : z_ctH zTb ct_X0_lineAt_0 := sorry
def ct_X0_lineAt_1 : zCt := (18, [.inr (.inr (4, 1)), .inl (0, 4294967295), .inl (0, 4294967295), .inl (2147483648, 2147483649)], [], [], [.inl (some (.inl (2147483647, 2147483679)), [])], 5)
theorem hct_X0_lineAt_1 : z_ctH zTb ct_X0_lineAt_1 := sorry
def ct_X0_lineAt_2 : zCt := (18, [.inr (.inr (4, 2)), .inl (0, 4294967295), .inl (0, 4294967295), .inl (2147483648, 2147483649)], [], [], [.inl (some (.inl (2147483647, 2147483679)), [])], 5)
theorem hct_X0_lineAt_2 : z_ctH zTb ct_X0_lineAt_2 := sorry
def ct_X0_squareAt_0 : zCt := (19, [.inr (.inr (4, 0)), .inl (0, 4294967295), .inl (0, 4294967295)], [], [], [.inl (some (.inl (2147483647, 2147483658)), [])], 2)
theorem hct_X0_squareAt_0 : z_ctH zTb ct_X0_squareAt_0 := sorry
def ct_X0_squareAt_1 : zCt := (19, [.inr (.inr (4, 1)), .inl (0, 4294967295), .inl (0, 4294967295)], [], [], [.inl (some (.inl (2147483647, 2147483658)), [])], 2)
theorem hct_X0_squareAt_1 : z_ctH zTb ct_X0_squareAt_1 := sorry
def ct_X0_squareAt_2 : zCt := (19, [.inr (.inr (4, 2)), .inl (0, 4294967295), .inl (0, 4294967295)], [], [], [.inl (some (.inl (2147483647, 2147483658)), [])], 2)
theorem hct_X0_squareAt_2 : z_ctH zTb ct_X0_squareAt_2 := sorry
def ct_X0_endOf_0 : zCt := (24, [.inr (.inr (4, 0)), .inl (0, 4294967295)], [], [], [.inl (some (.inl (2147483647, 2147483663)), [])], 4)
theorem hct_X0_endOf_0 : z_ctH zTb ct_X0_endOf_0 := sorry
def ct_X0_endOf_1 : zCt := (24, [.inr (.inr (4, 1)), .inl (0, 4294967295)], [], [], [.inl (some (.inl (2147483647, 2147483663)), [])], 4)
theorem hct_X0_endOf_1 : z_ctH zTb ct_X0_endOf_1 := sorry
def ct_X0_endOf_2 : zCt := (24, [.inr (.inr (4, 2)), .inl (0, 4294967295)], [], [], [.inl (some (.inl (2147483647, 2147483663)), [])], 4)
theorem hct_X0_endOf_2 : z_ctH zTb ct_X0_endOf_2 := sorry
def ct_X0_isOfTree_0 : zCt := (26, [.inr (.inr (4, 0)), .inl (0, 4294967295)], [], [], [.inl (some (.inl (2147483648, 2147483649)), [])], 3)
theorem hct_X0_isOfTree_0 : z_ctH zTb ct_X0_isOfTree_0 := sorry
def ct_X0_isOfTree_1 : zCt := (26, [.inr (.inr (4, 1)), .inl (0, 4294967295)], [], [], [.inl (some (.inl (2147483648, 2147483649)), [])], 3)
theorem hct_X0_isOfTree_1 : z_ctH zTb ct_X0_isOfTree_1 := sorry
def ct_X0_isOfTree_2 : zCt := (26, [.inr (.inr (4, 2)), .inl (0, 4294967295)], [], [], [.inl (some (.inl (2147483648, 2147483649)), [])], 3)
theorem hct_X0_isOfTree_2 : z_ctH zTb ct_X0_isOfTree_2 := sorry
def ct_X0_sideOf_0 : zCt := (27, [.inr (.inr (4, 0)), .inl (0, 4294967295), .inl (0, 4294967295)], [], [], [.inl (some (.inl (2147483647, 2147483679)), [])], 7)
theorem hct_X0_sideOf_0 : z_ctH zTb ct_X0_sideOf_0 := sorry
def ct_X0_sideOf_1 : zCt := (27, [.inr (.inr (4, 1)), .inl (0, 4294967295), .inl (0, 4294967295)], [], [], [.inl (some (.inl (2147483647, 2147483679)), [])], 7)
theorem hct_X0_sideOf_1 : z_ctH zTb ct_X0_sideOf_1 := sorry
def ct_X0_sideOf_2 : zCt := (27, [.inr (.inr (4, 2)), .inl (0, 4294967295), .inl (0, 4294967295)], [], [], [.inl (some (.inl (2147483647, 2147483679)), [])], 7)
theorem hct_X0_sideOf_2 : z_ctH zTb ct_X0_sideOf_2 := sorry
def ct_X0_turnOn_0 : zCt := (28, [.inr (.inr (4, 0)), .inl (0, 4294967295)], [], [], [.inl (some (.inl (0, 4294967295)), [])], 3)
theorem hct_X0_turnOn_0 : z_ctH zTb ct_X0_turnOn_0 := sorry
def ct_X0_turnOn_1 : zCt := (28, [.inr (.inr (4, 1)), .inl (0, 4294967295)], [], [], [.inl (some (.inl (0, 4294967295)), [])], 3)
theorem hct_X0_turnOn_1 : z_ctH zTb ct_X0_turnOn_1 := sorry
def ct_X0_turnOn_2 : zCt := (28, [.inr (.inr (4, 2)), .inl (0, 4294967295)], [], [], [.inl (some (.inl (0, 4294967295)), [])], 3)
theorem hct_X0_turnOn_2 : z_ctH zTb ct_X0_turnOn_2 := sorry
def ct_X0_putTurn_0 : zCt := (29, [.inr (.inr (4, 0)), .inl (0, 4294967295), .inl (0, 4294967295)], [], [(12, 0, 31)], [.inl (none, [])], 3)
theorem hct_X0_putTurn_0 : z_ctH zTb ct_X0_putTurn_0 := sorry
def ct_X0_putTurn_1 : zCt := (29, [.inr (.inr (4, 1)), .inl (0, 4294967295), .inl (0, 4294967295)], [], [(12, 0, 31)], [.inl (none, [])], 3)
theorem hct_X0_putTurn_1 : z_ctH zTb ct_X0_putTurn_1 := sorry
def ct_X0_putTurn_2 : zCt := (29, [.inr (.inr (4, 2)), .inl (0, 4294967295), .inl (0, 4294967295)], [], [(12, 0, 31)], [.inl (none, [])], 3)
theorem hct_X0_putTurn_2 : z_ctH zTb ct_X0_putTurn_2 := sorry
def ct_X0_turnRound_0 : zCt := (30, [.inr (.inr (4, 0)), .inl (0, 4294967295)], [], [], [.inl (some (.inl (0, 4294967295)), [])], 9)
theorem hct_X0_turnRound_0 : z_ctH zTb ct_X0_turnRound_0 := sorry
def ct_X0_turnRound_1 : zCt := (30, [.inr (.inr (4, 1)), .inl (0, 4294967295)], [], [], [.inl (some (.inl (0, 4294967295)), [])], 9)
theorem hct_X0_turnRound_1 : z_ctH zTb ct_X0_turnRound_1 := sorry
def ct_X0_turnRound_2 : zCt := (30, [.inr (.inr (4, 2)), .inl (0, 4294967295)], [], [], [.inl (some (.inl (0, 4294967295)), [])], 9)
theorem hct_X0_turnRound_2 : z_ctH zTb ct_X0_turnRound_2 := sorry
def ct_X0_isHole_0 : zCt := (31, [.inr (.inr (4, 0)), .inl (0, 4294967295)], [], [], [.inl (some (.inl (2147483648, 2147483649)), [])], 3)
theorem hct_X0_isHole_0 : z_ctH zTb ct_X0_isHole_0 := sorry
def ct_X0_isHole_1 : zCt := (31, [.inr (.inr (4, 1)), .inl (0, 4294967295)], [], [], [.inl (some (.inl (2147483648, 2147483649)), [])], 3)
theorem hct_X0_isHole_1 : z_ctH zTb ct_X0_isHole_1 := sorry
def ct_X0_isHole_2 : zCt := (31, [.inr (.inr (4, 2)), .inl (0, 4294967295)], [], [], [.inl (some (.inl (2147483648, 2147483649)), [])], 3)
theorem hct_X0_isHole_2 : z_ctH zTb ct_X0_isHole_2 := sorry
def ct_X0_weight_0 : zCt := (32, [.inr (.inr (4, 0)), .inl (0, 4294967295)], [], [], [.inl (some (.inl (0, 4294967295)), [])], 3)
theorem hct_X0_weight_0 : z_ctH zTb ct_X0_weight_0 := sorry
def ct_X0_weight_1 : zCt := (32, [.inr (.inr (4, 1)), .inl (0, 4294967295)], [], [], [.inl (some (.inl (0, 4294967295)), [])], 3)
theorem hct_X0_weight_1 : z_ctH zTb ct_X0_weight_1 := sorry
def ct_X0_weight_2 : zCt := (32, [.inr (.inr (4, 2)), .inl (0, 4294967295)], [], [], [.inl (some (.inl (0, 4294967295)), [])], 3)
theorem hct_X0_weight_2 : z_ctH zTb ct_X0_weight_2 := sorry
def ct_X0_weightIn_0 : zCt := (33, [.inr (.inr (4, 0)), .inl (0, 4294967295), .inl (0, 4294967295)], [], [], [.inl (some (.inl (0, 4294967295)), [])], 5)
theorem hct_X0_weightIn_0 : z_ctH zTb ct_X0_weightIn_0 := sorry
def ct_X0_weightIn_1 : zCt := (33, [.inr (.inr (4, 1)), .inl (0, 4294967295), .inl (0, 4294967295)], [], [], [.inl (some (.inl (0, 4294967295)), [])], 5)
theorem hct_X0_weightIn_1 : z_ctH zTb ct_X0_weightIn_1 := sorry
def ct_X0_weightIn_2 : zCt := (33, [.inr (.inr (4, 2)), .inl (0, 4294967295), .inl (0, 4294967295)], [], [], [.inl (some (.inl (0, 4294967295)), [])], 5)
theorem hct_X0_weightIn_2 : z_ctH zTb ct_X0_weightIn_2 := sorry
def ct_X0_weightSum_0 : zCt := (34, [.inr (.inr (4, 0))], [], [], [.inl (some (.inl (0, 4294967295)), [])], 5)
theorem hct_X0_weightSum_0 : z_ctH zTb ct_X0_weightSum_0 := sorry
def ct_X0_weightSum_1 : zCt := (34, [.inr (.inr (4, 1))], [], [], [.inl (some (.inl (0, 4294967295)), [])], 5)
theorem hct_X0_weightSum_1 : z_ctH zTb ct_X0_weightSum_1 := sorry
def ct_X0_weightSum_2 : zCt := (34, [.inr (.inr (4, 2))], [], [], [.inl (some (.inl (0, 4294967295)), [])], 5)
theorem hct_X0_weightSum_2 : z_ctH zTb ct_X0_weightSum_2 := sorry
def ct_X0_weighKin_0 : zCt := (3, [.inr (.inr (4, 0)), .inl (0, 4294967295), .inl (0, 4294967295)], [], [(13, 0, 7)], [.inl (none, [])], 6)
theorem hct_X0_weighKin_0 : z_ctH zTb ct_X0_weighKin_0 := sorry
def ct_X0_weighKin_1 : zCt := (3, [.inr (.inr (4, 1)), .inl (0, 4294967295), .inl (0, 4294967295)], [], [(13, 0, 7)], [.inl (none, [])], 6)
theorem hct_X0_weighKin_1 : z_ctH zTb ct_X0_weighKin_1 := sorry
def ct_X0_weighKin_2 : zCt := (3, [.inr (.inr (4, 2)), .inl (0, 4294967295), .inl (0, 4294967295)], [], [(13, 0, 7)], [.inl (none, [])], 6)
theorem hct_X0_weighKin_2 : z_ctH zTb ct_X0_weighKin_2 := sorry
def ct_X0_worthOfTurns_0 : zCt := (35, [.inr (.inr (4, 0))], [], [], [.inl (some (.inr (.inl none)), [])], 11)
theorem hct_X0_worthOfTurns_0 : z_ctH zTb ct_X0_worthOfTurns_0 := sorry
def ct_X0_worthOfTurns_1 : zCt := (35, [.inr (.inr (4, 1))], [], [], [.inl (some (.inr (.inl none)), [])], 11)
theorem hct_X0_worthOfTurns_1 : z_ctH zTb ct_X0_worthOfTurns_1 := sorry
def ct_X0_worthOfTurns_2 : zCt := (35, [.inr (.inr (4, 2))], [], [], [.inl (some (.inr (.inl none)), [])], 11)
theorem hct_X0_worthOfTurns_2 : z_ctH zTb ct_X0_worthOfTurns_2 := sorry
def ct_X0_turnedSquares_0 : zCt := (36, [.inr (.inr (4, 0))], [], [], [.inl (some (.inl (2147483648, 2147483657)), [])], 11)
theorem hct_X0_turnedSquares_0 : z_ctH zTb ct_X0_turnedSquares_0 := sorry
def ct_X0_turnedSquares_1 : zCt := (36, [.inr (.inr (4, 1))], [], [], [.inl (some (.inl (2147483648, 2147483657)), [])], 11)
theorem hct_X0_turnedSquares_1 : z_ctH zTb ct_X0_turnedSquares_1 := sorry
def ct_X0_turnedSquares_2 : zCt := (36, [.inr (.inr (4, 2))], [], [], [.inl (some (.inl (2147483648, 2147483657)), [])], 11)
theorem hct_X0_turnedSquares_2 : z_ctH zTb ct_X0_turnedSquares_2 := sorry
def ct_X0_reframe_0 : zCt := (37, [.inr (.inr (4, 0)), .inl (0, 4294967295), .inl (0, 4294967295)], [], [(12, 0, 31)], [.inl (some (.inl (2147483648, 2147483680)), [])], 6)
theorem hct_X0_reframe_0 : z_ctH zTb ct_X0_reframe_0 := sorry
def ct_X0_reframe_1 : zCt := (37, [.inr (.inr (4, 1)), .inl (0, 4294967295), .inl (0, 4294967295)], [], [(12, 0, 31)], [.inl (some (.inl (2147483648, 2147483680)), [])], 6)
theorem hct_X0_reframe_1 : z_ctH zTb ct_X0_reframe_1 := sorry
def ct_X0_reframe_2 : zCt := (37, [.inr (.inr (4, 2)), .inl (0, 4294967295), .inl (0, 4294967295)], [], [(12, 0, 31)], [.inl (some (.inl (2147483648, 2147483680)), [])], 6)
theorem hct_X0_reframe_2 : z_ctH zTb ct_X0_reframe_2 := sorry
def ct_X0_startPlaces_0 : zCt := (2, [.inr (.inr (4, 0)), .inl (2147483649, 2147483651), .inl (2147483649, 2147483651), .inl (2147483648, 2147483650)], [], [(4, 1, 3), (4, 5, 6), (12, 0, 31), (14, 0, 15)], [.inl (none, [(65539, (2147483648, 2147483650))])], 3)
theorem hct_X0_startPlaces_0 : z_ctH zTb ct_X0_startPlaces_0 := sorry
def ct_X0_startPlaces_1 : zCt := (2, [.inr (.inr (4, 1)), .inl (2147483649, 2147483651), .inl (2147483649, 2147483651), .inl (2147483648, 2147483650)], [], [(4, 1, 3), (4, 5, 6), (12, 0, 31), (14, 0, 15)], [.inl (none, [(69635, (2147483648, 2147483650))])], 3)
theorem hct_X0_startPlaces_1 : z_ctH zTb ct_X0_startPlaces_1 := sorry
def ct_X0_startPlaces_2 : zCt := (2, [.inr (.inr (4, 2)), .inl (2147483649, 2147483651), .inl (2147483649, 2147483651), .inl (2147483648, 2147483650)], [], [(4, 1, 3), (4, 5, 6), (12, 0, 31), (14, 0, 15)], [.inl (none, [(73731, (2147483648, 2147483650))])], 3)
theorem hct_X0_startPlaces_2 : z_ctH zTb ct_X0_startPlaces_2 := sorry
def ct_X0_copyFrom_0_2 : zCt := (0, [.inr (.inr (4, 0)), .inr (.inr (4, 2))], [], [(4, 1, 6), (5, 0, 2), (6, 0, 63), (7, 0, 7), (8, 0, 7), (9, 0, 7), (10, 0, 7), (11, 0, 7), (12, 0, 31), (13, 0, 7), (14, 0, 15)], [.inl (none, [])], 9)
theorem hct_X0_copyFrom_0_2 : z_ctH zTb ct_X0_copyFrom_0_2 := sorry
def ct_X0_copyFrom_1_0 : zCt := (0, [.inr (.inr (4, 1)), .inr (.inr (4, 0))], [], [(4, 1, 6), (5, 0, 2), (6, 0, 63), (7, 0, 7), (8, 0, 7), (9, 0, 7), (10, 0, 7), (11, 0, 7), (12, 0, 31), (13, 0, 7), (14, 0, 15)], [.inl (none, [])], 9)
theorem hct_X0_copyFrom_1_0 : z_ctH zTb ct_X0_copyFrom_1_0 := sorry
def ct_X0_copyFrom_0_1 : zCt := (0, [.inr (.inr (4, 0)), .inr (.inr (4, 1))], [], [(4, 1, 6), (5, 0, 2), (6, 0, 63), (7, 0, 7), (8, 0, 7), (9, 0, 7), (10, 0, 7), (11, 0, 7), (12, 0, 31), (13, 0, 7), (14, 0, 15)], [.inl (none, [])], 9)
theorem hct_X0_copyFrom_0_1 : z_ctH zTb ct_X0_copyFrom_0_1 := sorry
def ct_X0_copyFrom_2_0 : zCt := (0, [.inr (.inr (4, 2)), .inr (.inr (4, 0))], [], [(4, 1, 6), (5, 0, 2), (6, 0, 63), (7, 0, 7), (8, 0, 7), (9, 0, 7), (10, 0, 7), (11, 0, 7), (12, 0, 31), (13, 0, 7), (14, 0, 15)], [.inl (none, [])], 9)
theorem hct_X0_copyFrom_2_0 : z_ctH zTb ct_X0_copyFrom_2_0 := sorry
def ct_X0_agrees : zCt := (40, [.inr (.inr (4, 0)), .inl (0, 4294967295), .inr (.inr (4, 2))], [], [], [.inl (some (.inl (2147483648, 2147483649)), [])], 6)
theorem hct_X0_agrees : z_ctH zTb ct_X0_agrees := sorry
def ct_X0_isReframedFrom : zCt := (39, [.inr (.inr (4, 0)), .inl (0, 4294967295), .inr (.inr (4, 2))], [], [(15, 0, 15)], [.inl (some (.inl (2147483648, 2147483649)), [])], 8)
theorem hct_X0_isReframedFrom : z_ctH zTb ct_X0_isReframedFrom := sorry
def ct_X0_isReframed : zCt := (38, [.inr (.inr (4, 0)), .inr (.inr (4, 2))], [], [(15, 0, 15)], [.inl (some (.inl (2147483648, 2147483649)), [])], 10)
theorem hct_X0_isReframed : z_ctH zTb ct_X0_isReframed := sorry
def ct_X0_drawnTurn_0 : zCt := (42, [.inr (.inr (4, 0)), .inl (0, 4294967295), .inl (0, 4294967295)], [], [], [.inl (some (.inl (2147483648, 2147483656)), [])], 7)
theorem hct_X0_drawnTurn_0 : z_ctH zTb ct_X0_drawnTurn_0 := sorry
def ct_X0_drawTurns_0 : zCt := (41, [.inr (.inr (4, 0)), .inl (0, 4294967295)], [], [(12, 0, 31)], [.inl (none, [])], 9)
theorem hct_X0_drawTurns_0 : z_ctH zTb ct_X0_drawTurns_0 := sorry
def ct_X8_size_0 : zCt := (134, [.inr (.inr (1, 0))], [], [], [.inl (some (.inl (2147483648, 2147484048)), [])], 2)
theorem hct_X8_size_0 : z_ctH zTb ct_X8_size_0 := sorry
def ct_X8_byteAt_0 : zCt := (135, [.inr (.inr (1, 0)), .inl (0, 4294967295)], [], [], [.inl (some (.inl (0, 4294967295)), [])], 2)
theorem hct_X8_byteAt_0 : z_ctH zTb ct_X8_byteAt_0 := sorry
def ct_X8_hasRoom_0 : zCt := (130, [.inr (.inr (1, 0)), .inl (0, 4294967295)], [], [], [.inl (some (.inl (2147483648, 2147483649)), [])], 2)
theorem hct_X8_hasRoom_0 : z_ctH zTb ct_X8_hasRoom_0 := sorry
def ct_X8_clearc : zCt := (133, [.inr (.inr (1, 0))], [], [(1, 1, 1)], [.inl (none, [(16385, (2147483648, 2147483648))])], 1)
theorem hct_X8_clearc : z_ctH zTb ct_X8_clearc := sorry
def ct_X5_open_0 : zCt := (89, [.inr (.inr (3, 0))], [], [(3, 1, 1), (3, 5, 5)], [.inl (none, [])], 2)
theorem hct_X5_open_0 : z_ctH zTb ct_X5_open_0 := sorry
def ct_X5_wrong_0 : zCt := (90, [.inr (.inr (3, 0))], [], [], [.inl (some (.inl (0, 4294967295)), [])], 2)
theorem hct_X5_wrong_0 : z_ctH zTb ct_X5_wrong_0 := sorry
def ct_X5_begin_0 : zCt := (91, [.inr (.inr (3, 0))], [], [], [.inl (some (.inl (0, 4294967295)), [])], 2)
theorem hct_X5_begin_0 : z_ctH zTb ct_X5_begin_0 := sorry
def ct_X5_refuse_0 : zCt := (94, [.inr (.inr (3, 0)), .inl (0, 4294967295)], [], [(3, 5, 5)], [.inl (some (.inl (2147483648, 2147483648)), [])], 2)
theorem hct_X5_refuse_0 : z_ctH zTb ct_X5_refuse_0 := sorry
def ct_X5_refuseLatest_0 : zCt := (95, [.inr (.inr (3, 0))], [], [(3, 5, 5)], [.inl (some (.inl (2147483648, 2147483648)), [])], 4)
theorem hct_X5_refuseLatest_0 : z_ctH zTb ct_X5_refuseLatest_0 := sorry
def ct_X5_hasMore : zCt := (97, [.inr (.inr (3, 0))], [], [(3, 1, 1)], [.inl (some (.inl (2147483648, 2147483649)), [])], 4)
theorem hx_size {nS d : Nat} {M : aM} : aC nS (d + 1) 134 [vR 1 0] M (fun v M' => v = some (vI (M.1 1 0 1)) ∧ M = M') (fun _ _ => False) := by
  refine aC_mk rfl rfl ?_
  intro K hK _
  exact hK _ _ _ _ (hK _ _ _ _ (hK _ _ _ _ ⟨rfl, rfl⟩))
set_option maxRecDepth 10000 in
theorem hct_X5_hasMore : z_ctH zTb ct_X5_hasMore := by
  intro nS d as M hd hS hT hG
  obtain ⟨e, rfl⟩ := h_rk hd
  have h1 := h_S1 (by decide) hS
  subst h1
  show aC nS (e + 3 + 1) 97 _ M _ _
  refine aC_mk rfl rfl ?_
  intro K hK hF
  have lp : ∀ (n : Nat) (M1 : aM), 4294967296 - z_b (M1.1 3 0 1) = n → z_M (zTb, [(3, 1, 1)], []) M [] M1 → K 0 [some (vR 3 0)] [] M1 := by
    intro n
    induction n using Nat.strongRecOn with
    | ind n ih =>
    intro M1 hm hM
    have tail : K 43 [some (vR 3 0)] [] M1 := by
      refine hK _ _ _ _ (hK _ _ _ _ (hK _ _ _ _ (hK _ _ _ _ (?_))))
      refine hK _ _ _ _ ⟨_, hx_size, rfl, fun v M2 g => ?_⟩
      obtain ⟨rfl, rfl⟩ := g
      refine hK _ _ _ _ ⟨fun h => ?_, fun h => ?_⟩
      · exact hK _ _ _ _ (hK _ _ _ _ ⟨Or.inl rfl, _, _, List.mem_singleton.mpr rfl, h_bo (Or.inl rfl), hM⟩)
      · exact hK _ _ _ _ (hK _ _ _ _ (hK _ _ _ _ ⟨Or.inr rfl, _, _, List.mem_singleton.mpr rfl, h_bo (Or.inr rfl), hM⟩))
    refine hK _ _ _ _ (hK _ _ _ _ (hK _ _ _ _ (hK _ _ _ _ (?_))))
    refine hK _ _ _ _ ⟨_, hx_size, rfl, fun v M2 g => ?_⟩
    obtain ⟨rfl, rfl⟩ := g
    refine hK _ _ _ _ ⟨fun h => tail, fun h1 => ?_⟩
    refine hK _ _ _ _ (hK _ _ _ _ (hK _ _ _ _ (hK _ _ _ _ (?_))))
    refine hK _ _ _ _ ⟨_, h_pI hct_X8_byteAt_0 rfl rfl rfl (show (2 : Nat) ≤ e + 3 by omega) (h_R (h_I trivial)) hM.1, rfl, fun v M2 g => ?_⟩
    obtain ⟨⟨y, rfl, -⟩, rfl⟩ := g
    refine hK _ _ _ _ (hK _ _ _ _ ⟨fun h => tail, fun h => ?_⟩)
    refine hK _ _ _ _ (hK _ _ _ _ (hK _ _ _ _ (hK _ _ _ _ (hK _ _ _ _ (hK _ _ _ _ (hK _ _ _ _ (?_)))))))
    have hM3 : z_M (zTb, [(3, 1, 1)], []) M [] (a_pI M1 3 0 1 (M1.1 3 0 1 + 1)) := h_Mp hM (by decide) (z_i_top _)
    refine ih _ ?_ _ rfl hM3
    rw [h_pIs]
    exact v_up hm h1
  exact lp _ M rfl (h_M0 hT)
def ct_X5_passWord : zCt := (100, [.inr (.inr (3, 0))], [], [(3, 1, 2)], [.inl (none, [])], 6)
set_option maxRecDepth 10000 in
theorem hct_X5_passWord : z_ctH zTb ct_X5_passWord := by
  intro nS d as M hd hS hT hG
  obtain ⟨e, rfl⟩ := h_rk hd
  have h1 := h_S1 (by decide) hS
  subst h1
  show aC nS (e + 5 + 1) 100 _ M _ _
  refine aC_mk rfl rfl ?_
  intro K hK hF
  have lp : ∀ (n : Nat) (M1 : aM), 4294967296 - z_b (M1.1 3 0 1) = n → z_M (zTb, [(3, 1, 2)], []) M [] M1 → K 13 [some (vR 3 0)] [] M1 := by
    intro n
    induction n using Nat.strongRecOn with
    | ind n ih =>
    intro M1 hm hM
    have tail : K 72 [some (vR 3 0)] [] M1 := hK _ _ _ _ ⟨_, _, List.mem_singleton.mpr rfl, trivial, hM⟩
    refine hK _ _ _ _ (hK _ _ _ _ (hK _ _ _ _ (hK _ _ _ _ (?_))))
    refine hK _ _ _ _ ⟨_, hx_size, rfl, fun v M2 g => ?_⟩
    obtain ⟨rfl, rfl⟩ := g
    refine hK _ _ _ _ ⟨fun h => tail, fun h1 => ?_⟩
    refine hK _ _ _ _ (hK _ _ _ _ (hK _ _ _ _ (hK _ _ _ _ (?_))))
    refine hK _ _ _ _ ⟨_, h_pI hct_X8_byteAt_0 rfl rfl rfl (show (2 : Nat) ≤ e + 5 by omega) (h_R (h_I trivial)) hM.1, rfl, fun v M2 g => ?_⟩
    obtain ⟨⟨y, rfl, -⟩, rfl⟩ := g
    refine hK _ _ _ _ (hK _ _ _ _ ⟨fun h => tail, fun h => ?_⟩)
    refine hK _ _ _ _ (hK _ _ _ _ (hK _ _ _ _ (hK _ _ _ _ (?_))))
    refine hK _ _ _ _ ⟨_, h_pI hct_X8_byteAt_0 rfl rfl rfl (show (2 : Nat) ≤ e + 5 by omega) (h_R (h_I trivial)) hM.1, rfl, fun v M2 g => ?_⟩
    obtain ⟨⟨y, rfl, -⟩, rfl⟩ := g
    refine hK _ _ _ _ (hK _ _ _ _ ⟨fun h => tail, fun h => ?_⟩)
    refine hK _ _ _ _ (hK _ _ _ _ (hK _ _ _ _ (hK _ _ _ _ (hK _ _ _ _ (hK _ _ _ _ (hK _ _ _ _ (?_)))))))
    have hM3 : z_M (zTb, [(3, 1, 2)], []) M [] (a_pI M1 3 0 1 (M1.1 3 0 1 + 1)) := h_Mp hM (by decide) (z_i_top _)
    refine ih _ ?_ _ rfl hM3
    rw [h_pIs]
    exact v_up hm h1
  refine hK _ _ _ _ ?_
  refine hK _ _ _ _ ⟨_, h_pW hct_X5_hasMore rfl rfl (show (4 : Nat) ≤ e + 5 by omega) (h_R trivial) hT, rfl, fun v M2 g => ?_⟩
  obtain ⟨g1, g2⟩ := g
  obtain ⟨y, rfl, -⟩ := h_ovI g1
  have hM2 : z_M (zTb, [(3, 1, 2)], []) M [] M2 := h_Mt (h_M0 hT) g2 (by decide)
  refine hK _ _ _ _ (hK _ _ _ _ (hK _ _ _ _ (hK _ _ _ _ (hK _ _ _ _ (?_)))))
  have hM3 : z_M (zTb, [(3, 1, 2)], []) M [] (a_pI M2 3 0 2 (M2.1 3 0 1)) := h_Mp hM2 (by decide) (z_i_top _)
  exact lp _ _ rfl hM3
def ct_X5_number_0_3 : zCt := (102, [.inr (.inr (3, 0)), .inl (2147483648, 2147483648), .inl (2147483651, 2147483651)], [], [(3, 1, 2), (3, 5, 5)], [.inl (some (.inl (2147483647, 2147483647)), []), .inl (some (.inl (2147483648, 2147483651)), [])], 6)
set_option maxRecDepth 10000 in
theorem hct_X5_number_0_3 : z_ctH zTb ct_X5_number_0_3 := by
  intro nS d as M hd hS hT hG
  obtain ⟨e, rfl⟩ := h_rk hd
  obtain ⟨xl, xh, rfl, hl, hh⟩ := h_S3 (by decide) hS
  show aC nS (e + 5 + 1) 102 _ M _ _
  refine aC_mk rfl rfl ?_
  intro K hK hF
  have lp : ∀ (n : Nat) (M1 : aM) (x3 : Int32), 4294967296 - z_b (M1.1 3 0 1) = n → z_M (zTb, [(3, 1, 2), (3, 5, 5)], []) M [] M1 → K 15 [some (vR 3 0), some (vI xl), some (vI xh), some (vI x3), none] [] M1 := by
    intro n
    induction n using Nat.strongRecOn with
    | ind n ih =>
    intro M1 x3 hm hM
    have tail : K 94 [some (vR 3 0), some (vI xl), some (vI xh), some (vI x3), none] [] M1 := by
      have bad : ∀ x4, K 127 [some (vR 3 0), some (vI xl), some (vI xh), some (vI x3), some (vI x4)] [] M1 := by
        intro x4
        refine hK _ _ _ _ (hK _ _ _ _ (hK _ _ _ _ (?_)))
        refine hK _ _ _ _ ⟨_, h_pW hct_X5_refuse_0 rfl rfl (show (2 : Nat) ≤ e + 5 by omega) (h_R (h_I trivial)) hM.1, rfl, fun v M2 g => ?_⟩
        obtain ⟨g1, g2⟩ := g
        obtain ⟨y, rfl, -⟩ := h_ovI g1
        exact hK _ _ _ _ (hK _ _ _ _ (hK _ _ _ _ ⟨_, _, List.mem_cons_self, ⟨Nat.le_of_eq z_b_m1.symm, Nat.le_of_eq z_b_m1⟩, h_Mt hM g2 (by decide)⟩))
      refine hK _ _ _ _ (hK _ _ _ _ (hK _ _ _ _ (hK _ _ _ _ (hK _ _ _ _ (hK _ _ _ _ (?_))))))
      refine hK _ _ _ _ (hK _ _ _ _ (?_))
      refine hK _ _ _ _ ⟨fun h => bad _, fun h => ?_⟩
      refine hK _ _ _ _ (hK _ _ _ _ (?_))
      refine hK _ _ _ _ ⟨fun h => bad _, fun h => ?_⟩
      refine hK _ _ _ _ (hK _ _ _ _ (?_))
      refine hK _ _ _ _ ⟨fun h => bad _, fun h3 => ?_⟩
      refine hK _ _ _ _ (hK _ _ _ _ (?_))
      refine hK _ _ _ _ ⟨fun h4 => ?_, fun h => bad _⟩
      refine hK _ _ _ _ (hK _ _ _ _ ⟨_, _, List.mem_cons_of_mem _ (List.mem_singleton.mpr rfl), ⟨?_, ?_⟩, hM⟩)
      · exact Nat.le_trans hl.1 (z_b_le.mp (Int32.not_lt.mp h3))
      · exact Nat.le_trans (z_b_le.mp h4) hh.2
    refine hK _ _ _ _ (hK _ _ _ _ (hK _ _ _ _ (hK _ _ _ _ (?_))))
    refine hK _ _ _ _ ⟨_, hx_size, rfl, fun v M2 g => ?_⟩
    obtain ⟨rfl, rfl⟩ := g
    refine hK _ _ _ _ ⟨fun h => tail, fun h1 => ?_⟩
    refine hK _ _ _ _ (hK _ _ _ _ (hK _ _ _ _ (hK _ _ _ _ (?_))))
    refine hK _ _ _ _ ⟨_, h_pI hct_X8_byteAt_0 rfl rfl rfl (show (2 : Nat) ≤ e + 5 by omega) (h_R (h_I trivial)) hM.1, rfl, fun v M2 g => ?_⟩
    obtain ⟨⟨y, rfl, -⟩, rfl⟩ := g
    refine hK _ _ _ _ (hK _ _ _ _ ⟨fun h => tail, fun h => ?_⟩)
    refine hK _ _ _ _ (hK _ _ _ _ (hK _ _ _ _ (hK _ _ _ _ (?_))))
    refine hK _ _ _ _ ⟨_, h_pI hct_X8_byteAt_0 rfl rfl rfl (show (2 : Nat) ≤ e + 5 by omega) (h_R (h_I trivial)) hM.1, rfl, fun v M2 g => ?_⟩
    obtain ⟨⟨y, rfl, -⟩, rfl⟩ := g
    refine hK _ _ _ _ (hK _ _ _ _ ⟨fun h => tail, fun h => ?_⟩)
    refine hK _ _ _ _ (hK _ _ _ _ (hK _ _ _ _ (hK _ _ _ _ (hK _ _ _ _ (hK _ _ _ _ (hK _ _ _ _ (?_)))))))
    refine hK _ _ _ _ ⟨_, h_pI hct_X8_byteAt_0 rfl rfl rfl (show (2 : Nat) ≤ e + 5 by omega) (h_R (h_I trivial)) hM.1, rfl, fun v M2 g => ?_⟩
    obtain ⟨⟨y, rfl, -⟩, rfl⟩ := g
    refine hK _ _ _ _ (hK _ _ _ _ (hK _ _ _ _ (hK _ _ _ _ (hK _ _ _ _ (hK _ _ _ _ (hK _ _ _ _ (hK _ _ _ _ (hK _ _ _ _ (hK _ _ _ _ (hK _ _ _ _ (?_)))))))))))
    have hM3 : z_M (zTb, [(3, 1, 2), (3, 5, 5)], []) M [] (a_pI M1 3 0 1 (M1.1 3 0 1 + 1)) := h_Mp hM (by decide) (z_i_top _)
    refine ih _ ?_ _ _ rfl hM3
    rw [h_pIs]
    exact v_up hm h1
  refine hK _ _ _ _ ?_
  refine hK _ _ _ _ ⟨_, h_pW hct_X5_hasMore rfl rfl (show (4 : Nat) ≤ e + 5 by omega) (h_R trivial) hT, rfl, fun v M2 g => ?_⟩
  obtain ⟨g1, g2⟩ := g
  obtain ⟨y, rfl, -⟩ := h_ovI g1
  have hM2 : z_M (zTb, [(3, 1, 2), (3, 5, 5)], []) M [] M2 := h_Mt (h_M0 hT) g2 (by decide)
  refine hK _ _ _ _ (hK _ _ _ _ (hK _ _ _ _ (hK _ _ _ _ (hK _ _ _ _ (?_)))))
  have hM3 : z_M (zTb, [(3, 1, 2), (3, 5, 5)], []) M [] (a_pI M2 3 0 2 (M2.1 3 0 1)) := h_Mp hM2 (by decide) (z_i_top _)
  refine hK _ _ _ _ (hK _ _ _ _ (?_))
  exact lp _ _ _ rfl hM3
def ct_X5_number_2_8 : zCt := (102, [.inr (.inr (3, 0)), .inl (2147483650, 2147483650), .inl (2147483656, 2147483656)], [], [(3, 1, 2), (3, 5, 5)], [.inl (some (.inl (2147483647, 2147483647)), []), .inl (some (.inl (2147483650, 2147483656)), [])], 6)
set_option maxRecDepth 10000 in
theorem hct_X5_number_2_8 : z_ctH zTb ct_X5_number_2_8 := by
  intro nS d as M hd hS hT hG
  obtain ⟨e, rfl⟩ := h_rk hd
  obtain ⟨xl, xh, rfl, hl, hh⟩ := h_S3 (by decide) hS
  show aC nS (e + 5 + 1) 102 _ M _ _
  refine aC_mk rfl rfl ?_
  intro K hK hF
  have lp : ∀ (n : Nat) (M1 : aM) (x3 : Int32), 4294967296 - z_b (M1.1 3 0 1) = n → z_M (zTb, [(3, 1, 2), (3, 5, 5)], []) M [] M1 → K 15 [some (vR 3 0), some (vI xl), some (vI xh), some (vI x3), none] [] M1 := by
    intro n
    induction n using Nat.strongRecOn with
    | ind n ih =>
    intro M1 x3 hm hM
    have tail : K 94 [some (vR 3 0), some (vI xl), some (vI xh), some (vI x3), none] [] M1 := by
      have bad : ∀ x4, K 127 [some (vR 3 0), some (vI xl), some (vI xh), some (vI x3), some (vI x4)] [] M1 := by
        intro x4
        refine hK _ _ _ _ (hK _ _ _ _ (hK _ _ _ _ (?_)))
        refine hK _ _ _ _ ⟨_, h_pW hct_X5_refuse_0 rfl rfl (show (2 : Nat) ≤ e + 5 by omega) (h_R (h_I trivial)) hM.1, rfl, fun v M2 g => ?_⟩
        obtain ⟨g1, g2⟩ := g
        obtain ⟨y, rfl, -⟩ := h_ovI g1
        exact hK _ _ _ _ (hK _ _ _ _ (hK _ _ _ _ ⟨_, _, List.mem_cons_self, ⟨Nat.le_of_eq z_b_m1.symm, Nat.le_of_eq z_b_m1⟩, h_Mt hM g2 (by decide)⟩))
      refine hK _ _ _ _ (hK _ _ _ _ (hK _ _ _ _ (hK _ _ _ _ (hK _ _ _ _ (hK _ _ _ _ (?_))))))
      refine hK _ _ _ _ (hK _ _ _ _ (?_))
      refine hK _ _ _ _ ⟨fun h => bad _, fun h => ?_⟩
      refine hK _ _ _ _ (hK _ _ _ _ (?_))
      refine hK _ _ _ _ ⟨fun h => bad _, fun h => ?_⟩
      refine hK _ _ _ _ (hK _ _ _ _ (?_))
      refine hK _ _ _ _ ⟨fun h => bad _, fun h3 => ?_⟩
      refine hK _ _ _ _ (hK _ _ _ _ (?_))
      refine hK _ _ _ _ ⟨fun h4 => ?_, fun h => bad _⟩
      refine hK _ _ _ _ (hK _ _ _ _ ⟨_, _, List.mem_cons_of_mem _ (List.mem_singleton.mpr rfl), ⟨?_, ?_⟩, hM⟩)
      · exact Nat.le_trans hl.1 (z_b_le.mp (Int32.not_lt.mp h3))
      · exact Nat.le_trans (z_b_le.mp h4) hh.2
    refine hK _ _ _ _ (hK _ _ _ _ (hK _ _ _ _ (hK _ _ _ _ (?_))))
    refine hK _ _ _ _ ⟨_, hx_size, rfl, fun v M2 g => ?_⟩
    obtain ⟨rfl, rfl⟩ := g
    refine hK _ _ _ _ ⟨fun h => tail, fun h1 => ?_⟩
    refine hK _ _ _ _ (hK _ _ _ _ (hK _ _ _ _ (hK _ _ _ _ (?_))))
    refine hK _ _ _ _ ⟨_, h_pI hct_X8_byteAt_0 rfl rfl rfl (show (2 : Nat) ≤ e + 5 by omega) (h_R (h_I trivial)) hM.1, rfl, fun v M2 g => ?_⟩
    obtain ⟨⟨y, rfl, -⟩, rfl⟩ := g
    refine hK _ _ _ _ (hK _ _ _ _ ⟨fun h => tail, fun h => ?_⟩)
    refine hK _ _ _ _ (hK _ _ _ _ (hK _ _ _ _ (hK _ _ _ _ (?_))))
    refine hK _ _ _ _ ⟨_, h_pI hct_X8_byteAt_0 rfl rfl rfl (show (2 : Nat) ≤ e + 5 by omega) (h_R (h_I trivial)) hM.1, rfl, fun v M2 g => ?_⟩
    obtain ⟨⟨y, rfl, -⟩, rfl⟩ := g
    refine hK _ _ _ _ (hK _ _ _ _ ⟨fun h => tail, fun h => ?_⟩)
    refine hK _ _ _ _ (hK _ _ _ _ (hK _ _ _ _ (hK _ _ _ _ (hK _ _ _ _ (hK _ _ _ _ (hK _ _ _ _ (?_)))))))
    refine hK _ _ _ _ ⟨_, h_pI hct_X8_byteAt_0 rfl rfl rfl (show (2 : Nat) ≤ e + 5 by omega) (h_R (h_I trivial)) hM.1, rfl, fun v M2 g => ?_⟩
    obtain ⟨⟨y, rfl, -⟩, rfl⟩ := g
    refine hK _ _ _ _ (hK _ _ _ _ (hK _ _ _ _ (hK _ _ _ _ (hK _ _ _ _ (hK _ _ _ _ (hK _ _ _ _ (hK _ _ _ _ (hK _ _ _ _ (hK _ _ _ _ (hK _ _ _ _ (?_)))))))))))
    have hM3 : z_M (zTb, [(3, 1, 2), (3, 5, 5)], []) M [] (a_pI M1 3 0 1 (M1.1 3 0 1 + 1)) := h_Mp hM (by decide) (z_i_top _)
    refine ih _ ?_ _ _ rfl hM3
    rw [h_pIs]
    exact v_up hm h1
  refine hK _ _ _ _ ?_
  refine hK _ _ _ _ ⟨_, h_pW hct_X5_hasMore rfl rfl (show (4 : Nat) ≤ e + 5 by omega) (h_R trivial) hT, rfl, fun v M2 g => ?_⟩
  obtain ⟨g1, g2⟩ := g
  obtain ⟨y, rfl, -⟩ := h_ovI g1
  have hM2 : z_M (zTb, [(3, 1, 2), (3, 5, 5)], []) M [] M2 := h_Mt (h_M0 hT) g2 (by decide)
  refine hK _ _ _ _ (hK _ _ _ _ (hK _ _ _ _ (hK _ _ _ _ (hK _ _ _ _ (?_)))))
  have hM3 : z_M (zTb, [(3, 1, 2), (3, 5, 5)], []) M [] (a_pI M2 3 0 2 (M2.1 3 0 1)) := h_Mp hM2 (by decide) (z_i_top _)
  refine hK _ _ _ _ (hK _ _ _ _ (?_))
  exact lp _ _ _ rfl hM3
def ct_X5_number_1_3 : zCt := (102, [.inr (.inr (3, 0)), .inl (2147483649, 2147483649), .inl (2147483651, 2147483651)], [], [(3, 1, 2), (3, 5, 5)], [.inl (some (.inl (2147483647, 2147483647)), []), .inl (some (.inl (2147483649, 2147483651)), [])], 6)
set_option maxRecDepth 10000 in
theorem hct_X5_number_1_3 : z_ctH zTb ct_X5_number_1_3 := by
  intro nS d as M hd hS hT hG
  obtain ⟨e, rfl⟩ := h_rk hd
  obtain ⟨xl, xh, rfl, hl, hh⟩ := h_S3 (by decide) hS
  show aC nS (e + 5 + 1) 102 _ M _ _
  refine aC_mk rfl rfl ?_
  intro K hK hF
  have lp : ∀ (n : Nat) (M1 : aM) (x3 : Int32), 4294967296 - z_b (M1.1 3 0 1) = n → z_M (zTb, [(3, 1, 2), (3, 5, 5)], []) M [] M1 → K 15 [some (vR 3 0), some (vI xl), some (vI xh), some (vI x3), none] [] M1 := by
    intro n
    induction n using Nat.strongRecOn with
    | ind n ih =>
    intro M1 x3 hm hM
    have tail : K 94 [some (vR 3 0), some (vI xl), some (vI xh), some (vI x3), none] [] M1 := by
      have bad : ∀ x4, K 127 [some (vR 3 0), some (vI xl), some (vI xh), some (vI x3), some (vI x4)] [] M1 := by
        intro x4
        refine hK _ _ _ _ (hK _ _ _ _ (hK _ _ _ _ (?_)))
        refine hK _ _ _ _ ⟨_, h_pW hct_X5_refuse_0 rfl rfl (show (2 : Nat) ≤ e + 5 by omega) (h_R (h_I trivial)) hM.1, rfl, fun v M2 g => ?_⟩
        obtain ⟨g1, g2⟩ := g
        obtain ⟨y, rfl, -⟩ := h_ovI g1
        exact hK _ _ _ _ (hK _ _ _ _ (hK _ _ _ _ ⟨_, _, List.mem_cons_self, ⟨Nat.le_of_eq z_b_m1.symm, Nat.le_of_eq z_b_m1⟩, h_Mt hM g2 (by decide)⟩))
      refine hK _ _ _ _ (hK _ _ _ _ (hK _ _ _ _ (hK _ _ _ _ (hK _ _ _ _ (hK _ _ _ _ (?_))))))
      refine hK _ _ _ _ (hK _ _ _ _ (?_))
      refine hK _ _ _ _ ⟨fun h => bad _, fun h => ?_⟩
      refine hK _ _ _ _ (hK _ _ _ _ (?_))
      refine hK _ _ _ _ ⟨fun h => bad _, fun h => ?_⟩
      refine hK _ _ _ _ (hK _ _ _ _ (?_))
      refine hK _ _ _ _ ⟨fun h => bad _, fun h3 => ?_⟩
      refine hK _ _ _ _ (hK _ _ _ _ (?_))
      refine hK _ _ _ _ ⟨fun h4 => ?_, fun h => bad _⟩
      refine hK _ _ _ _ (hK _ _ _ _ ⟨_, _, List.mem_cons_of_mem _ (List.mem_singleton.mpr rfl), ⟨?_, ?_⟩, hM⟩)
      · exact Nat.le_trans hl.1 (z_b_le.mp (Int32.not_lt.mp h3))
      · exact Nat.le_trans (z_b_le.mp h4) hh.2
    refine hK _ _ _ _ (hK _ _ _ _ (hK _ _ _ _ (hK _ _ _ _ (?_))))
    refine hK _ _ _ _ ⟨_, hx_size, rfl, fun v M2 g => ?_⟩
    obtain ⟨rfl, rfl⟩ := g
    refine hK _ _ _ _ ⟨fun h => tail, fun h1 => ?_⟩
    refine hK _ _ _ _ (hK _ _ _ _ (hK _ _ _ _ (hK _ _ _ _ (?_))))
    refine hK _ _ _ _ ⟨_, h_pI hct_X8_byteAt_0 rfl rfl rfl (show (2 : Nat) ≤ e + 5 by omega) (h_R (h_I trivial)) hM.1, rfl, fun v M2 g => ?_⟩
    obtain ⟨⟨y, rfl, -⟩, rfl⟩ := g
    refine hK _ _ _ _ (hK _ _ _ _ ⟨fun h => tail, fun h => ?_⟩)
    refine hK _ _ _ _ (hK _ _ _ _ (hK _ _ _ _ (hK _ _ _ _ (?_))))
    refine hK _ _ _ _ ⟨_, h_pI hct_X8_byteAt_0 rfl rfl rfl (show (2 : Nat) ≤ e + 5 by omega) (h_R (h_I trivial)) hM.1, rfl, fun v M2 g => ?_⟩
    obtain ⟨⟨y, rfl, -⟩, rfl⟩ := g
    refine hK _ _ _ _ (hK _ _ _ _ ⟨fun h => tail, fun h => ?_⟩)
    refine hK _ _ _ _ (hK _ _ _ _ (hK _ _ _ _ (hK _ _ _ _ (hK _ _ _ _ (hK _ _ _ _ (hK _ _ _ _ (?_)))))))
    refine hK _ _ _ _ ⟨_, h_pI hct_X8_byteAt_0 rfl rfl rfl (show (2 : Nat) ≤ e + 5 by omega) (h_R (h_I trivial)) hM.1, rfl, fun v M2 g => ?_⟩
    obtain ⟨⟨y, rfl, -⟩, rfl⟩ := g
    refine hK _ _ _ _ (hK _ _ _ _ (hK _ _ _ _ (hK _ _ _ _ (hK _ _ _ _ (hK _ _ _ _ (hK _ _ _ _ (hK _ _ _ _ (hK _ _ _ _ (hK _ _ _ _ (hK _ _ _ _ (?_)))))))))))
    have hM3 : z_M (zTb, [(3, 1, 2), (3, 5, 5)], []) M [] (a_pI M1 3 0 1 (M1.1 3 0 1 + 1)) := h_Mp hM (by decide) (z_i_top _)
    refine ih _ ?_ _ _ rfl hM3
    rw [h_pIs]
    exact v_up hm h1
  refine hK _ _ _ _ ?_
  refine hK _ _ _ _ ⟨_, h_pW hct_X5_hasMore rfl rfl (show (4 : Nat) ≤ e + 5 by omega) (h_R trivial) hT, rfl, fun v M2 g => ?_⟩
  obtain ⟨g1, g2⟩ := g
  obtain ⟨y, rfl, -⟩ := h_ovI g1
  have hM2 : z_M (zTb, [(3, 1, 2), (3, 5, 5)], []) M [] M2 := h_Mt (h_M0 hT) g2 (by decide)
  refine hK _ _ _ _ (hK _ _ _ _ (hK _ _ _ _ (hK _ _ _ _ (hK _ _ _ _ (?_)))))
  have hM3 : z_M (zTb, [(3, 1, 2), (3, 5, 5)], []) M [] (a_pI M2 3 0 2 (M2.1 3 0 1)) := h_Mp hM2 (by decide) (z_i_top _)
  refine hK _ _ _ _ (hK _ _ _ _ (?_))
  exact lp _ _ _ rfl hM3
def ct_X5_number_0_2 : zCt := (102, [.inr (.inr (3, 0)), .inl (2147483648, 2147483648), .inl (2147483650, 2147483650)], [], [(3, 1, 2), (3, 5, 5)], [.inl (some (.inl (2147483647, 2147483647)), []), .inl (some (.inl (2147483648, 2147483650)), [])], 6)
set_option maxRecDepth 10000 in
theorem hct_X5_number_0_2 : z_ctH zTb ct_X5_number_0_2 := by
  intro nS d as M hd hS hT hG
  obtain ⟨e, rfl⟩ := h_rk hd
  obtain ⟨xl, xh, rfl, hl, hh⟩ := h_S3 (by decide) hS
  show aC nS (e + 5 + 1) 102 _ M _ _
  refine aC_mk rfl rfl ?_
  intro K hK hF
  have lp : ∀ (n : Nat) (M1 : aM) (x3 : Int32), 4294967296 - z_b (M1.1 3 0 1) = n → z_M (zTb, [(3, 1, 2), (3, 5, 5)], []) M [] M1 → K 15 [some (vR 3 0), some (vI xl), some (vI xh), some (vI x3), none] [] M1 := by
    intro n
    induction n using Nat.strongRecOn with
    | ind n ih =>
    intro M1 x3 hm hM
    have tail : K 94 [some (vR 3 0), some (vI xl), some (vI xh), some (vI x3), none] [] M1 := by
      have bad : ∀ x4, K 127 [some (vR 3 0), some (vI xl), some (vI xh), some (vI x3), some (vI x4)] [] M1 := by
        intro x4
        refine hK _ _ _ _ (hK _ _ _ _ (hK _ _ _ _ (?_)))
        refine hK _ _ _ _ ⟨_, h_pW hct_X5_refuse_0 rfl rfl (show (2 : Nat) ≤ e + 5 by omega) (h_R (h_I trivial)) hM.1, rfl, fun v M2 g => ?_⟩
        obtain ⟨g1, g2⟩ := g
        obtain ⟨y, rfl, -⟩ := h_ovI g1
        exact hK _ _ _ _ (hK _ _ _ _ (hK _ _ _ _ ⟨_, _, List.mem_cons_self, ⟨Nat.le_of_eq z_b_m1.symm, Nat.le_of_eq z_b_m1⟩, h_Mt hM g2 (by decide)⟩))
      refine hK _ _ _ _ (hK _ _ _ _ (hK _ _ _ _ (hK _ _ _ _ (hK _ _ _ _ (hK _ _ _ _ (?_))))))
      refine hK _ _ _ _ (hK _ _ _ _ (?_))
      refine hK _ _ _ _ ⟨fun h => bad _, fun h => ?_⟩
      refine hK _ _ _ _ (hK _ _ _ _ (?_))
      refine hK _ _ _ _ ⟨fun h => bad _, fun h => ?_⟩
      refine hK _ _ _ _ (hK _ _ _ _ (?_))
      refine hK _ _ _ _ ⟨fun h => bad _, fun h3 => ?_⟩
      refine hK _ _ _ _ (hK _ _ _ _ (?_))
      refine hK _ _ _ _ ⟨fun h4 => ?_, fun h => bad _⟩
      refine hK _ _ _ _ (hK _ _ _ _ ⟨_, _, List.mem_cons_of_mem _ (List.mem_singleton.mpr rfl), ⟨?_, ?_⟩, hM⟩)
      · exact Nat.le_trans hl.1 (z_b_le.mp (Int32.not_lt.mp h3))
      · exact Nat.le_trans (z_b_le.mp h4) hh.2
    refine hK _ _ _ _ (hK _ _ _ _ (hK _ _ _ _ (hK _ _ _ _ (?_))))
    refine hK _ _ _ _ ⟨_, hx_size, rfl, fun v M2 g => ?_⟩
    obtain ⟨rfl, rfl⟩ := g
    refine hK _ _ _ _ ⟨fun h => tail, fun h1 => ?_⟩
    refine hK _ _ _ _ (hK _ _ _ _ (hK _ _ _ _ (hK _ _ _ _ (?_))))
    refine hK _ _ _ _ ⟨_, h_pI hct_X8_byteAt_0 rfl rfl rfl (show (2 : Nat) ≤ e + 5 by omega) (h_R (h_I trivial)) hM.1, rfl, fun v M2 g => ?_⟩
    obtain ⟨⟨y, rfl, -⟩, rfl⟩ := g
    refine hK _ _ _ _ (hK _ _ _ _ ⟨fun h => tail, fun h => ?_⟩)
    refine hK _ _ _ _ (hK _ _ _ _ (hK _ _ _ _ (hK _ _ _ _ (?_))))
    refine hK _ _ _ _ ⟨_, h_pI hct_X8_byteAt_0 rfl rfl rfl (show (2 : Nat) ≤ e + 5 by omega) (h_R (h_I trivial)) hM.1, rfl, fun v M2 g => ?_⟩
    obtain ⟨⟨y, rfl, -⟩, rfl⟩ := g
    refine hK _ _ _ _ (hK _ _ _ _ ⟨fun h => tail, fun h => ?_⟩)
    refine hK _ _ _ _ (hK _ _ _ _ (hK _ _ _ _ (hK _ _ _ _ (hK _ _ _ _ (hK _ _ _ _ (hK _ _ _ _ (?_)))))))
    refine hK _ _ _ _ ⟨_, h_pI hct_X8_byteAt_0 rfl rfl rfl (show (2 : Nat) ≤ e + 5 by omega) (h_R (h_I trivial)) hM.1, rfl, fun v M2 g => ?_⟩
    obtain ⟨⟨y, rfl, -⟩, rfl⟩ := g
    refine hK _ _ _ _ (hK _ _ _ _ (hK _ _ _ _ (hK _ _ _ _ (hK _ _ _ _ (hK _ _ _ _ (hK _ _ _ _ (hK _ _ _ _ (hK _ _ _ _ (hK _ _ _ _ (hK _ _ _ _ (?_)))))))))))
    have hM3 : z_M (zTb, [(3, 1, 2), (3, 5, 5)], []) M [] (a_pI M1 3 0 1 (M1.1 3 0 1 + 1)) := h_Mp hM (by decide) (z_i_top _)
    refine ih _ ?_ _ _ rfl hM3
    rw [h_pIs]
    exact v_up hm h1
  refine hK _ _ _ _ ?_
  refine hK _ _ _ _ ⟨_, h_pW hct_X5_hasMore rfl rfl (show (4 : Nat) ≤ e + 5 by omega) (h_R trivial) hT, rfl, fun v M2 g => ?_⟩
  obtain ⟨g1, g2⟩ := g
  obtain ⟨y, rfl, -⟩ := h_ovI g1
  have hM2 : z_M (zTb, [(3, 1, 2), (3, 5, 5)], []) M [] M2 := h_Mt (h_M0 hT) g2 (by decide)
  refine hK _ _ _ _ (hK _ _ _ _ (hK _ _ _ _ (hK _ _ _ _ (hK _ _ _ _ (?_)))))
  have hM3 : z_M (zTb, [(3, 1, 2), (3, 5, 5)], []) M [] (a_pI M2 3 0 2 (M2.1 3 0 1)) := h_Mp hM2 (by decide) (z_i_top _)
  refine hK _ _ _ _ (hK _ _ _ _ (?_))
  exact lp _ _ _ rfl hM3
def ct_X5_number_0_9 : zCt := (102, [.inr (.inr (3, 0)), .inl (2147483648, 2147483648), .inl (2147483657, 2147483657)], [], [(3, 1, 2), (3, 5, 5)], [.inl (some (.inl (2147483647, 2147483647)), []), .inl (some (.inl (2147483648, 2147483657)), [])], 6)
set_option maxRecDepth 10000 in
theorem hct_X5_number_0_9 : z_ctH zTb ct_X5_number_0_9 := by
  intro nS d as M hd hS hT hG
  obtain ⟨e, rfl⟩ := h_rk hd
  obtain ⟨xl, xh, rfl, hl, hh⟩ := h_S3 (by decide) hS
  show aC nS (e + 5 + 1) 102 _ M _ _
  refine aC_mk rfl rfl ?_
  intro K hK hF
  have lp : ∀ (n : Nat) (M1 : aM) (x3 : Int32), 4294967296 - z_b (M1.1 3 0 1) = n → z_M (zTb, [(3, 1, 2), (3, 5, 5)], []) M [] M1 → K 15 [some (vR 3 0), some (vI xl), some (vI xh), some (vI x3), none] [] M1 := by
    intro n
    induction n using Nat.strongRecOn with
    | ind n ih =>
    intro M1 x3 hm hM
    have tail : K 94 [some (vR 3 0), some (vI xl), some (vI xh), some (vI x3), none] [] M1 := by
      have bad : ∀ x4, K 127 [some (vR 3 0), some (vI xl), some (vI xh), some (vI x3), some (vI x4)] [] M1 := by
        intro x4
        refine hK _ _ _ _ (hK _ _ _ _ (hK _ _ _ _ (?_)))
        refine hK _ _ _ _ ⟨_, h_pW hct_X5_refuse_0 rfl rfl (show (2 : Nat) ≤ e + 5 by omega) (h_R (h_I trivial)) hM.1, rfl, fun v M2 g => ?_⟩
        obtain ⟨g1, g2⟩ := g
        obtain ⟨y, rfl, -⟩ := h_ovI g1
        exact hK _ _ _ _ (hK _ _ _ _ (hK _ _ _ _ ⟨_, _, List.mem_cons_self, ⟨Nat.le_of_eq z_b_m1.symm, Nat.le_of_eq z_b_m1⟩, h_Mt hM g2 (by decide)⟩))
      refine hK _ _ _ _ (hK _ _ _ _ (hK _ _ _ _ (hK _ _ _ _ (hK _ _ _ _ (hK _ _ _ _ (?_))))))
      refine hK _ _ _ _ (hK _ _ _ _ (?_))
      refine hK _ _ _ _ ⟨fun h => bad _, fun h => ?_⟩
      refine hK _ _ _ _ (hK _ _ _ _ (?_))
      refine hK _ _ _ _ ⟨fun h => bad _, fun h => ?_⟩
      refine hK _ _ _ _ (hK _ _ _ _ (?_))
      refine hK _ _ _ _ ⟨fun h => bad _, fun h3 => ?_⟩
      refine hK _ _ _ _ (hK _ _ _ _ (?_))
      refine hK _ _ _ _ ⟨fun h4 => ?_, fun h => bad _⟩
      refine hK _ _ _ _ (hK _ _ _ _ ⟨_, _, List.mem_cons_of_mem _ (List.mem_singleton.mpr rfl), ⟨?_, ?_⟩, hM⟩)
      · exact Nat.le_trans hl.1 (z_b_le.mp (Int32.not_lt.mp h3))
      · exact Nat.le_trans (z_b_le.mp h4) hh.2
    refine hK _ _ _ _ (hK _ _ _ _ (hK _ _ _ _ (hK _ _ _ _ (?_))))
    refine hK _ _ _ _ ⟨_, hx_size, rfl, fun v M2 g => ?_⟩
    obtain ⟨rfl, rfl⟩ := g
    refine hK _ _ _ _ ⟨fun h => tail, fun h1 => ?_⟩
    refine hK _ _ _ _ (hK _ _ _ _ (hK _ _ _ _ (hK _ _ _ _ (?_))))
    refine hK _ _ _ _ ⟨_, h_pI hct_X8_byteAt_0 rfl rfl rfl (show (2 : Nat) ≤ e + 5 by omega) (h_R (h_I trivial)) hM.1, rfl, fun v M2 g => ?_⟩
    obtain ⟨⟨y, rfl, -⟩, rfl⟩ := g
    refine hK _ _ _ _ (hK _ _ _ _ ⟨fun h => tail, fun h => ?_⟩)
    refine hK _ _ _ _ (hK _ _ _ _ (hK _ _ _ _ (hK _ _ _ _ (?_))))
    refine hK _ _ _ _ ⟨_, h_pI hct_X8_byteAt_0 rfl rfl rfl (show (2 : Nat) ≤ e + 5 by omega) (h_R (h_I trivial)) hM.1, rfl, fun v M2 g => ?_⟩
    obtain ⟨⟨y, rfl, -⟩, rfl⟩ := g
    refine hK _ _ _ _ (hK _ _ _ _ ⟨fun h => tail, fun h => ?_⟩)
    refine hK _ _ _ _ (hK _ _ _ _ (hK _ _ _ _ (hK _ _ _ _ (hK _ _ _ _ (hK _ _ _ _ (hK _ _ _ _ (?_)))))))
    refine hK _ _ _ _ ⟨_, h_pI hct_X8_byteAt_0 rfl rfl rfl (show (2 : Nat) ≤ e + 5 by omega) (h_R (h_I trivial)) hM.1, rfl, fun v M2 g => ?_⟩
    obtain ⟨⟨y, rfl, -⟩, rfl⟩ := g
    refine hK _ _ _ _ (hK _ _ _ _ (hK _ _ _ _ (hK _ _ _ _ (hK _ _ _ _ (hK _ _ _ _ (hK _ _ _ _ (hK _ _ _ _ (hK _ _ _ _ (hK _ _ _ _ (hK _ _ _ _ (?_)))))))))))
    have hM3 : z_M (zTb, [(3, 1, 2), (3, 5, 5)], []) M [] (a_pI M1 3 0 1 (M1.1 3 0 1 + 1)) := h_Mp hM (by decide) (z_i_top _)
    refine ih _ ?_ _ _ rfl hM3
    rw [h_pIs]
    exact v_up hm h1
  refine hK _ _ _ _ ?_
  refine hK _ _ _ _ ⟨_, h_pW hct_X5_hasMore rfl rfl (show (4 : Nat) ≤ e + 5 by omega) (h_R trivial) hT, rfl, fun v M2 g => ?_⟩
  obtain ⟨g1, g2⟩ := g
  obtain ⟨y, rfl, -⟩ := h_ovI g1
  have hM2 : z_M (zTb, [(3, 1, 2), (3, 5, 5)], []) M [] M2 := h_Mt (h_M0 hT) g2 (by decide)
  refine hK _ _ _ _ (hK _ _ _ _ (hK _ _ _ _ (hK _ _ _ _ (hK _ _ _ _ (?_)))))
  have hM3 : z_M (zTb, [(3, 1, 2), (3, 5, 5)], []) M [] (a_pI M2 3 0 2 (M2.1 3 0 1)) := h_Mp hM2 (by decide) (z_i_top _)
  refine hK _ _ _ _ (hK _ _ _ _ (?_))
  exact lp _ _ _ rfl hM3
def ct_X5_number_1_9 : zCt := (102, [.inr (.inr (3, 0)), .inl (2147483649, 2147483649), .inl (2147483657, 2147483657)], [], [(3, 1, 2), (3, 5, 5)], [.inl (some (.inl (2147483647, 2147483647)), []), .inl (some (.inl (2147483649, 2147483657)), [])], 6)
set_option maxRecDepth 10000 in
theorem hct_X5_number_1_9 : z_ctH zTb ct_X5_number_1_9 := by
  intro nS d as M hd hS hT hG
  obtain ⟨e, rfl⟩ := h_rk hd
  obtain ⟨xl, xh, rfl, hl, hh⟩ := h_S3 (by decide) hS
  show aC nS (e + 5 + 1) 102 _ M _ _
  refine aC_mk rfl rfl ?_
  intro K hK hF
  have lp : ∀ (n : Nat) (M1 : aM) (x3 : Int32), 4294967296 - z_b (M1.1 3 0 1) = n → z_M (zTb, [(3, 1, 2), (3, 5, 5)], []) M [] M1 → K 15 [some (vR 3 0), some (vI xl), some (vI xh), some (vI x3), none] [] M1 := by
    intro n
    induction n using Nat.strongRecOn with
    | ind n ih =>
    intro M1 x3 hm hM
    have tail : K 94 [some (vR 3 0), some (vI xl), some (vI xh), some (vI x3), none] [] M1 := by
      have bad : ∀ x4, K 127 [some (vR 3 0), some (vI xl), some (vI xh), some (vI x3), some (vI x4)] [] M1 := by
        intro x4
        refine hK _ _ _ _ (hK _ _ _ _ (hK _ _ _ _ (?_)))
        refine hK _ _ _ _ ⟨_, h_pW hct_X5_refuse_0 rfl rfl (show (2 : Nat) ≤ e + 5 by omega) (h_R (h_I trivial)) hM.1, rfl, fun v M2 g => ?_⟩
        obtain ⟨g1, g2⟩ := g
        obtain ⟨y, rfl, -⟩ := h_ovI g1
        exact hK _ _ _ _ (hK _ _ _ _ (hK _ _ _ _ ⟨_, _, List.mem_cons_self, ⟨Nat.le_of_eq z_b_m1.symm, Nat.le_of_eq z_b_m1⟩, h_Mt hM g2 (by decide)⟩))
      refine hK _ _ _ _ (hK _ _ _ _ (hK _ _ _ _ (hK _ _ _ _ (hK _ _ _ _ (hK _ _ _ _ (?_))))))
      refine hK _ _ _ _ (hK _ _ _ _ (?_))
      refine hK _ _ _ _ ⟨fun h => bad _, fun h => ?_⟩
      refine hK _ _ _ _ (hK _ _ _ _ (?_))
      refine hK _ _ _ _ ⟨fun h => bad _, fun h => ?_⟩
      refine hK _ _ _ _ (hK _ _ _ _ (?_))
      refine hK _ _ _ _ ⟨fun h => bad _, fun h3 => ?_⟩
      refine hK _ _ _ _ (hK _ _ _ _ (?_))
      refine hK _ _ _ _ ⟨fun h4 => ?_, fun h => bad _⟩
      refine hK _ _ _ _ (hK _ _ _ _ ⟨_, _, List.mem_cons_of_mem _ (List.mem_singleton.mpr rfl), ⟨?_, ?_⟩, hM⟩)
      · exact Nat.le_trans hl.1 (z_b_le.mp (Int32.not_lt.mp h3))
      · exact Nat.le_trans (z_b_le.mp h4) hh.2
    refine hK _ _ _ _ (hK _ _ _ _ (hK _ _ _ _ (hK _ _ _ _ (?_))))
    refine hK _ _ _ _ ⟨_, hx_size, rfl, fun v M2 g => ?_⟩
    obtain ⟨rfl, rfl⟩ := g
    refine hK _ _ _ _ ⟨fun h => tail, fun h1 => ?_⟩
    refine hK _ _ _ _ (hK _ _ _ _ (hK _ _ _ _ (hK _ _ _ _ (?_))))
    refine hK _ _ _ _ ⟨_, h_pI hct_X8_byteAt_0 rfl rfl rfl (show (2 : Nat) ≤ e + 5 by omega) (h_R (h_I trivial)) hM.1, rfl, fun v M2 g => ?_⟩
    obtain ⟨⟨y, rfl, -⟩, rfl⟩ := g
    refine hK _ _ _ _ (hK _ _ _ _ ⟨fun h => tail, fun h => ?_⟩)
    refine hK _ _ _ _ (hK _ _ _ _ (hK _ _ _ _ (hK _ _ _ _ (?_))))
    refine hK _ _ _ _ ⟨_, h_pI hct_X8_byteAt_0 rfl rfl rfl (show (2 : Nat) ≤ e + 5 by omega) (h_R (h_I trivial)) hM.1, rfl, fun v M2 g => ?_⟩
    obtain ⟨⟨y, rfl, -⟩, rfl⟩ := g
    refine hK _ _ _ _ (hK _ _ _ _ ⟨fun h => tail, fun h => ?_⟩)
    refine hK _ _ _ _ (hK _ _ _ _ (hK _ _ _ _ (hK _ _ _ _ (hK _ _ _ _ (hK _ _ _ _ (hK _ _ _ _ (?_)))))))
    refine hK _ _ _ _ ⟨_, h_pI hct_X8_byteAt_0 rfl rfl rfl (show (2 : Nat) ≤ e + 5 by omega) (h_R (h_I trivial)) hM.1, rfl, fun v M2 g => ?_⟩
    obtain ⟨⟨y, rfl, -⟩, rfl⟩ := g
    refine hK _ _ _ _ (hK _ _ _ _ (hK _ _ _ _ (hK _ _ _ _ (hK _ _ _ _ (hK _ _ _ _ (hK _ _ _ _ (hK _ _ _ _ (hK _ _ _ _ (hK _ _ _ _ (hK _ _ _ _ (?_)))))))))))
    have hM3 : z_M (zTb, [(3, 1, 2), (3, 5, 5)], []) M [] (a_pI M1 3 0 1 (M1.1 3 0 1 + 1)) := h_Mp hM (by decide) (z_i_top _)
    refine ih _ ?_ _ _ rfl hM3
    rw [h_pIs]
    exact v_up hm h1
  refine hK _ _ _ _ ?_
  refine hK _ _ _ _ ⟨_, h_pW hct_X5_hasMore rfl rfl (show (4 : Nat) ≤ e + 5 by omega) (h_R trivial) hT, rfl, fun v M2 g => ?_⟩
  obtain ⟨g1, g2⟩ := g
  obtain ⟨y, rfl, -⟩ := h_ovI g1
  have hM2 : z_M (zTb, [(3, 1, 2), (3, 5, 5)], []) M [] M2 := h_Mt (h_M0 hT) g2 (by decide)
  refine hK _ _ _ _ (hK _ _ _ _ (hK _ _ _ _ (hK _ _ _ _ (hK _ _ _ _ (?_)))))
  have hM3 : z_M (zTb, [(3, 1, 2), (3, 5, 5)], []) M [] (a_pI M2 3 0 2 (M2.1 3 0 1)) := h_Mp hM2 (by decide) (z_i_top _)
  refine hK _ _ _ _ (hK _ _ _ _ (?_))
  exact lp _ _ _ rfl hM3
def ct_X5_number_t : zCt := (102, [.inr (.inr (3, 0)), .inl (2147483648, 2147483648), .inl (2147483649, 2147483655)], [], [(3, 1, 2), (3, 5, 5)], [.inl (some (.inl (2147483647, 2147483647)), []), .inl (some (.inl (2147483648, 2147483655)), [])], 6)
set_option maxRecDepth 10000 in
theorem hct_X5_number_t : z_ctH zTb ct_X5_number_t := by
  intro nS d as M hd hS hT hG
  obtain ⟨e, rfl⟩ := h_rk hd
  obtain ⟨xl, xh, rfl, hl, hh⟩ := h_S3 (by decide) hS
  show aC nS (e + 5 + 1) 102 _ M _ _
  refine aC_mk rfl rfl ?_
  intro K hK hF
  have lp : ∀ (n : Nat) (M1 : aM) (x3 : Int32), 4294967296 - z_b (M1.1 3 0 1) = n → z_M (zTb, [(3, 1, 2), (3, 5, 5)], []) M [] M1 → K 15 [some (vR 3 0), some (vI xl), some (vI xh), some (vI x3), none] [] M1 := by
    intro n
    induction n using Nat.strongRecOn with
    | ind n ih =>
    intro M1 x3 hm hM
    have tail : K 94 [some (vR 3 0), some (vI xl), some (vI xh), some (vI x3), none] [] M1 := by
      have bad : ∀ x4, K 127 [some (vR 3 0), some (vI xl), some (vI xh), some (vI x3), some (vI x4)] [] M1 := by
        intro x4
        refine hK _ _ _ _ (hK _ _ _ _ (hK _ _ _ _ (?_)))
        refine hK _ _ _ _ ⟨_, h_pW hct_X5_refuse_0 rfl rfl (show (2 : Nat) ≤ e + 5 by omega) (h_R (h_I trivial)) hM.1, rfl, fun v M2 g => ?_⟩
        obtain ⟨g1, g2⟩ := g
        obtain ⟨y, rfl, -⟩ := h_ovI g1
        exact hK _ _ _ _ (hK _ _ _ _ (hK _ _ _ _ ⟨_, _, List.mem_cons_self, ⟨Nat.le_of_eq z_b_m1.symm, Nat.le_of_eq z_b_m1⟩, h_Mt hM g2 (by decide)⟩))
      refine hK _ _ _ _ (hK _ _ _ _ (hK _ _ _ _ (hK _ _ _ _ (hK _ _ _ _ (hK _ _ _ _ (?_))))))
      refine hK _ _ _ _ (hK _ _ _ _ (?_))
      refine hK _ _ _ _ ⟨fun h => bad _, fun h => ?_⟩
      refine hK _ _ _ _ (hK _ _ _ _ (?_))
      refine hK _ _ _ _ ⟨fun h => bad _, fun h => ?_⟩
      refine hK _ _ _ _ (hK _ _ _ _ (?_))
      refine hK _ _ _ _ ⟨fun h => bad _, fun h3 => ?_⟩
      refine hK _ _ _ _ (hK _ _ _ _ (?_))
      refine hK _ _ _ _ ⟨fun h4 => ?_, fun h => bad _⟩
      refine hK _ _ _ _ (hK _ _ _ _ ⟨_, _, List.mem_cons_of_mem _ (List.mem_singleton.mpr rfl), ⟨?_, ?_⟩, hM⟩)
      · exact Nat.le_trans hl.1 (z_b_le.mp (Int32.not_lt.mp h3))
      · exact Nat.le_trans (z_b_le.mp h4) hh.2
    refine hK _ _ _ _ (hK _ _ _ _ (hK _ _ _ _ (hK _ _ _ _ (?_))))
    refine hK _ _ _ _ ⟨_, hx_size, rfl, fun v M2 g => ?_⟩
    obtain ⟨rfl, rfl⟩ := g
    refine hK _ _ _ _ ⟨fun h => tail, fun h1 => ?_⟩
    refine hK _ _ _ _ (hK _ _ _ _ (hK _ _ _ _ (hK _ _ _ _ (?_))))
    refine hK _ _ _ _ ⟨_, h_pI hct_X8_byteAt_0 rfl rfl rfl (show (2 : Nat) ≤ e + 5 by omega) (h_R (h_I trivial)) hM.1, rfl, fun v M2 g => ?_⟩
    obtain ⟨⟨y, rfl, -⟩, rfl⟩ := g
    refine hK _ _ _ _ (hK _ _ _ _ ⟨fun h => tail, fun h => ?_⟩)
    refine hK _ _ _ _ (hK _ _ _ _ (hK _ _ _ _ (hK _ _ _ _ (?_))))
    refine hK _ _ _ _ ⟨_, h_pI hct_X8_byteAt_0 rfl rfl rfl (show (2 : Nat) ≤ e + 5 by omega) (h_R (h_I trivial)) hM.1, rfl, fun v M2 g => ?_⟩
    obtain ⟨⟨y, rfl, -⟩, rfl⟩ := g
    refine hK _ _ _ _ (hK _ _ _ _ ⟨fun h => tail, fun h => ?_⟩)
    refine hK _ _ _ _ (hK _ _ _ _ (hK _ _ _ _ (hK _ _ _ _ (hK _ _ _ _ (hK _ _ _ _ (hK _ _ _ _ (?_)))))))
    refine hK _ _ _ _ ⟨_, h_pI hct_X8_byteAt_0 rfl rfl rfl (show (2 : Nat) ≤ e + 5 by omega) (h_R (h_I trivial)) hM.1, rfl, fun v M2 g => ?_⟩
    obtain ⟨⟨y, rfl, -⟩, rfl⟩ := g
    refine hK _ _ _ _ (hK _ _ _ _ (hK _ _ _ _ (hK _ _ _ _ (hK _ _ _ _ (hK _ _ _ _ (hK _ _ _ _ (hK _ _ _ _ (hK _ _ _ _ (hK _ _ _ _ (hK _ _ _ _ (?_)))))))))))
    have hM3 : z_M (zTb, [(3, 1, 2), (3, 5, 5)], []) M [] (a_pI M1 3 0 1 (M1.1 3 0 1 + 1)) := h_Mp hM (by decide) (z_i_top _)
    refine ih _ ?_ _ _ rfl hM3
    rw [h_pIs]
    exact v_up hm h1
  refine hK _ _ _ _ ?_
  refine hK _ _ _ _ ⟨_, h_pW hct_X5_hasMore rfl rfl (show (4 : Nat) ≤ e + 5 by omega) (h_R trivial) hT, rfl, fun v M2 g => ?_⟩
  obtain ⟨g1, g2⟩ := g
  obtain ⟨y, rfl, -⟩ := h_ovI g1
  have hM2 : z_M (zTb, [(3, 1, 2), (3, 5, 5)], []) M [] M2 := h_Mt (h_M0 hT) g2 (by decide)
  refine hK _ _ _ _ (hK _ _ _ _ (hK _ _ _ _ (hK _ _ _ _ (hK _ _ _ _ (?_)))))
  have hM3 : z_M (zTb, [(3, 1, 2), (3, 5, 5)], []) M [] (a_pI M2 3 0 2 (M2.1 3 0 1)) := h_Mp hM2 (by decide) (z_i_top _)
  refine hK _ _ _ _ (hK _ _ _ _ (?_))
  exact lp _ _ _ rfl hM3
def ct_X5_refuseNext_0 : zCt := (96, [.inr (.inr (3, 0))], [], [(3, 1, 1), (3, 5, 5)], [.inl (some (.inl (2147483648, 2147483648)), [])], 6)
theorem hct_X5_refuseNext_0 : z_ctH zTb ct_X5_refuseNext_0 := sorry
def ct_X5_isEnded_0 : zCt := (98, [.inr (.inr (3, 0))], [], [(3, 1, 1), (3, 5, 5)], [.inl (some (.inl (2147483648, 2147483649)), [])], 6)
theorem hct_X5_isEnded_0 : z_ctH zTb ct_X5_isEnded_0 := sorry
def ct_X5_passSemicolon_0 : zCt := (99, [.inr (.inr (3, 0))], [], [(3, 1, 1)], [.inl (some (.inl (2147483648, 2147483649)), [])], 6)
theorem hct_X5_passSemicolon_0 : z_ctH zTb ct_X5_passSemicolon_0 := sorry
def ct_X5_isWord_100 : zCt := (101, [.inr (.inr (3, 0)), .inr (.inr (100, 0))], [], [], [.inl (some (.inl (2147483648, 2147483649)), [])], 8)
theorem hct_X5_isWord_100 : z_ctH zTb ct_X5_isWord_100 := sorry
def ct_X5_isWord_101 : zCt := (101, [.inr (.inr (3, 0)), .inr (.inr (101, 0))], [], [], [.inl (some (.inl (2147483648, 2147483649)), [])], 8)
theorem hct_X5_isWord_101 : z_ctH zTb ct_X5_isWord_101 := sorry
def ct_X5_isWord_102 : zCt := (101, [.inr (.inr (3, 0)), .inr (.inr (102, 0))], [], [], [.inl (some (.inl (2147483648, 2147483649)), [])], 8)
theorem hct_X5_isWord_102 : z_ctH zTb ct_X5_isWord_102 := sorry
def ct_X5_isWord_103 : zCt := (101, [.inr (.inr (3, 0)), .inr (.inr (103, 0))], [], [], [.inl (some (.inl (2147483648, 2147483649)), [])], 8)
theorem hct_X5_isWord_103 : z_ctH zTb ct_X5_isWord_103 := sorry
def ct_X5_isWord_104 : zCt := (101, [.inr (.inr (3, 0)), .inr (.inr (104, 0))], [], [], [.inl (some (.inl (2147483648, 2147483649)), [])], 8)
theorem hct_X5_isWord_104 : z_ctH zTb ct_X5_isWord_104 := sorry
def ct_X5_isWord_105 : zCt := (101, [.inr (.inr (3, 0)), .inr (.inr (105, 0))], [], [], [.inl (some (.inl (2147483648, 2147483649)), [])], 8)
theorem hct_X5_isWord_105 : z_ctH zTb ct_X5_isWord_105 := sorry
def ct_X5_isWord_106 : zCt := (101, [.inr (.inr (3, 0)), .inr (.inr (106, 0))], [], [], [.inl (some (.inl (2147483648, 2147483649)), [])], 8)
theorem hct_X5_isWord_106 : z_ctH zTb ct_X5_isWord_106 := sorry
def ct_X5_isWord_107 : zCt := (101, [.inr (.inr (3, 0)), .inr (.inr (107, 0))], [], [], [.inl (some (.inl (2147483648, 2147483649)), [])], 8)
theorem hct_X5_isWord_107 : z_ctH zTb ct_X5_isWord_107 := sorry
def ct_X5_isWord_108 : zCt := (101, [.inr (.inr (3, 0)), .inr (.inr (108, 0))], [], [], [.inl (some (.inl (2147483648, 2147483649)), [])], 8)
theorem hct_X5_isWord_108 : z_ctH zTb ct_X5_isWord_108 := sorry
def ct_X5_isWord_109 : zCt := (101, [.inr (.inr (3, 0)), .inr (.inr (109, 0))], [], [], [.inl (some (.inl (2147483648, 2147483649)), [])], 8)
theorem hct_X5_isWord_109 : z_ctH zTb ct_X5_isWord_109 := sorry
def ct_X5_isWord_110 : zCt := (101, [.inr (.inr (3, 0)), .inr (.inr (110, 0))], [], [], [.inl (some (.inl (2147483648, 2147483649)), [])], 8)
theorem hct_X5_isWord_110 : z_ctH zTb ct_X5_isWord_110 := sorry
def ct_X5_isWord_111 : zCt := (101, [.inr (.inr (3, 0)), .inr (.inr (111, 0))], [], [], [.inl (some (.inl (2147483648, 2147483649)), [])], 8)
theorem hct_X5_isWord_111 : z_ctH zTb ct_X5_isWord_111 := sorry
def ct_X5_passTwo_0_3_2_8 : zCt := (103, [.inr (.inr (3, 0)), .inl (2147483648, 2147483648), .inl (2147483651, 2147483651), .inl (2147483650, 2147483650), .inl (2147483656, 2147483656)], [], [(3, 1, 5)], [.inl (some (.inl (2147483649, 2147483649)), [(49156, (2147483650, 2147483656)), (49155, (2147483648, 2147483651))]), .inl (some (.inl (2147483648, 2147483648)), [(49156, (2147483647, 2147483647)), (49155, (2147483647, 2147483651))])], 8)
theorem hct_X5_passTwo_0_3_2_8 : z_ctH zTb ct_X5_passTwo_0_3_2_8 := sorry
def ct_X5_passTwo_1_3_1_3 : zCt := (103, [.inr (.inr (3, 0)), .inl (2147483649, 2147483649), .inl (2147483651, 2147483651), .inl (2147483649, 2147483649), .inl (2147483651, 2147483651)], [], [(3, 1, 5)], [.inl (some (.inl (2147483649, 2147483649)), [(49156, (2147483649, 2147483651)), (49155, (2147483649, 2147483651))]), .inl (some (.inl (2147483648, 2147483648)), [(49156, (2147483647, 2147483647)), (49155, (2147483647, 2147483651))])], 8)
theorem hct_X5_passTwo_1_3_1_3 : z_ctH zTb ct_X5_passTwo_1_3_1_3 := sorry
def ct_X5_passTwo_0_3_0_3 : zCt := (103, [.inr (.inr (3, 0)), .inl (2147483648, 2147483648), .inl (2147483651, 2147483651), .inl (2147483648, 2147483648), .inl (2147483651, 2147483651)], [], [(3, 1, 5)], [.inl (some (.inl (2147483649, 2147483649)), [(49156, (2147483648, 2147483651)), (49155, (2147483648, 2147483651))]), .inl (some (.inl (2147483648, 2147483648)), [(49156, (2147483647, 2147483647)), (49155, (2147483647, 2147483651))])], 8)
theorem hct_X5_passTwo_0_3_0_3 : z_ctH zTb ct_X5_passTwo_0_3_0_3 := sorry
def ct_X5_passTwo_w : zCt := (103, [.inr (.inr (3, 0)), .inl (2147483648, 2147483648), .inl (2147483649, 2147483655), .inl (2147483648, 2147483648), .inl (2147483657, 2147483657)], [], [(3, 1, 5)], [.inl (some (.inl (2147483649, 2147483649)), [(49156, (2147483648, 2147483657)), (49155, (2147483648, 2147483655))]), .inl (some (.inl (2147483648, 2147483648)), [(49156, (2147483647, 2147483647)), (49155, (2147483647, 2147483655))])], 8)
theorem hct_X5_passTwo_w : z_ctH zTb ct_X5_passTwo_w := sorry
def ct_X1_readGroup : zCt := (45, [.inr (.inr (16, 0))], [], [(3, 1, 5), (5, 0, 2), (6, 0, 63), (7, 0, 7), (8, 0, 7), (9, 0, 7), (10, 0, 7), (11, 0, 7), (12, 0, 31), (13, 0, 7)], [.inl (some (.inl (2147483648, 2147483649)), [(49156, (2147483647, 2147483656)), (49155, (2147483647, 2147483651))])], 10)
theorem hct_X1_readGroup : z_ctH zTb ct_X1_readGroup := sorry
def ct_X1_readSize : zCt := (46, [.inr (.inr (16, 0))], [], [(3, 1, 5), (4, 1, 3), (4, 5, 6), (12, 0, 31), (14, 0, 15)], [.inl (some (.inl (2147483648, 2147483649)), [(49156, (2147483647, 2147483651)), (49155, (2147483647, 2147483651))])], 10)
theorem hct_X1_readSize : z_ctH zTb ct_X1_readSize := sorry
def ct_X1_readShape : zCt := (47, [.inr (.inr (16, 0))], [], [(3, 1, 2), (3, 5, 5), (4, 1, 3), (4, 5, 6), (12, 0, 31), (14, 0, 15)], [.inl (some (.inl (2147483648, 2147483649)), [])], 8)
theorem hct_X1_readShape : z_ctH zTb ct_X1_readShape := sorry
def ct_X1_readWeight : zCt := (48, [.inr (.inr (16, 0))], [], [(3, 1, 5), (13, 0, 7)], [.inl (some (.inl (2147483648, 2147483649)), [(49156, (2147483647, 2147483657)), (49155, (2147483647, 2147483655))])], 10)
theorem hct_X1_readWeight : z_ctH zTb ct_X1_readWeight := sorry
def ct_X1_readHole : zCt := (49, [.inr (.inr (16, 0))], [], [(3, 1, 5), (14, 0, 15)], [.inl (some (.inl (2147483648, 2147483649)), [(49156, (2147483647, 2147483651)), (49155, (2147483647, 2147483651))])], 10)
theorem hct_X1_readHole : z_ctH zTb ct_X1_readHole := sorry
def ct_X1_readLine : zCt := (50, [.inr (.inr (16, 0)), .inl (2147483648, 2147483649)], [], [(3, 1, 5), (12, 0, 31)], [.inl (some (.inl (2147483648, 2147483649)), [(49156, (2147483647, 2147483651)), (49155, (2147483647, 2147483651))])], 10)
theorem hct_X1_readLine : z_ctH zTb ct_X1_readLine := sorry
def ct_X1_readPart : zCt := (44, [.inr (.inr (16, 0))], [], [(3, 1, 5), (4, 1, 3), (4, 5, 6), (5, 0, 2), (6, 0, 63), (7, 0, 7), (8, 0, 7), (9, 0, 7), (10, 0, 7), (11, 0, 7), (12, 0, 31), (13, 0, 7), (14, 0, 15)], [.inl (some (.inl (2147483648, 2147483649)), [])], 12)
theorem hct_X1_readPart : z_ctH zTb ct_X1_readPart := sorry
def ct_X1_read : zCt := (43, [.inr (.inr (16, 0))], [], [(3, 1, 5), (4, 1, 3), (4, 5, 6), (5, 0, 2), (6, 0, 63), (7, 0, 7), (8, 0, 7), (9, 0, 7), (10, 0, 7), (11, 0, 7), (12, 0, 31), (13, 0, 7), (14, 0, 15)], [.inl (some (.inl (2147483648, 2147483649)), [])], 14)
theorem hct_X1_read : z_ctH zTb ct_X1_read := sorry
def ct_X5_number_w : zCt := (102, [.inr (.inr (3, 0)), .inl (2147483648, 2147483648), .inl (2147483649, 2147483651)], [], [(3, 1, 2), (3, 5, 5)], [.inl (some (.inl (2147483647, 2147483647)), []), .inl (some (.inl (2147483648, 2147483651)), [])], 6)
set_option maxRecDepth 10000 in
theorem hct_X5_number_w : z_ctH zTb ct_X5_number_w := by
  intro nS d as M hd hS hT hG
  obtain ⟨e, rfl⟩ := h_rk hd
  obtain ⟨xl, xh, rfl, hl, hh⟩ := h_S3 (by decide) hS
  show aC nS (e + 5 + 1) 102 _ M _ _
  refine aC_mk rfl rfl ?_
  intro K hK hF
  have lp : ∀ (n : Nat) (M1 : aM) (x3 : Int32), 4294967296 - z_b (M1.1 3 0 1) = n → z_M (zTb, [(3, 1, 2), (3, 5, 5)], []) M [] M1 → K 15 [some (vR 3 0), some (vI xl), some (vI xh), some (vI x3), none] [] M1 := by
    intro n
    induction n using Nat.strongRecOn with
    | ind n ih =>
    intro M1 x3 hm hM
    have tail : K 94 [some (vR 3 0), some (vI xl), some (vI xh), some (vI x3), none] [] M1 := by
      have bad : ∀ x4, K 127 [some (vR 3 0), some (vI xl), some (vI xh), some (vI x3), some (vI x4)] [] M1 := by
        intro x4
        refine hK _ _ _ _ (hK _ _ _ _ (hK _ _ _ _ (?_)))
        refine hK _ _ _ _ ⟨_, h_pW hct_X5_refuse_0 rfl rfl (show (2 : Nat) ≤ e + 5 by omega) (h_R (h_I trivial)) hM.1, rfl, fun v M2 g => ?_⟩
        obtain ⟨g1, g2⟩ := g
        obtain ⟨y, rfl, -⟩ := h_ovI g1
        exact hK _ _ _ _ (hK _ _ _ _ (hK _ _ _ _ ⟨_, _, List.mem_cons_self, ⟨Nat.le_of_eq z_b_m1.symm, Nat.le_of_eq z_b_m1⟩, h_Mt hM g2 (by decide)⟩))
      refine hK _ _ _ _ (hK _ _ _ _ (hK _ _ _ _ (hK _ _ _ _ (hK _ _ _ _ (hK _ _ _ _ (?_))))))
      refine hK _ _ _ _ (hK _ _ _ _ (?_))
      refine hK _ _ _ _ ⟨fun h => bad _, fun h => ?_⟩
      refine hK _ _ _ _ (hK _ _ _ _ (?_))
      refine hK _ _ _ _ ⟨fun h => bad _, fun h => ?_⟩
      refine hK _ _ _ _ (hK _ _ _ _ (?_))
      refine hK _ _ _ _ ⟨fun h => bad _, fun h3 => ?_⟩
      refine hK _ _ _ _ (hK _ _ _ _ (?_))
      refine hK _ _ _ _ ⟨fun h4 => ?_, fun h => bad _⟩
      refine hK _ _ _ _ (hK _ _ _ _ ⟨_, _, List.mem_cons_of_mem _ (List.mem_singleton.mpr rfl), ⟨?_, ?_⟩, hM⟩)
      · exact Nat.le_trans hl.1 (z_b_le.mp (Int32.not_lt.mp h3))
      · exact Nat.le_trans (z_b_le.mp h4) hh.2
    refine hK _ _ _ _ (hK _ _ _ _ (hK _ _ _ _ (hK _ _ _ _ (?_))))
    refine hK _ _ _ _ ⟨_, hx_size, rfl, fun v M2 g => ?_⟩
    obtain ⟨rfl, rfl⟩ := g
    refine hK _ _ _ _ ⟨fun h => tail, fun h1 => ?_⟩
    refine hK _ _ _ _ (hK _ _ _ _ (hK _ _ _ _ (hK _ _ _ _ (?_))))
    refine hK _ _ _ _ ⟨_, h_pI hct_X8_byteAt_0 rfl rfl rfl (show (2 : Nat) ≤ e + 5 by omega) (h_R (h_I trivial)) hM.1, rfl, fun v M2 g => ?_⟩
    obtain ⟨⟨y, rfl, -⟩, rfl⟩ := g
    refine hK _ _ _ _ (hK _ _ _ _ ⟨fun h => tail, fun h => ?_⟩)
    refine hK _ _ _ _ (hK _ _ _ _ (hK _ _ _ _ (hK _ _ _ _ (?_))))
    refine hK _ _ _ _ ⟨_, h_pI hct_X8_byteAt_0 rfl rfl rfl (show (2 : Nat) ≤ e + 5 by omega) (h_R (h_I trivial)) hM.1, rfl, fun v M2 g => ?_⟩
    obtain ⟨⟨y, rfl, -⟩, rfl⟩ := g
    refine hK _ _ _ _ (hK _ _ _ _ ⟨fun h => tail, fun h => ?_⟩)
    refine hK _ _ _ _ (hK _ _ _ _ (hK _ _ _ _ (hK _ _ _ _ (hK _ _ _ _ (hK _ _ _ _ (hK _ _ _ _ (?_)))))))
    refine hK _ _ _ _ ⟨_, h_pI hct_X8_byteAt_0 rfl rfl rfl (show (2 : Nat) ≤ e + 5 by omega) (h_R (h_I trivial)) hM.1, rfl, fun v M2 g => ?_⟩
    obtain ⟨⟨y, rfl, -⟩, rfl⟩ := g
    refine hK _ _ _ _ (hK _ _ _ _ (hK _ _ _ _ (hK _ _ _ _ (hK _ _ _ _ (hK _ _ _ _ (hK _ _ _ _ (hK _ _ _ _ (hK _ _ _ _ (hK _ _ _ _ (hK _ _ _ _ (?_)))))))))))
    have hM3 : z_M (zTb, [(3, 1, 2), (3, 5, 5)], []) M [] (a_pI M1 3 0 1 (M1.1 3 0 1 + 1)) := h_Mp hM (by decide) (z_i_top _)
    refine ih _ ?_ _ _ rfl hM3
    rw [h_pIs]
    exact v_up hm h1
  refine hK _ _ _ _ ?_
  refine hK _ _ _ _ ⟨_, h_pW hct_X5_hasMore rfl rfl (show (4 : Nat) ≤ e + 5 by omega) (h_R trivial) hT, rfl, fun v M2 g => ?_⟩
  obtain ⟨g1, g2⟩ := g
  obtain ⟨y, rfl, -⟩ := h_ovI g1
  have hM2 : z_M (zTb, [(3, 1, 2), (3, 5, 5)], []) M [] M2 := h_Mt (h_M0 hT) g2 (by decide)
  refine hK _ _ _ _ (hK _ _ _ _ (hK _ _ _ _ (hK _ _ _ _ (hK _ _ _ _ (?_)))))
  have hM3 : z_M (zTb, [(3, 1, 2), (3, 5, 5)], []) M [] (a_pI M2 3 0 2 (M2.1 3 0 1)) := h_Mp hM2 (by decide) (z_i_top _)
  refine hK _ _ _ _ (hK _ _ _ _ (?_))
  exact lp _ _ _ rfl hM3
def ct_X5_passTwo_f : zCt := (103, [.inr (.inr (3, 0)), .inl (2147483648, 2147483648), .inl (2147483649, 2147483651), .inl (2147483648, 2147483648), .inl (2147483649, 2147483651)], [], [(3, 1, 5)], [.inl (some (.inl (2147483649, 2147483649)), [(49156, (2147483648, 2147483655)), (49155, (2147483648, 2147483655))]), .inl (some (.inl (2147483648, 2147483648)), [(49156, (2147483647, 2147483647)), (49155, (2147483647, 2147483655))])], 8)
theorem hct_X5_passTwo_f : z_ctH zTb ct_X5_passTwo_f := sorry
def ct_X9_comesTo_0 : zCt := (144, [.inr (.inr (17, 0))], [], [], [.inl (some (.inl (0, 4294967295)), [])], 2)
theorem hct_X9_comesTo_0 : z_ctH zTb ct_X9_comesTo_0 := sorry
def ct_X9_length_0 : zCt := (145, [.inr (.inr (17, 0))], [], [], [.inl (some (.inl (0, 4294967295)), [])], 2)
theorem hct_X9_length_0 : z_ctH zTb ct_X9_length_0 := sorry
def ct_X9_isClosed_0 : zCt := (146, [.inr (.inr (17, 0))], [], [], [.inl (some (.inl (2147483648, 2147483649)), [])], 4)
theorem hct_X9_isClosed_0 : z_ctH zTb ct_X9_isClosed_0 := sorry
def ct_X9_stepBehind_0 : zCt := (142, [.inr (.inr (17, 0)), .inl (0, 4294967295)], [], [(17, 3, 4)], [.inl (none, [])], 4)
theorem hct_X9_stepBehind_0 : z_ctH zTb ct_X9_stepBehind_0 := sorry
def ct_X9_arrive_0 : zCt := (143, [.inr (.inr (17, 0)), .inl (0, 4294967295)], [], [(17, 3, 5), (18, 0, 15)], [.inl (none, [])], 3)
theorem hct_X9_arrive_0 : z_ctH zTb ct_X9_arrive_0 := sorry
def ct_X9_begin_0 : zCt := (138, [.inr (.inr (17, 0)), .inl (0, 4294967295)], [], [(17, 2, 6), (18, 0, 15), (19, 0, 15)], [.inl (none, [])], 3)
theorem hct_X9_begin_0 : z_ctH zTb ct_X9_begin_0 := sorry
def ct_X9_go_0 : zCt := (141, [.inr (.inr (17, 0)), .inl (0, 4294967295)], [], [(17, 3, 6), (18, 0, 15), (19, 0, 15)], [.inl (some (.inl (2147483648, 2147483649)), [])], 7)
theorem hct_X9_go_0 : z_ctH zTb ct_X9_go_0 := sorry
def ct_X9_wayRead_0 : zCt := (140, [.inr (.inr (17, 0))], [], [], [.inl (some (.inl (2147483647, 2147483651)), [])], 10)
theorem hct_X9_wayRead_0 : z_ctH zTb ct_X9_wayRead_0 := sorry
def ct_X9_readBegin_0 : zCt := (137, [.inr (.inr (17, 0))], [], [(3, 1, 5), (17, 2, 6), (18, 0, 15), (19, 0, 15)], [.inl (some (.inl (2147483648, 2147483649)), [])], 10)
theorem hct_X9_readBegin_0 : z_ctH zTb ct_X9_readBegin_0 := sorry
def ct_X9_readPart_0 : zCt := (139, [.inr (.inr (17, 0))], [], [(3, 1, 2), (3, 5, 5), (17, 3, 6), (18, 0, 15), (19, 0, 15)], [.inl (some (.inl (2147483648, 2147483649)), [])], 12)
theorem hct_X9_readPart_0 : z_ctH zTb ct_X9_readPart_0 := sorry
def ct_X9_read_0 : zCt := (136, [.inr (.inr (17, 0))], [], [(3, 1, 5), (17, 2, 6), (18, 0, 15), (19, 0, 15)], [.inl (some (.inl (2147483648, 2147483649)), [])], 14)
theorem hct_X9_read_0 : z_ctH zTb ct_X9_read_0 := sorry
def ct_X9_isSimple_0 : zCt := (147, [.inr (.inr (17, 0))], [], [], [.inl (some (.inl (2147483648, 2147483649)), [])], 6)
theorem hct_X9_isSimple_0 : z_ctH zTb ct_X9_isSimple_0 := sorry
def ct_X9_windsRound : zCt := (148, [.inr (.inr (17, 0)), .inl (2147483648, 2147483650), .inl (2147483648, 2147483650)], [], [], [.inl (some (.inl (0, 4294967295)), [])], 4)
theorem hct_X9_windsRound : z_ctH zTb ct_X9_windsRound := sorry
def ct_X9_squaresWithin_0 : zCt := (149, [.inr (.inr (17, 0))], [], [], [.inl (some (.inl (2147483648, 2147483657)), [])], 6)
theorem hct_X9_squaresWithin_0 : z_ctH zTb ct_X9_squaresWithin_0 := sorry
def ct_X3_forget_0 : zCt := (71, [.inr (.inr (20, 0))], [], [(20, 4, 5)], [.inl (none, [])], 2)
theorem hct_X3_forget_0 : z_ctH zTb ct_X3_forget_0 := sorry
def ct_X3_dropOldest_0 : zCt := (75, [.inr (.inr (20, 0))], [], [(20, 4, 4), (21, 0, 19), (22, 0, 19), (23, 0, 19)], [.inl (none, [(327684, (2147483667, 2147483667))])], 3)
theorem hct_X3_dropOldest_0 : z_ctH zTb ct_X3_dropOldest_0 := sorry
def ct_X3_note_0 : zCt := (74, [.inr (.inr (20, 0)), .inl (0, 4294967295), .inl (0, 4294967295), .inl (0, 4294967295)], [], [(20, 4, 5), (21, 0, 19), (22, 0, 19), (23, 0, 19)], [.inl (none, [])], 5)
theorem hct_X3_note_0 : z_ctH zTb ct_X3_note_0 := sorry
def ct_X3_noteLine_0 : zCt := (72, [.inr (.inr (20, 0)), .inl (0, 4294967295), .inl (0, 4294967295), .inl (0, 4294967295)], [], [(20, 4, 5), (21, 0, 19), (22, 0, 19), (23, 0, 19)], [.inl (none, [])], 7)
theorem hct_X3_noteLine_0 : z_ctH zTb ct_X3_noteLine_0 := sorry
def ct_X3_noteFrame_0 : zCt := (73, [.inr (.inr (20, 0)), .inl (0, 4294967295), .inl (0, 4294967295), .inl (0, 4294967295)], [], [(20, 4, 5), (21, 0, 19), (22, 0, 19), (23, 0, 19)], [.inl (none, [])], 7)
theorem hct_X3_noteFrame_0 : z_ctH zTb ct_X3_noteFrame_0 := sorry
def ct_X3_apply_0 : zCt := (78, [.inr (.inr (20, 0)), .inl (0, 4294967295), .inl (0, 4294967295)], [], [(12, 0, 31)], [.inl (none, [])], 8)
theorem hct_X3_apply_0 : z_ctH zTb ct_X3_apply_0 := sorry
def ct_X3_takeBack_0 : zCt := (76, [.inr (.inr (20, 0))], [], [(12, 0, 31), (20, 4, 4)], [.inl (some (.inl (2147483648, 2147483649)), [])], 10)
theorem hct_X3_takeBack_0 : z_ctH zTb ct_X3_takeBack_0 := sorry
def ct_X3_doAgain_0 : zCt := (77, [.inr (.inr (20, 0))], [], [(12, 0, 31), (20, 4, 4)], [.inl (some (.inl (2147483648, 2147483649)), [])], 10)
theorem hct_X3_doAgain_0 : z_ctH zTb ct_X3_doAgain_0 := sorry
def ct_X3_undoable_0 : zCt := (79, [.inr (.inr (20, 0))], [], [], [.inl (some (.inl (0, 4294967295)), [])], 2)
theorem hct_X3_undoable_0 : z_ctH zTb ct_X3_undoable_0 := sorry
def ct_X3_redoable_0 : zCt := (80, [.inr (.inr (20, 0))], [], [], [.inl (some (.inl (0, 4294967295)), [])], 2)
theorem hct_X3_redoable_0 : z_ctH zTb ct_X3_redoable_0 := sorry
def ct_X3_note_d0 : zCt := (74, [.inr (.inr (20, 0)), .inl (0, 4294967295), .inl (0, 4294967295), .inl (0, 4294967295)], [(327684, (2147483648, 2147483648))], [(20, 4, 5), (21, 0, 19), (22, 0, 19), (23, 0, 19)], [.inl (none, [(327685, (2147483649, 2147483649)), (327684, (2147483649, 2147483649))])], 3)
theorem hct_X3_note_d0 : z_ctH zTb ct_X3_note_d0 := sorry
def ct_X3_noteLine_d0 : zCt := (72, [.inr (.inr (20, 0)), .inl (0, 4294967295), .inl (0, 4294967295), .inl (0, 4294967295)], [(327684, (2147483648, 2147483648))], [(20, 4, 5), (21, 0, 19), (22, 0, 19), (23, 0, 19)], [.inl (none, [(327685, (2147483649, 2147483649)), (327684, (2147483649, 2147483649))])], 5)
theorem hct_X3_noteLine_d0 : z_ctH zTb ct_X3_noteLine_d0 := sorry
def ct_X3_noteFrame_d0 : zCt := (73, [.inr (.inr (20, 0)), .inl (0, 4294967295), .inl (0, 4294967295), .inl (0, 4294967295)], [(327684, (2147483648, 2147483648))], [(20, 4, 5), (21, 0, 19), (22, 0, 19), (23, 0, 19)], [.inl (none, [(327685, (2147483649, 2147483649)), (327684, (2147483649, 2147483649))])], 5)
theorem hct_X3_noteFrame_d0 : z_ctH zTb ct_X3_noteFrame_d0 := sorry
def ct_X3_takeBack_d0 : zCt := (76, [.inr (.inr (20, 0))], [(327684, (2147483648, 2147483648))], [], [.inl (some (.inl (2147483648, 2147483648)), [])], 2)
theorem hct_X3_takeBack_d0 : z_ctH zTb ct_X3_takeBack_d0 := sorry
def ct_X10_undo_d0 : zCt := (160, [.inr (.inr (0, 0))], [(327684, (2147483648, 2147483648))], [], [.inl (some (.inl (2147483648, 2147483648)), [])], 4)
theorem hct_X10_undo_d0 : z_ctH zTb ct_X10_undo_d0 := sorry
def ct_X3_doAgain_n0 : zCt := (77, [.inr (.inr (20, 0))], [(327684, (2147483648, 2147483648)), (327685, (2147483648, 2147483648))], [], [.inl (some (.inl (2147483648, 2147483648)), [])], 2)
theorem hct_X3_doAgain_n0 : z_ctH zTb ct_X3_doAgain_n0 := sorry
def ct_X10_redo_n0 : zCt := (161, [.inr (.inr (0, 0))], [(327684, (2147483648, 2147483648)), (327685, (2147483648, 2147483648))], [], [.inl (some (.inl (2147483648, 2147483648)), [])], 4)
theorem hct_X10_redo_n0 : z_ctH zTb ct_X10_redo_n0 := sorry
def ct_X3_doAgain_y0 : zCt := (77, [.inr (.inr (20, 0))], [(327684, (2147483648, 2147483648)), (327685, (2147483649, 2147483668))], [(12, 0, 31), (20, 4, 4)], [.inl (some (.inl (2147483649, 2147483649)), [(327684, (2147483649, 2147483649))])], 10)
theorem hct_X3_doAgain_y0 : z_ctH zTb ct_X3_doAgain_y0 := sorry
def ct_X10_redo_y0 : zCt := (161, [.inr (.inr (0, 0))], [(327684, (2147483648, 2147483648)), (327685, (2147483649, 2147483668))], [(12, 0, 31), (20, 4, 4)], [.inl (some (.inl (2147483649, 2147483649)), [(327684, (2147483649, 2147483649))])], 12)
theorem hct_X10_redo_y0 : z_ctH zTb ct_X10_redo_y0 := sorry
def ct_X3_note_d1 : zCt := (74, [.inr (.inr (20, 0)), .inl (0, 4294967295), .inl (0, 4294967295), .inl (0, 4294967295)], [(327684, (2147483649, 2147483649))], [(20, 4, 5), (21, 0, 19), (22, 0, 19), (23, 0, 19)], [.inl (none, [(327685, (2147483650, 2147483650)), (327684, (2147483650, 2147483650))])], 3)
theorem hct_X3_note_d1 : z_ctH zTb ct_X3_note_d1 := sorry
def ct_X3_noteLine_d1 : zCt := (72, [.inr (.inr (20, 0)), .inl (0, 4294967295), .inl (0, 4294967295), .inl (0, 4294967295)], [(327684, (2147483649, 2147483649))], [(20, 4, 5), (21, 0, 19), (22, 0, 19), (23, 0, 19)], [.inl (none, [(327685, (2147483650, 2147483650)), (327684, (2147483650, 2147483650))])], 5)
theorem hct_X3_noteLine_d1 : z_ctH zTb ct_X3_noteLine_d1 := sorry
def ct_X3_noteFrame_d1 : zCt := (73, [.inr (.inr (20, 0)), .inl (0, 4294967295), .inl (0, 4294967295), .inl (0, 4294967295)], [(327684, (2147483649, 2147483649))], [(20, 4, 5), (21, 0, 19), (22, 0, 19), (23, 0, 19)], [.inl (none, [(327685, (2147483650, 2147483650)), (327684, (2147483650, 2147483650))])], 5)
theorem hct_X3_noteFrame_d1 : z_ctH zTb ct_X3_noteFrame_d1 := sorry
def ct_X3_takeBack_d1 : zCt := (76, [.inr (.inr (20, 0))], [(327684, (2147483649, 2147483649))], [(12, 0, 31), (20, 4, 4)], [.inl (some (.inl (2147483649, 2147483649)), [(327684, (2147483648, 2147483648))])], 10)
theorem hct_X3_takeBack_d1 : z_ctH zTb ct_X3_takeBack_d1 := sorry
def ct_X10_undo_d1 : zCt := (160, [.inr (.inr (0, 0))], [(327684, (2147483649, 2147483649))], [(12, 0, 31), (20, 4, 4)], [.inl (some (.inl (2147483649, 2147483649)), [(327684, (2147483648, 2147483648))])], 12)
theorem hct_X10_undo_d1 : z_ctH zTb ct_X10_undo_d1 := sorry
def ct_X3_doAgain_n1 : zCt := (77, [.inr (.inr (20, 0))], [(327684, (2147483649, 2147483649)), (327685, (2147483649, 2147483649))], [], [.inl (some (.inl (2147483648, 2147483648)), [])], 2)
theorem hct_X3_doAgain_n1 : z_ctH zTb ct_X3_doAgain_n1 := sorry
def ct_X10_redo_n1 : zCt := (161, [.inr (.inr (0, 0))], [(327684, (2147483649, 2147483649)), (327685, (2147483649, 2147483649))], [], [.inl (some (.inl (2147483648, 2147483648)), [])], 4)
theorem hct_X10_redo_n1 : z_ctH zTb ct_X10_redo_n1 := sorry
def ct_X3_doAgain_y1 : zCt := (77, [.inr (.inr (20, 0))], [(327684, (2147483649, 2147483649)), (327685, (2147483650, 2147483668))], [(12, 0, 31), (20, 4, 4)], [.inl (some (.inl (2147483649, 2147483649)), [(327684, (2147483650, 2147483650))])], 10)
theorem hct_X3_doAgain_y1 : z_ctH zTb ct_X3_doAgain_y1 := sorry
def ct_X10_redo_y1 : zCt := (161, [.inr (.inr (0, 0))], [(327684, (2147483649, 2147483649)), (327685, (2147483650, 2147483668))], [(12, 0, 31), (20, 4, 4)], [.inl (some (.inl (2147483649, 2147483649)), [(327684, (2147483650, 2147483650))])], 12)
theorem hct_X10_redo_y1 : z_ctH zTb ct_X10_redo_y1 := sorry
def ct_X3_note_d2 : zCt := (74, [.inr (.inr (20, 0)), .inl (0, 4294967295), .inl (0, 4294967295), .inl (0, 4294967295)], [(327684, (2147483650, 2147483650))], [(20, 4, 5), (21, 0, 19), (22, 0, 19), (23, 0, 19)], [.inl (none, [(327685, (2147483651, 2147483651)), (327684, (2147483651, 2147483651))])], 3)
theorem hct_X3_note_d2 : z_ctH zTb ct_X3_note_d2 := sorry
def ct_X3_noteLine_d2 : zCt := (72, [.inr (.inr (20, 0)), .inl (0, 4294967295), .inl (0, 4294967295), .inl (0, 4294967295)], [(327684, (2147483650, 2147483650))], [(20, 4, 5), (21, 0, 19), (22, 0, 19), (23, 0, 19)], [.inl (none, [(327685, (2147483651, 2147483651)), (327684, (2147483651, 2147483651))])], 5)
theorem hct_X3_noteLine_d2 : z_ctH zTb ct_X3_noteLine_d2 := sorry
def ct_X3_noteFrame_d2 : zCt := (73, [.inr (.inr (20, 0)), .inl (0, 4294967295), .inl (0, 4294967295), .inl (0, 4294967295)], [(327684, (2147483650, 2147483650))], [(20, 4, 5), (21, 0, 19), (22, 0, 19), (23, 0, 19)], [.inl (none, [(327685, (2147483651, 2147483651)), (327684, (2147483651, 2147483651))])], 5)
theorem hct_X3_noteFrame_d2 : z_ctH zTb ct_X3_noteFrame_d2 := sorry
def ct_X3_takeBack_d2 : zCt := (76, [.inr (.inr (20, 0))], [(327684, (2147483650, 2147483650))], [(12, 0, 31), (20, 4, 4)], [.inl (some (.inl (2147483649, 2147483649)), [(327684, (2147483649, 2147483649))])], 10)
theorem hct_X3_takeBack_d2 : z_ctH zTb ct_X3_takeBack_d2 := sorry
def ct_X10_undo_d2 : zCt := (160, [.inr (.inr (0, 0))], [(327684, (2147483650, 2147483650))], [(12, 0, 31), (20, 4, 4)], [.inl (some (.inl (2147483649, 2147483649)), [(327684, (2147483649, 2147483649))])], 12)
theorem hct_X10_undo_d2 : z_ctH zTb ct_X10_undo_d2 := sorry
def ct_X3_doAgain_n2 : zCt := (77, [.inr (.inr (20, 0))], [(327684, (2147483650, 2147483650)), (327685, (2147483650, 2147483650))], [], [.inl (some (.inl (2147483648, 2147483648)), [])], 2)
theorem hct_X3_doAgain_n2 : z_ctH zTb ct_X3_doAgain_n2 := sorry
def ct_X10_redo_n2 : zCt := (161, [.inr (.inr (0, 0))], [(327684, (2147483650, 2147483650)), (327685, (2147483650, 2147483650))], [], [.inl (some (.inl (2147483648, 2147483648)), [])], 4)
theorem hct_X10_redo_n2 : z_ctH zTb ct_X10_redo_n2 := sorry
def ct_X3_doAgain_y2 : zCt := (77, [.inr (.inr (20, 0))], [(327684, (2147483650, 2147483650)), (327685, (2147483651, 2147483668))], [(12, 0, 31), (20, 4, 4)], [.inl (some (.inl (2147483649, 2147483649)), [(327684, (2147483651, 2147483651))])], 10)
theorem hct_X3_doAgain_y2 : z_ctH zTb ct_X3_doAgain_y2 := sorry
def ct_X10_redo_y2 : zCt := (161, [.inr (.inr (0, 0))], [(327684, (2147483650, 2147483650)), (327685, (2147483651, 2147483668))], [(12, 0, 31), (20, 4, 4)], [.inl (some (.inl (2147483649, 2147483649)), [(327684, (2147483651, 2147483651))])], 12)
theorem hct_X10_redo_y2 : z_ctH zTb ct_X10_redo_y2 := sorry
def ct_X3_note_d3 : zCt := (74, [.inr (.inr (20, 0)), .inl (0, 4294967295), .inl (0, 4294967295), .inl (0, 4294967295)], [(327684, (2147483651, 2147483651))], [(20, 4, 5), (21, 0, 19), (22, 0, 19), (23, 0, 19)], [.inl (none, [(327685, (2147483652, 2147483652)), (327684, (2147483652, 2147483652))])], 3)
theorem hct_X3_note_d3 : z_ctH zTb ct_X3_note_d3 := sorry
def ct_X3_noteLine_d3 : zCt := (72, [.inr (.inr (20, 0)), .inl (0, 4294967295), .inl (0, 4294967295), .inl (0, 4294967295)], [(327684, (2147483651, 2147483651))], [(20, 4, 5), (21, 0, 19), (22, 0, 19), (23, 0, 19)], [.inl (none, [(327685, (2147483652, 2147483652)), (327684, (2147483652, 2147483652))])], 5)
theorem hct_X3_noteLine_d3 : z_ctH zTb ct_X3_noteLine_d3 := sorry
def ct_X3_noteFrame_d3 : zCt := (73, [.inr (.inr (20, 0)), .inl (0, 4294967295), .inl (0, 4294967295), .inl (0, 4294967295)], [(327684, (2147483651, 2147483651))], [(20, 4, 5), (21, 0, 19), (22, 0, 19), (23, 0, 19)], [.inl (none, [(327685, (2147483652, 2147483652)), (327684, (2147483652, 2147483652))])], 5)
theorem hct_X3_noteFrame_d3 : z_ctH zTb ct_X3_noteFrame_d3 := sorry
def ct_X3_takeBack_d3 : zCt := (76, [.inr (.inr (20, 0))], [(327684, (2147483651, 2147483651))], [(12, 0, 31), (20, 4, 4)], [.inl (some (.inl (2147483649, 2147483649)), [(327684, (2147483650, 2147483650))])], 10)
theorem hct_X3_takeBack_d3 : z_ctH zTb ct_X3_takeBack_d3 := sorry
def ct_X10_undo_d3 : zCt := (160, [.inr (.inr (0, 0))], [(327684, (2147483651, 2147483651))], [(12, 0, 31), (20, 4, 4)], [.inl (some (.inl (2147483649, 2147483649)), [(327684, (2147483650, 2147483650))])], 12)
theorem hct_X10_undo_d3 : z_ctH zTb ct_X10_undo_d3 := sorry
def ct_X3_doAgain_n3 : zCt := (77, [.inr (.inr (20, 0))], [(327684, (2147483651, 2147483651)), (327685, (2147483651, 2147483651))], [], [.inl (some (.inl (2147483648, 2147483648)), [])], 2)
theorem hct_X3_doAgain_n3 : z_ctH zTb ct_X3_doAgain_n3 := sorry
def ct_X10_redo_n3 : zCt := (161, [.inr (.inr (0, 0))], [(327684, (2147483651, 2147483651)), (327685, (2147483651, 2147483651))], [], [.inl (some (.inl (2147483648, 2147483648)), [])], 4)
theorem hct_X10_redo_n3 : z_ctH zTb ct_X10_redo_n3 := sorry
def ct_X3_doAgain_y3 : zCt := (77, [.inr (.inr (20, 0))], [(327684, (2147483651, 2147483651)), (327685, (2147483652, 2147483668))], [(12, 0, 31), (20, 4, 4)], [.inl (some (.inl (2147483649, 2147483649)), [(327684, (2147483652, 2147483652))])], 10)
theorem hct_X3_doAgain_y3 : z_ctH zTb ct_X3_doAgain_y3 := sorry
def ct_X10_redo_y3 : zCt := (161, [.inr (.inr (0, 0))], [(327684, (2147483651, 2147483651)), (327685, (2147483652, 2147483668))], [(12, 0, 31), (20, 4, 4)], [.inl (some (.inl (2147483649, 2147483649)), [(327684, (2147483652, 2147483652))])], 12)
theorem hct_X10_redo_y3 : z_ctH zTb ct_X10_redo_y3 := sorry
def ct_X3_note_d4 : zCt := (74, [.inr (.inr (20, 0)), .inl (0, 4294967295), .inl (0, 4294967295), .inl (0, 4294967295)], [(327684, (2147483652, 2147483652))], [(20, 4, 5), (21, 0, 19), (22, 0, 19), (23, 0, 19)], [.inl (none, [(327685, (2147483653, 2147483653)), (327684, (2147483653, 2147483653))])], 3)
theorem hct_X3_note_d4 : z_ctH zTb ct_X3_note_d4 := sorry
def ct_X3_noteLine_d4 : zCt := (72, [.inr (.inr (20, 0)), .inl (0, 4294967295), .inl (0, 4294967295), .inl (0, 4294967295)], [(327684, (2147483652, 2147483652))], [(20, 4, 5), (21, 0, 19), (22, 0, 19), (23, 0, 19)], [.inl (none, [(327685, (2147483653, 2147483653)), (327684, (2147483653, 2147483653))])], 5)
theorem hct_X3_noteLine_d4 : z_ctH zTb ct_X3_noteLine_d4 := sorry
def ct_X3_noteFrame_d4 : zCt := (73, [.inr (.inr (20, 0)), .inl (0, 4294967295), .inl (0, 4294967295), .inl (0, 4294967295)], [(327684, (2147483652, 2147483652))], [(20, 4, 5), (21, 0, 19), (22, 0, 19), (23, 0, 19)], [.inl (none, [(327685, (2147483653, 2147483653)), (327684, (2147483653, 2147483653))])], 5)
theorem hct_X3_noteFrame_d4 : z_ctH zTb ct_X3_noteFrame_d4 := sorry
def ct_X3_takeBack_d4 : zCt := (76, [.inr (.inr (20, 0))], [(327684, (2147483652, 2147483652))], [(12, 0, 31), (20, 4, 4)], [.inl (some (.inl (2147483649, 2147483649)), [(327684, (2147483651, 2147483651))])], 10)
theorem hct_X3_takeBack_d4 : z_ctH zTb ct_X3_takeBack_d4 := sorry
def ct_X10_undo_d4 : zCt := (160, [.inr (.inr (0, 0))], [(327684, (2147483652, 2147483652))], [(12, 0, 31), (20, 4, 4)], [.inl (some (.inl (2147483649, 2147483649)), [(327684, (2147483651, 2147483651))])], 12)
theorem hct_X10_undo_d4 : z_ctH zTb ct_X10_undo_d4 := sorry
def ct_X3_doAgain_n4 : zCt := (77, [.inr (.inr (20, 0))], [(327684, (2147483652, 2147483652)), (327685, (2147483652, 2147483652))], [], [.inl (some (.inl (2147483648, 2147483648)), [])], 2)
theorem hct_X3_doAgain_n4 : z_ctH zTb ct_X3_doAgain_n4 := sorry
def ct_X10_redo_n4 : zCt := (161, [.inr (.inr (0, 0))], [(327684, (2147483652, 2147483652)), (327685, (2147483652, 2147483652))], [], [.inl (some (.inl (2147483648, 2147483648)), [])], 4)
theorem hct_X10_redo_n4 : z_ctH zTb ct_X10_redo_n4 := sorry
def ct_X3_doAgain_y4 : zCt := (77, [.inr (.inr (20, 0))], [(327684, (2147483652, 2147483652)), (327685, (2147483653, 2147483668))], [(12, 0, 31), (20, 4, 4)], [.inl (some (.inl (2147483649, 2147483649)), [(327684, (2147483653, 2147483653))])], 10)
theorem hct_X3_doAgain_y4 : z_ctH zTb ct_X3_doAgain_y4 := sorry
def ct_X10_redo_y4 : zCt := (161, [.inr (.inr (0, 0))], [(327684, (2147483652, 2147483652)), (327685, (2147483653, 2147483668))], [(12, 0, 31), (20, 4, 4)], [.inl (some (.inl (2147483649, 2147483649)), [(327684, (2147483653, 2147483653))])], 12)
theorem hct_X10_redo_y4 : z_ctH zTb ct_X10_redo_y4 := sorry
def ct_X3_note_d5 : zCt := (74, [.inr (.inr (20, 0)), .inl (0, 4294967295), .inl (0, 4294967295), .inl (0, 4294967295)], [(327684, (2147483653, 2147483653))], [(20, 4, 5), (21, 0, 19), (22, 0, 19), (23, 0, 19)], [.inl (none, [(327685, (2147483654, 2147483654)), (327684, (2147483654, 2147483654))])], 3)
theorem hct_X3_note_d5 : z_ctH zTb ct_X3_note_d5 := sorry
def ct_X3_noteLine_d5 : zCt := (72, [.inr (.inr (20, 0)), .inl (0, 4294967295), .inl (0, 4294967295), .inl (0, 4294967295)], [(327684, (2147483653, 2147483653))], [(20, 4, 5), (21, 0, 19), (22, 0, 19), (23, 0, 19)], [.inl (none, [(327685, (2147483654, 2147483654)), (327684, (2147483654, 2147483654))])], 5)
theorem hct_X3_noteLine_d5 : z_ctH zTb ct_X3_noteLine_d5 := sorry
def ct_X3_noteFrame_d5 : zCt := (73, [.inr (.inr (20, 0)), .inl (0, 4294967295), .inl (0, 4294967295), .inl (0, 4294967295)], [(327684, (2147483653, 2147483653))], [(20, 4, 5), (21, 0, 19), (22, 0, 19), (23, 0, 19)], [.inl (none, [(327685, (2147483654, 2147483654)), (327684, (2147483654, 2147483654))])], 5)
theorem hct_X3_noteFrame_d5 : z_ctH zTb ct_X3_noteFrame_d5 := sorry
def ct_X3_takeBack_d5 : zCt := (76, [.inr (.inr (20, 0))], [(327684, (2147483653, 2147483653))], [(12, 0, 31), (20, 4, 4)], [.inl (some (.inl (2147483649, 2147483649)), [(327684, (2147483652, 2147483652))])], 10)
theorem hct_X3_takeBack_d5 : z_ctH zTb ct_X3_takeBack_d5 := sorry
def ct_X10_undo_d5 : zCt := (160, [.inr (.inr (0, 0))], [(327684, (2147483653, 2147483653))], [(12, 0, 31), (20, 4, 4)], [.inl (some (.inl (2147483649, 2147483649)), [(327684, (2147483652, 2147483652))])], 12)
theorem hct_X10_undo_d5 : z_ctH zTb ct_X10_undo_d5 := sorry
def ct_X3_doAgain_n5 : zCt := (77, [.inr (.inr (20, 0))], [(327684, (2147483653, 2147483653)), (327685, (2147483653, 2147483653))], [], [.inl (some (.inl (2147483648, 2147483648)), [])], 2)
theorem hct_X3_doAgain_n5 : z_ctH zTb ct_X3_doAgain_n5 := sorry
def ct_X10_redo_n5 : zCt := (161, [.inr (.inr (0, 0))], [(327684, (2147483653, 2147483653)), (327685, (2147483653, 2147483653))], [], [.inl (some (.inl (2147483648, 2147483648)), [])], 4)
theorem hct_X10_redo_n5 : z_ctH zTb ct_X10_redo_n5 := sorry
def ct_X3_doAgain_y5 : zCt := (77, [.inr (.inr (20, 0))], [(327684, (2147483653, 2147483653)), (327685, (2147483654, 2147483668))], [(12, 0, 31), (20, 4, 4)], [.inl (some (.inl (2147483649, 2147483649)), [(327684, (2147483654, 2147483654))])], 10)
theorem hct_X3_doAgain_y5 : z_ctH zTb ct_X3_doAgain_y5 := sorry
def ct_X10_redo_y5 : zCt := (161, [.inr (.inr (0, 0))], [(327684, (2147483653, 2147483653)), (327685, (2147483654, 2147483668))], [(12, 0, 31), (20, 4, 4)], [.inl (some (.inl (2147483649, 2147483649)), [(327684, (2147483654, 2147483654))])], 12)
theorem hct_X10_redo_y5 : z_ctH zTb ct_X10_redo_y5 := sorry
def ct_X3_note_d6 : zCt := (74, [.inr (.inr (20, 0)), .inl (0, 4294967295), .inl (0, 4294967295), .inl (0, 4294967295)], [(327684, (2147483654, 2147483654))], [(20, 4, 5), (21, 0, 19), (22, 0, 19), (23, 0, 19)], [.inl (none, [(327685, (2147483655, 2147483655)), (327684, (2147483655, 2147483655))])], 3)
theorem hct_X3_note_d6 : z_ctH zTb ct_X3_note_d6 := sorry
def ct_X3_noteLine_d6 : zCt := (72, [.inr (.inr (20, 0)), .inl (0, 4294967295), .inl (0, 4294967295), .inl (0, 4294967295)], [(327684, (2147483654, 2147483654))], [(20, 4, 5), (21, 0, 19), (22, 0, 19), (23, 0, 19)], [.inl (none, [(327685, (2147483655, 2147483655)), (327684, (2147483655, 2147483655))])], 5)
theorem hct_X3_noteLine_d6 : z_ctH zTb ct_X3_noteLine_d6 := sorry
def ct_X3_noteFrame_d6 : zCt := (73, [.inr (.inr (20, 0)), .inl (0, 4294967295), .inl (0, 4294967295), .inl (0, 4294967295)], [(327684, (2147483654, 2147483654))], [(20, 4, 5), (21, 0, 19), (22, 0, 19), (23, 0, 19)], [.inl (none, [(327685, (2147483655, 2147483655)), (327684, (2147483655, 2147483655))])], 5)
theorem hct_X3_noteFrame_d6 : z_ctH zTb ct_X3_noteFrame_d6 := sorry
def ct_X3_takeBack_d6 : zCt := (76, [.inr (.inr (20, 0))], [(327684, (2147483654, 2147483654))], [(12, 0, 31), (20, 4, 4)], [.inl (some (.inl (2147483649, 2147483649)), [(327684, (2147483653, 2147483653))])], 10)
theorem hct_X3_takeBack_d6 : z_ctH zTb ct_X3_takeBack_d6 := sorry
def ct_X10_undo_d6 : zCt := (160, [.inr (.inr (0, 0))], [(327684, (2147483654, 2147483654))], [(12, 0, 31), (20, 4, 4)], [.inl (some (.inl (2147483649, 2147483649)), [(327684, (2147483653, 2147483653))])], 12)
theorem hct_X10_undo_d6 : z_ctH zTb ct_X10_undo_d6 := sorry
def ct_X3_doAgain_n6 : zCt := (77, [.inr (.inr (20, 0))], [(327684, (2147483654, 2147483654)), (327685, (2147483654, 2147483654))], [], [.inl (some (.inl (2147483648, 2147483648)), [])], 2)
theorem hct_X3_doAgain_n6 : z_ctH zTb ct_X3_doAgain_n6 := sorry
def ct_X10_redo_n6 : zCt := (161, [.inr (.inr (0, 0))], [(327684, (2147483654, 2147483654)), (327685, (2147483654, 2147483654))], [], [.inl (some (.inl (2147483648, 2147483648)), [])], 4)
theorem hct_X10_redo_n6 : z_ctH zTb ct_X10_redo_n6 := sorry
def ct_X3_doAgain_y6 : zCt := (77, [.inr (.inr (20, 0))], [(327684, (2147483654, 2147483654)), (327685, (2147483655, 2147483668))], [(12, 0, 31), (20, 4, 4)], [.inl (some (.inl (2147483649, 2147483649)), [(327684, (2147483655, 2147483655))])], 10)
theorem hct_X3_doAgain_y6 : z_ctH zTb ct_X3_doAgain_y6 := sorry
def ct_X10_redo_y6 : zCt := (161, [.inr (.inr (0, 0))], [(327684, (2147483654, 2147483654)), (327685, (2147483655, 2147483668))], [(12, 0, 31), (20, 4, 4)], [.inl (some (.inl (2147483649, 2147483649)), [(327684, (2147483655, 2147483655))])], 12)
theorem hct_X10_redo_y6 : z_ctH zTb ct_X10_redo_y6 := sorry
def ct_X3_note_d7 : zCt := (74, [.inr (.inr (20, 0)), .inl (0, 4294967295), .inl (0, 4294967295), .inl (0, 4294967295)], [(327684, (2147483655, 2147483655))], [(20, 4, 5), (21, 0, 19), (22, 0, 19), (23, 0, 19)], [.inl (none, [(327685, (2147483656, 2147483656)), (327684, (2147483656, 2147483656))])], 3)
theorem hct_X3_note_d7 : z_ctH zTb ct_X3_note_d7 := sorry
def ct_X3_noteLine_d7 : zCt := (72, [.inr (.inr (20, 0)), .inl (0, 4294967295), .inl (0, 4294967295), .inl (0, 4294967295)], [(327684, (2147483655, 2147483655))], [(20, 4, 5), (21, 0, 19), (22, 0, 19), (23, 0, 19)], [.inl (none, [(327685, (2147483656, 2147483656)), (327684, (2147483656, 2147483656))])], 5)
theorem hct_X3_noteLine_d7 : z_ctH zTb ct_X3_noteLine_d7 := sorry
def ct_X3_noteFrame_d7 : zCt := (73, [.inr (.inr (20, 0)), .inl (0, 4294967295), .inl (0, 4294967295), .inl (0, 4294967295)], [(327684, (2147483655, 2147483655))], [(20, 4, 5), (21, 0, 19), (22, 0, 19), (23, 0, 19)], [.inl (none, [(327685, (2147483656, 2147483656)), (327684, (2147483656, 2147483656))])], 5)
theorem hct_X3_noteFrame_d7 : z_ctH zTb ct_X3_noteFrame_d7 := sorry
def ct_X3_takeBack_d7 : zCt := (76, [.inr (.inr (20, 0))], [(327684, (2147483655, 2147483655))], [(12, 0, 31), (20, 4, 4)], [.inl (some (.inl (2147483649, 2147483649)), [(327684, (2147483654, 2147483654))])], 10)
theorem hct_X3_takeBack_d7 : z_ctH zTb ct_X3_takeBack_d7 := sorry
def ct_X10_undo_d7 : zCt := (160, [.inr (.inr (0, 0))], [(327684, (2147483655, 2147483655))], [(12, 0, 31), (20, 4, 4)], [.inl (some (.inl (2147483649, 2147483649)), [(327684, (2147483654, 2147483654))])], 12)
theorem hct_X10_undo_d7 : z_ctH zTb ct_X10_undo_d7 := sorry
def ct_X3_doAgain_n7 : zCt := (77, [.inr (.inr (20, 0))], [(327684, (2147483655, 2147483655)), (327685, (2147483655, 2147483655))], [], [.inl (some (.inl (2147483648, 2147483648)), [])], 2)
theorem hct_X3_doAgain_n7 : z_ctH zTb ct_X3_doAgain_n7 := sorry
def ct_X10_redo_n7 : zCt := (161, [.inr (.inr (0, 0))], [(327684, (2147483655, 2147483655)), (327685, (2147483655, 2147483655))], [], [.inl (some (.inl (2147483648, 2147483648)), [])], 4)
theorem hct_X10_redo_n7 : z_ctH zTb ct_X10_redo_n7 := sorry
def ct_X3_doAgain_y7 : zCt := (77, [.inr (.inr (20, 0))], [(327684, (2147483655, 2147483655)), (327685, (2147483656, 2147483668))], [(12, 0, 31), (20, 4, 4)], [.inl (some (.inl (2147483649, 2147483649)), [(327684, (2147483656, 2147483656))])], 10)
theorem hct_X3_doAgain_y7 : z_ctH zTb ct_X3_doAgain_y7 := sorry
def ct_X10_redo_y7 : zCt := (161, [.inr (.inr (0, 0))], [(327684, (2147483655, 2147483655)), (327685, (2147483656, 2147483668))], [(12, 0, 31), (20, 4, 4)], [.inl (some (.inl (2147483649, 2147483649)), [(327684, (2147483656, 2147483656))])], 12)
theorem hct_X10_redo_y7 : z_ctH zTb ct_X10_redo_y7 := sorry
def ct_X3_note_d8 : zCt := (74, [.inr (.inr (20, 0)), .inl (0, 4294967295), .inl (0, 4294967295), .inl (0, 4294967295)], [(327684, (2147483656, 2147483656))], [(20, 4, 5), (21, 0, 19), (22, 0, 19), (23, 0, 19)], [.inl (none, [(327685, (2147483657, 2147483657)), (327684, (2147483657, 2147483657))])], 3)
theorem hct_X3_note_d8 : z_ctH zTb ct_X3_note_d8 := sorry
def ct_X3_noteLine_d8 : zCt := (72, [.inr (.inr (20, 0)), .inl (0, 4294967295), .inl (0, 4294967295), .inl (0, 4294967295)], [(327684, (2147483656, 2147483656))], [(20, 4, 5), (21, 0, 19), (22, 0, 19), (23, 0, 19)], [.inl (none, [(327685, (2147483657, 2147483657)), (327684, (2147483657, 2147483657))])], 5)
theorem hct_X3_noteLine_d8 : z_ctH zTb ct_X3_noteLine_d8 := sorry
def ct_X3_noteFrame_d8 : zCt := (73, [.inr (.inr (20, 0)), .inl (0, 4294967295), .inl (0, 4294967295), .inl (0, 4294967295)], [(327684, (2147483656, 2147483656))], [(20, 4, 5), (21, 0, 19), (22, 0, 19), (23, 0, 19)], [.inl (none, [(327685, (2147483657, 2147483657)), (327684, (2147483657, 2147483657))])], 5)
theorem hct_X3_noteFrame_d8 : z_ctH zTb ct_X3_noteFrame_d8 := sorry
def ct_X3_takeBack_d8 : zCt := (76, [.inr (.inr (20, 0))], [(327684, (2147483656, 2147483656))], [(12, 0, 31), (20, 4, 4)], [.inl (some (.inl (2147483649, 2147483649)), [(327684, (2147483655, 2147483655))])], 10)
theorem hct_X3_takeBack_d8 : z_ctH zTb ct_X3_takeBack_d8 := sorry
def ct_X10_undo_d8 : zCt := (160, [.inr (.inr (0, 0))], [(327684, (2147483656, 2147483656))], [(12, 0, 31), (20, 4, 4)], [.inl (some (.inl (2147483649, 2147483649)), [(327684, (2147483655, 2147483655))])], 12)
theorem hct_X10_undo_d8 : z_ctH zTb ct_X10_undo_d8 := sorry
def ct_X3_doAgain_n8 : zCt := (77, [.inr (.inr (20, 0))], [(327684, (2147483656, 2147483656)), (327685, (2147483656, 2147483656))], [], [.inl (some (.inl (2147483648, 2147483648)), [])], 2)
theorem hct_X3_doAgain_n8 : z_ctH zTb ct_X3_doAgain_n8 := sorry
def ct_X10_redo_n8 : zCt := (161, [.inr (.inr (0, 0))], [(327684, (2147483656, 2147483656)), (327685, (2147483656, 2147483656))], [], [.inl (some (.inl (2147483648, 2147483648)), [])], 4)
theorem hct_X10_redo_n8 : z_ctH zTb ct_X10_redo_n8 := sorry
def ct_X3_doAgain_y8 : zCt := (77, [.inr (.inr (20, 0))], [(327684, (2147483656, 2147483656)), (327685, (2147483657, 2147483668))], [(12, 0, 31), (20, 4, 4)], [.inl (some (.inl (2147483649, 2147483649)), [(327684, (2147483657, 2147483657))])], 10)
theorem hct_X3_doAgain_y8 : z_ctH zTb ct_X3_doAgain_y8 := sorry
def ct_X10_redo_y8 : zCt := (161, [.inr (.inr (0, 0))], [(327684, (2147483656, 2147483656)), (327685, (2147483657, 2147483668))], [(12, 0, 31), (20, 4, 4)], [.inl (some (.inl (2147483649, 2147483649)), [(327684, (2147483657, 2147483657))])], 12)
theorem hct_X10_redo_y8 : z_ctH zTb ct_X10_redo_y8 := sorry
def ct_X3_note_d9 : zCt := (74, [.inr (.inr (20, 0)), .inl (0, 4294967295), .inl (0, 4294967295), .inl (0, 4294967295)], [(327684, (2147483657, 2147483657))], [(20, 4, 5), (21, 0, 19), (22, 0, 19), (23, 0, 19)], [.inl (none, [(327685, (2147483658, 2147483658)), (327684, (2147483658, 2147483658))])], 3)
theorem hct_X3_note_d9 : z_ctH zTb ct_X3_note_d9 := sorry
def ct_X3_noteLine_d9 : zCt := (72, [.inr (.inr (20, 0)), .inl (0, 4294967295), .inl (0, 4294967295), .inl (0, 4294967295)], [(327684, (2147483657, 2147483657))], [(20, 4, 5), (21, 0, 19), (22, 0, 19), (23, 0, 19)], [.inl (none, [(327685, (2147483658, 2147483658)), (327684, (2147483658, 2147483658))])], 5)
theorem hct_X3_noteLine_d9 : z_ctH zTb ct_X3_noteLine_d9 := sorry
def ct_X3_noteFrame_d9 : zCt := (73, [.inr (.inr (20, 0)), .inl (0, 4294967295), .inl (0, 4294967295), .inl (0, 4294967295)], [(327684, (2147483657, 2147483657))], [(20, 4, 5), (21, 0, 19), (22, 0, 19), (23, 0, 19)], [.inl (none, [(327685, (2147483658, 2147483658)), (327684, (2147483658, 2147483658))])], 5)
theorem hct_X3_noteFrame_d9 : z_ctH zTb ct_X3_noteFrame_d9 := sorry
def ct_X3_takeBack_d9 : zCt := (76, [.inr (.inr (20, 0))], [(327684, (2147483657, 2147483657))], [(12, 0, 31), (20, 4, 4)], [.inl (some (.inl (2147483649, 2147483649)), [(327684, (2147483656, 2147483656))])], 10)
theorem hct_X3_takeBack_d9 : z_ctH zTb ct_X3_takeBack_d9 := sorry
def ct_X10_undo_d9 : zCt := (160, [.inr (.inr (0, 0))], [(327684, (2147483657, 2147483657))], [(12, 0, 31), (20, 4, 4)], [.inl (some (.inl (2147483649, 2147483649)), [(327684, (2147483656, 2147483656))])], 12)
theorem hct_X10_undo_d9 : z_ctH zTb ct_X10_undo_d9 := sorry
def ct_X3_doAgain_n9 : zCt := (77, [.inr (.inr (20, 0))], [(327684, (2147483657, 2147483657)), (327685, (2147483657, 2147483657))], [], [.inl (some (.inl (2147483648, 2147483648)), [])], 2)
theorem hct_X3_doAgain_n9 : z_ctH zTb ct_X3_doAgain_n9 := sorry
def ct_X10_redo_n9 : zCt := (161, [.inr (.inr (0, 0))], [(327684, (2147483657, 2147483657)), (327685, (2147483657, 2147483657))], [], [.inl (some (.inl (2147483648, 2147483648)), [])], 4)
theorem hct_X10_redo_n9 : z_ctH zTb ct_X10_redo_n9 := sorry
def ct_X3_doAgain_y9 : zCt := (77, [.inr (.inr (20, 0))], [(327684, (2147483657, 2147483657)), (327685, (2147483658, 2147483668))], [(12, 0, 31), (20, 4, 4)], [.inl (some (.inl (2147483649, 2147483649)), [(327684, (2147483658, 2147483658))])], 10)
theorem hct_X3_doAgain_y9 : z_ctH zTb ct_X3_doAgain_y9 := sorry
def ct_X10_redo_y9 : zCt := (161, [.inr (.inr (0, 0))], [(327684, (2147483657, 2147483657)), (327685, (2147483658, 2147483668))], [(12, 0, 31), (20, 4, 4)], [.inl (some (.inl (2147483649, 2147483649)), [(327684, (2147483658, 2147483658))])], 12)
theorem hct_X10_redo_y9 : z_ctH zTb ct_X10_redo_y9 := sorry
def ct_X3_note_d10 : zCt := (74, [.inr (.inr (20, 0)), .inl (0, 4294967295), .inl (0, 4294967295), .inl (0, 4294967295)], [(327684, (2147483658, 2147483658))], [(20, 4, 5), (21, 0, 19), (22, 0, 19), (23, 0, 19)], [.inl (none, [(327685, (2147483659, 2147483659)), (327684, (2147483659, 2147483659))])], 3)
theorem hct_X3_note_d10 : z_ctH zTb ct_X3_note_d10 := sorry
def ct_X3_noteLine_d10 : zCt := (72, [.inr (.inr (20, 0)), .inl (0, 4294967295), .inl (0, 4294967295), .inl (0, 4294967295)], [(327684, (2147483658, 2147483658))], [(20, 4, 5), (21, 0, 19), (22, 0, 19), (23, 0, 19)], [.inl (none, [(327685, (2147483659, 2147483659)), (327684, (2147483659, 2147483659))])], 5)
theorem hct_X3_noteLine_d10 : z_ctH zTb ct_X3_noteLine_d10 := sorry
def ct_X3_noteFrame_d10 : zCt := (73, [.inr (.inr (20, 0)), .inl (0, 4294967295), .inl (0, 4294967295), .inl (0, 4294967295)], [(327684, (2147483658, 2147483658))], [(20, 4, 5), (21, 0, 19), (22, 0, 19), (23, 0, 19)], [.inl (none, [(327685, (2147483659, 2147483659)), (327684, (2147483659, 2147483659))])], 5)
theorem hct_X3_noteFrame_d10 : z_ctH zTb ct_X3_noteFrame_d10 := sorry
def ct_X3_takeBack_d10 : zCt := (76, [.inr (.inr (20, 0))], [(327684, (2147483658, 2147483658))], [(12, 0, 31), (20, 4, 4)], [.inl (some (.inl (2147483649, 2147483649)), [(327684, (2147483657, 2147483657))])], 10)
theorem hct_X3_takeBack_d10 : z_ctH zTb ct_X3_takeBack_d10 := sorry
def ct_X10_undo_d10 : zCt := (160, [.inr (.inr (0, 0))], [(327684, (2147483658, 2147483658))], [(12, 0, 31), (20, 4, 4)], [.inl (some (.inl (2147483649, 2147483649)), [(327684, (2147483657, 2147483657))])], 12)
theorem hct_X10_undo_d10 : z_ctH zTb ct_X10_undo_d10 := sorry
def ct_X3_doAgain_n10 : zCt := (77, [.inr (.inr (20, 0))], [(327684, (2147483658, 2147483658)), (327685, (2147483658, 2147483658))], [], [.inl (some (.inl (2147483648, 2147483648)), [])], 2)
theorem hct_X3_doAgain_n10 : z_ctH zTb ct_X3_doAgain_n10 := sorry
def ct_X10_redo_n10 : zCt := (161, [.inr (.inr (0, 0))], [(327684, (2147483658, 2147483658)), (327685, (2147483658, 2147483658))], [], [.inl (some (.inl (2147483648, 2147483648)), [])], 4)
theorem hct_X10_redo_n10 : z_ctH zTb ct_X10_redo_n10 := sorry
def ct_X3_doAgain_y10 : zCt := (77, [.inr (.inr (20, 0))], [(327684, (2147483658, 2147483658)), (327685, (2147483659, 2147483668))], [(12, 0, 31), (20, 4, 4)], [.inl (some (.inl (2147483649, 2147483649)), [(327684, (2147483659, 2147483659))])], 10)
theorem hct_X3_doAgain_y10 : z_ctH zTb ct_X3_doAgain_y10 := sorry
def ct_X10_redo_y10 : zCt := (161, [.inr (.inr (0, 0))], [(327684, (2147483658, 2147483658)), (327685, (2147483659, 2147483668))], [(12, 0, 31), (20, 4, 4)], [.inl (some (.inl (2147483649, 2147483649)), [(327684, (2147483659, 2147483659))])], 12)
theorem hct_X10_redo_y10 : z_ctH zTb ct_X10_redo_y10 := sorry
def ct_X3_note_d11 : zCt := (74, [.inr (.inr (20, 0)), .inl (0, 4294967295), .inl (0, 4294967295), .inl (0, 4294967295)], [(327684, (2147483659, 2147483659))], [(20, 4, 5), (21, 0, 19), (22, 0, 19), (23, 0, 19)], [.inl (none, [(327685, (2147483660, 2147483660)), (327684, (2147483660, 2147483660))])], 3)
theorem hct_X3_note_d11 : z_ctH zTb ct_X3_note_d11 := sorry
def ct_X3_noteLine_d11 : zCt := (72, [.inr (.inr (20, 0)), .inl (0, 4294967295), .inl (0, 4294967295), .inl (0, 4294967295)], [(327684, (2147483659, 2147483659))], [(20, 4, 5), (21, 0, 19), (22, 0, 19), (23, 0, 19)], [.inl (none, [(327685, (2147483660, 2147483660)), (327684, (2147483660, 2147483660))])], 5)
theorem hct_X3_noteLine_d11 : z_ctH zTb ct_X3_noteLine_d11 := sorry
def ct_X3_noteFrame_d11 : zCt := (73, [.inr (.inr (20, 0)), .inl (0, 4294967295), .inl (0, 4294967295), .inl (0, 4294967295)], [(327684, (2147483659, 2147483659))], [(20, 4, 5), (21, 0, 19), (22, 0, 19), (23, 0, 19)], [.inl (none, [(327685, (2147483660, 2147483660)), (327684, (2147483660, 2147483660))])], 5)
theorem hct_X3_noteFrame_d11 : z_ctH zTb ct_X3_noteFrame_d11 := sorry
def ct_X3_takeBack_d11 : zCt := (76, [.inr (.inr (20, 0))], [(327684, (2147483659, 2147483659))], [(12, 0, 31), (20, 4, 4)], [.inl (some (.inl (2147483649, 2147483649)), [(327684, (2147483658, 2147483658))])], 10)
theorem hct_X3_takeBack_d11 : z_ctH zTb ct_X3_takeBack_d11 := sorry
def ct_X10_undo_d11 : zCt := (160, [.inr (.inr (0, 0))], [(327684, (2147483659, 2147483659))], [(12, 0, 31), (20, 4, 4)], [.inl (some (.inl (2147483649, 2147483649)), [(327684, (2147483658, 2147483658))])], 12)
theorem hct_X10_undo_d11 : z_ctH zTb ct_X10_undo_d11 := sorry
def ct_X3_doAgain_n11 : zCt := (77, [.inr (.inr (20, 0))], [(327684, (2147483659, 2147483659)), (327685, (2147483659, 2147483659))], [], [.inl (some (.inl (2147483648, 2147483648)), [])], 2)
theorem hct_X3_doAgain_n11 : z_ctH zTb ct_X3_doAgain_n11 := sorry
def ct_X10_redo_n11 : zCt := (161, [.inr (.inr (0, 0))], [(327684, (2147483659, 2147483659)), (327685, (2147483659, 2147483659))], [], [.inl (some (.inl (2147483648, 2147483648)), [])], 4)
theorem hct_X10_redo_n11 : z_ctH zTb ct_X10_redo_n11 := sorry
def ct_X3_doAgain_y11 : zCt := (77, [.inr (.inr (20, 0))], [(327684, (2147483659, 2147483659)), (327685, (2147483660, 2147483668))], [(12, 0, 31), (20, 4, 4)], [.inl (some (.inl (2147483649, 2147483649)), [(327684, (2147483660, 2147483660))])], 10)
theorem hct_X3_doAgain_y11 : z_ctH zTb ct_X3_doAgain_y11 := sorry
def ct_X10_redo_y11 : zCt := (161, [.inr (.inr (0, 0))], [(327684, (2147483659, 2147483659)), (327685, (2147483660, 2147483668))], [(12, 0, 31), (20, 4, 4)], [.inl (some (.inl (2147483649, 2147483649)), [(327684, (2147483660, 2147483660))])], 12)
theorem hct_X10_redo_y11 : z_ctH zTb ct_X10_redo_y11 := sorry
def ct_X3_note_d12 : zCt := (74, [.inr (.inr (20, 0)), .inl (0, 4294967295), .inl (0, 4294967295), .inl (0, 4294967295)], [(327684, (2147483660, 2147483660))], [(20, 4, 5), (21, 0, 19), (22, 0, 19), (23, 0, 19)], [.inl (none, [(327685, (2147483661, 2147483661)), (327684, (2147483661, 2147483661))])], 3)
theorem hct_X3_note_d12 : z_ctH zTb ct_X3_note_d12 := sorry
def ct_X3_noteLine_d12 : zCt := (72, [.inr (.inr (20, 0)), .inl (0, 4294967295), .inl (0, 4294967295), .inl (0, 4294967295)], [(327684, (2147483660, 2147483660))], [(20, 4, 5), (21, 0, 19), (22, 0, 19), (23, 0, 19)], [.inl (none, [(327685, (2147483661, 2147483661)), (327684, (2147483661, 2147483661))])], 5)
theorem hct_X3_noteLine_d12 : z_ctH zTb ct_X3_noteLine_d12 := sorry
def ct_X3_noteFrame_d12 : zCt := (73, [.inr (.inr (20, 0)), .inl (0, 4294967295), .inl (0, 4294967295), .inl (0, 4294967295)], [(327684, (2147483660, 2147483660))], [(20, 4, 5), (21, 0, 19), (22, 0, 19), (23, 0, 19)], [.inl (none, [(327685, (2147483661, 2147483661)), (327684, (2147483661, 2147483661))])], 5)
theorem hct_X3_noteFrame_d12 : z_ctH zTb ct_X3_noteFrame_d12 := sorry
def ct_X3_takeBack_d12 : zCt := (76, [.inr (.inr (20, 0))], [(327684, (2147483660, 2147483660))], [(12, 0, 31), (20, 4, 4)], [.inl (some (.inl (2147483649, 2147483649)), [(327684, (2147483659, 2147483659))])], 10)
theorem hct_X3_takeBack_d12 : z_ctH zTb ct_X3_takeBack_d12 := sorry
def ct_X10_undo_d12 : zCt := (160, [.inr (.inr (0, 0))], [(327684, (2147483660, 2147483660))], [(12, 0, 31), (20, 4, 4)], [.inl (some (.inl (2147483649, 2147483649)), [(327684, (2147483659, 2147483659))])], 12)
theorem hct_X10_undo_d12 : z_ctH zTb ct_X10_undo_d12 := sorry
def ct_X3_doAgain_n12 : zCt := (77, [.inr (.inr (20, 0))], [(327684, (2147483660, 2147483660)), (327685, (2147483660, 2147483660))], [], [.inl (some (.inl (2147483648, 2147483648)), [])], 2)
theorem hct_X3_doAgain_n12 : z_ctH zTb ct_X3_doAgain_n12 := sorry
def ct_X10_redo_n12 : zCt := (161, [.inr (.inr (0, 0))], [(327684, (2147483660, 2147483660)), (327685, (2147483660, 2147483660))], [], [.inl (some (.inl (2147483648, 2147483648)), [])], 4)
theorem hct_X10_redo_n12 : z_ctH zTb ct_X10_redo_n12 := sorry
def ct_X3_doAgain_y12 : zCt := (77, [.inr (.inr (20, 0))], [(327684, (2147483660, 2147483660)), (327685, (2147483661, 2147483668))], [(12, 0, 31), (20, 4, 4)], [.inl (some (.inl (2147483649, 2147483649)), [(327684, (2147483661, 2147483661))])], 10)
theorem hct_X3_doAgain_y12 : z_ctH zTb ct_X3_doAgain_y12 := sorry
def ct_X10_redo_y12 : zCt := (161, [.inr (.inr (0, 0))], [(327684, (2147483660, 2147483660)), (327685, (2147483661, 2147483668))], [(12, 0, 31), (20, 4, 4)], [.inl (some (.inl (2147483649, 2147483649)), [(327684, (2147483661, 2147483661))])], 12)
theorem hct_X10_redo_y12 : z_ctH zTb ct_X10_redo_y12 := sorry
def ct_X3_note_d13 : zCt := (74, [.inr (.inr (20, 0)), .inl (0, 4294967295), .inl (0, 4294967295), .inl (0, 4294967295)], [(327684, (2147483661, 2147483661))], [(20, 4, 5), (21, 0, 19), (22, 0, 19), (23, 0, 19)], [.inl (none, [(327685, (2147483662, 2147483662)), (327684, (2147483662, 2147483662))])], 3)
theorem hct_X3_note_d13 : z_ctH zTb ct_X3_note_d13 := sorry
def ct_X3_noteLine_d13 : zCt := (72, [.inr (.inr (20, 0)), .inl (0, 4294967295), .inl (0, 4294967295), .inl (0, 4294967295)], [(327684, (2147483661, 2147483661))], [(20, 4, 5), (21, 0, 19), (22, 0, 19), (23, 0, 19)], [.inl (none, [(327685, (2147483662, 2147483662)), (327684, (2147483662, 2147483662))])], 5)
theorem hct_X3_noteLine_d13 : z_ctH zTb ct_X3_noteLine_d13 := sorry
def ct_X3_noteFrame_d13 : zCt := (73, [.inr (.inr (20, 0)), .inl (0, 4294967295), .inl (0, 4294967295), .inl (0, 4294967295)], [(327684, (2147483661, 2147483661))], [(20, 4, 5), (21, 0, 19), (22, 0, 19), (23, 0, 19)], [.inl (none, [(327685, (2147483662, 2147483662)), (327684, (2147483662, 2147483662))])], 5)
theorem hct_X3_noteFrame_d13 : z_ctH zTb ct_X3_noteFrame_d13 := sorry
def ct_X3_takeBack_d13 : zCt := (76, [.inr (.inr (20, 0))], [(327684, (2147483661, 2147483661))], [(12, 0, 31), (20, 4, 4)], [.inl (some (.inl (2147483649, 2147483649)), [(327684, (2147483660, 2147483660))])], 10)
theorem hct_X3_takeBack_d13 : z_ctH zTb ct_X3_takeBack_d13 := sorry
def ct_X10_undo_d13 : zCt := (160, [.inr (.inr (0, 0))], [(327684, (2147483661, 2147483661))], [(12, 0, 31), (20, 4, 4)], [.inl (some (.inl (2147483649, 2147483649)), [(327684, (2147483660, 2147483660))])], 12)
theorem hct_X10_undo_d13 : z_ctH zTb ct_X10_undo_d13 := sorry
def ct_X3_doAgain_n13 : zCt := (77, [.inr (.inr (20, 0))], [(327684, (2147483661, 2147483661)), (327685, (2147483661, 2147483661))], [], [.inl (some (.inl (2147483648, 2147483648)), [])], 2)
theorem hct_X3_doAgain_n13 : z_ctH zTb ct_X3_doAgain_n13 := sorry
def ct_X10_redo_n13 : zCt := (161, [.inr (.inr (0, 0))], [(327684, (2147483661, 2147483661)), (327685, (2147483661, 2147483661))], [], [.inl (some (.inl (2147483648, 2147483648)), [])], 4)
theorem hct_X10_redo_n13 : z_ctH zTb ct_X10_redo_n13 := sorry
def ct_X3_doAgain_y13 : zCt := (77, [.inr (.inr (20, 0))], [(327684, (2147483661, 2147483661)), (327685, (2147483662, 2147483668))], [(12, 0, 31), (20, 4, 4)], [.inl (some (.inl (2147483649, 2147483649)), [(327684, (2147483662, 2147483662))])], 10)
theorem hct_X3_doAgain_y13 : z_ctH zTb ct_X3_doAgain_y13 := sorry
def ct_X10_redo_y13 : zCt := (161, [.inr (.inr (0, 0))], [(327684, (2147483661, 2147483661)), (327685, (2147483662, 2147483668))], [(12, 0, 31), (20, 4, 4)], [.inl (some (.inl (2147483649, 2147483649)), [(327684, (2147483662, 2147483662))])], 12)
theorem hct_X10_redo_y13 : z_ctH zTb ct_X10_redo_y13 := sorry
def ct_X3_note_d14 : zCt := (74, [.inr (.inr (20, 0)), .inl (0, 4294967295), .inl (0, 4294967295), .inl (0, 4294967295)], [(327684, (2147483662, 2147483662))], [(20, 4, 5), (21, 0, 19), (22, 0, 19), (23, 0, 19)], [.inl (none, [(327685, (2147483663, 2147483663)), (327684, (2147483663, 2147483663))])], 3)
theorem hct_X3_note_d14 : z_ctH zTb ct_X3_note_d14 := sorry
def ct_X3_noteLine_d14 : zCt := (72, [.inr (.inr (20, 0)), .inl (0, 4294967295), .inl (0, 4294967295), .inl (0, 4294967295)], [(327684, (2147483662, 2147483662))], [(20, 4, 5), (21, 0, 19), (22, 0, 19), (23, 0, 19)], [.inl (none, [(327685, (2147483663, 2147483663)), (327684, (2147483663, 2147483663))])], 5)
theorem hct_X3_noteLine_d14 : z_ctH zTb ct_X3_noteLine_d14 := sorry
def ct_X3_noteFrame_d14 : zCt := (73, [.inr (.inr (20, 0)), .inl (0, 4294967295), .inl (0, 4294967295), .inl (0, 4294967295)], [(327684, (2147483662, 2147483662))], [(20, 4, 5), (21, 0, 19), (22, 0, 19), (23, 0, 19)], [.inl (none, [(327685, (2147483663, 2147483663)), (327684, (2147483663, 2147483663))])], 5)
theorem hct_X3_noteFrame_d14 : z_ctH zTb ct_X3_noteFrame_d14 := sorry
def ct_X3_takeBack_d14 : zCt := (76, [.inr (.inr (20, 0))], [(327684, (2147483662, 2147483662))], [(12, 0, 31), (20, 4, 4)], [.inl (some (.inl (2147483649, 2147483649)), [(327684, (2147483661, 2147483661))])], 10)
theorem hct_X3_takeBack_d14 : z_ctH zTb ct_X3_takeBack_d14 := sorry
def ct_X10_undo_d14 : zCt := (160, [.inr (.inr (0, 0))], [(327684, (2147483662, 2147483662))], [(12, 0, 31), (20, 4, 4)], [.inl (some (.inl (2147483649, 2147483649)), [(327684, (2147483661, 2147483661))])], 12)
theorem hct_X10_undo_d14 : z_ctH zTb ct_X10_undo_d14 := sorry
def ct_X3_doAgain_n14 : zCt := (77, [.inr (.inr (20, 0))], [(327684, (2147483662, 2147483662)), (327685, (2147483662, 2147483662))], [], [.inl (some (.inl (2147483648, 2147483648)), [])], 2)
theorem hct_X3_doAgain_n14 : z_ctH zTb ct_X3_doAgain_n14 := sorry
def ct_X10_redo_n14 : zCt := (161, [.inr (.inr (0, 0))], [(327684, (2147483662, 2147483662)), (327685, (2147483662, 2147483662))], [], [.inl (some (.inl (2147483648, 2147483648)), [])], 4)
theorem hct_X10_redo_n14 : z_ctH zTb ct_X10_redo_n14 := sorry
def ct_X3_doAgain_y14 : zCt := (77, [.inr (.inr (20, 0))], [(327684, (2147483662, 2147483662)), (327685, (2147483663, 2147483668))], [(12, 0, 31), (20, 4, 4)], [.inl (some (.inl (2147483649, 2147483649)), [(327684, (2147483663, 2147483663))])], 10)
theorem hct_X3_doAgain_y14 : z_ctH zTb ct_X3_doAgain_y14 := sorry
def ct_X10_redo_y14 : zCt := (161, [.inr (.inr (0, 0))], [(327684, (2147483662, 2147483662)), (327685, (2147483663, 2147483668))], [(12, 0, 31), (20, 4, 4)], [.inl (some (.inl (2147483649, 2147483649)), [(327684, (2147483663, 2147483663))])], 12)
theorem hct_X10_redo_y14 : z_ctH zTb ct_X10_redo_y14 := sorry
def ct_X3_note_d15 : zCt := (74, [.inr (.inr (20, 0)), .inl (0, 4294967295), .inl (0, 4294967295), .inl (0, 4294967295)], [(327684, (2147483663, 2147483663))], [(20, 4, 5), (21, 0, 19), (22, 0, 19), (23, 0, 19)], [.inl (none, [(327685, (2147483664, 2147483664)), (327684, (2147483664, 2147483664))])], 3)
theorem hct_X3_note_d15 : z_ctH zTb ct_X3_note_d15 := sorry
def ct_X3_noteLine_d15 : zCt := (72, [.inr (.inr (20, 0)), .inl (0, 4294967295), .inl (0, 4294967295), .inl (0, 4294967295)], [(327684, (2147483663, 2147483663))], [(20, 4, 5), (21, 0, 19), (22, 0, 19), (23, 0, 19)], [.inl (none, [(327685, (2147483664, 2147483664)), (327684, (2147483664, 2147483664))])], 5)
theorem hct_X3_noteLine_d15 : z_ctH zTb ct_X3_noteLine_d15 := sorry
def ct_X3_noteFrame_d15 : zCt := (73, [.inr (.inr (20, 0)), .inl (0, 4294967295), .inl (0, 4294967295), .inl (0, 4294967295)], [(327684, (2147483663, 2147483663))], [(20, 4, 5), (21, 0, 19), (22, 0, 19), (23, 0, 19)], [.inl (none, [(327685, (2147483664, 2147483664)), (327684, (2147483664, 2147483664))])], 5)
theorem hct_X3_noteFrame_d15 : z_ctH zTb ct_X3_noteFrame_d15 := sorry
def ct_X3_takeBack_d15 : zCt := (76, [.inr (.inr (20, 0))], [(327684, (2147483663, 2147483663))], [(12, 0, 31), (20, 4, 4)], [.inl (some (.inl (2147483649, 2147483649)), [(327684, (2147483662, 2147483662))])], 10)
theorem hct_X3_takeBack_d15 : z_ctH zTb ct_X3_takeBack_d15 := sorry
def ct_X10_undo_d15 : zCt := (160, [.inr (.inr (0, 0))], [(327684, (2147483663, 2147483663))], [(12, 0, 31), (20, 4, 4)], [.inl (some (.inl (2147483649, 2147483649)), [(327684, (2147483662, 2147483662))])], 12)
theorem hct_X10_undo_d15 : z_ctH zTb ct_X10_undo_d15 := sorry
def ct_X3_doAgain_n15 : zCt := (77, [.inr (.inr (20, 0))], [(327684, (2147483663, 2147483663)), (327685, (2147483663, 2147483663))], [], [.inl (some (.inl (2147483648, 2147483648)), [])], 2)
theorem hct_X3_doAgain_n15 : z_ctH zTb ct_X3_doAgain_n15 := sorry
def ct_X10_redo_n15 : zCt := (161, [.inr (.inr (0, 0))], [(327684, (2147483663, 2147483663)), (327685, (2147483663, 2147483663))], [], [.inl (some (.inl (2147483648, 2147483648)), [])], 4)
theorem hct_X10_redo_n15 : z_ctH zTb ct_X10_redo_n15 := sorry
def ct_X3_doAgain_y15 : zCt := (77, [.inr (.inr (20, 0))], [(327684, (2147483663, 2147483663)), (327685, (2147483664, 2147483668))], [(12, 0, 31), (20, 4, 4)], [.inl (some (.inl (2147483649, 2147483649)), [(327684, (2147483664, 2147483664))])], 10)
theorem hct_X3_doAgain_y15 : z_ctH zTb ct_X3_doAgain_y15 := sorry
def ct_X10_redo_y15 : zCt := (161, [.inr (.inr (0, 0))], [(327684, (2147483663, 2147483663)), (327685, (2147483664, 2147483668))], [(12, 0, 31), (20, 4, 4)], [.inl (some (.inl (2147483649, 2147483649)), [(327684, (2147483664, 2147483664))])], 12)
theorem hct_X10_redo_y15 : z_ctH zTb ct_X10_redo_y15 := sorry
def ct_X3_note_d16 : zCt := (74, [.inr (.inr (20, 0)), .inl (0, 4294967295), .inl (0, 4294967295), .inl (0, 4294967295)], [(327684, (2147483664, 2147483664))], [(20, 4, 5), (21, 0, 19), (22, 0, 19), (23, 0, 19)], [.inl (none, [(327685, (2147483665, 2147483665)), (327684, (2147483665, 2147483665))])], 3)
theorem hct_X3_note_d16 : z_ctH zTb ct_X3_note_d16 := sorry
def ct_X3_noteLine_d16 : zCt := (72, [.inr (.inr (20, 0)), .inl (0, 4294967295), .inl (0, 4294967295), .inl (0, 4294967295)], [(327684, (2147483664, 2147483664))], [(20, 4, 5), (21, 0, 19), (22, 0, 19), (23, 0, 19)], [.inl (none, [(327685, (2147483665, 2147483665)), (327684, (2147483665, 2147483665))])], 5)
theorem hct_X3_noteLine_d16 : z_ctH zTb ct_X3_noteLine_d16 := sorry
def ct_X3_noteFrame_d16 : zCt := (73, [.inr (.inr (20, 0)), .inl (0, 4294967295), .inl (0, 4294967295), .inl (0, 4294967295)], [(327684, (2147483664, 2147483664))], [(20, 4, 5), (21, 0, 19), (22, 0, 19), (23, 0, 19)], [.inl (none, [(327685, (2147483665, 2147483665)), (327684, (2147483665, 2147483665))])], 5)
theorem hct_X3_noteFrame_d16 : z_ctH zTb ct_X3_noteFrame_d16 := sorry
def ct_X3_takeBack_d16 : zCt := (76, [.inr (.inr (20, 0))], [(327684, (2147483664, 2147483664))], [(12, 0, 31), (20, 4, 4)], [.inl (some (.inl (2147483649, 2147483649)), [(327684, (2147483663, 2147483663))])], 10)
theorem hct_X3_takeBack_d16 : z_ctH zTb ct_X3_takeBack_d16 := sorry
def ct_X10_undo_d16 : zCt := (160, [.inr (.inr (0, 0))], [(327684, (2147483664, 2147483664))], [(12, 0, 31), (20, 4, 4)], [.inl (some (.inl (2147483649, 2147483649)), [(327684, (2147483663, 2147483663))])], 12)
theorem hct_X10_undo_d16 : z_ctH zTb ct_X10_undo_d16 := sorry
def ct_X3_doAgain_n16 : zCt := (77, [.inr (.inr (20, 0))], [(327684, (2147483664, 2147483664)), (327685, (2147483664, 2147483664))], [], [.inl (some (.inl (2147483648, 2147483648)), [])], 2)
theorem hct_X3_doAgain_n16 : z_ctH zTb ct_X3_doAgain_n16 := sorry
def ct_X10_redo_n16 : zCt := (161, [.inr (.inr (0, 0))], [(327684, (2147483664, 2147483664)), (327685, (2147483664, 2147483664))], [], [.inl (some (.inl (2147483648, 2147483648)), [])], 4)
theorem hct_X10_redo_n16 : z_ctH zTb ct_X10_redo_n16 := sorry
def ct_X3_doAgain_y16 : zCt := (77, [.inr (.inr (20, 0))], [(327684, (2147483664, 2147483664)), (327685, (2147483665, 2147483668))], [(12, 0, 31), (20, 4, 4)], [.inl (some (.inl (2147483649, 2147483649)), [(327684, (2147483665, 2147483665))])], 10)
theorem hct_X3_doAgain_y16 : z_ctH zTb ct_X3_doAgain_y16 := sorry
def ct_X10_redo_y16 : zCt := (161, [.inr (.inr (0, 0))], [(327684, (2147483664, 2147483664)), (327685, (2147483665, 2147483668))], [(12, 0, 31), (20, 4, 4)], [.inl (some (.inl (2147483649, 2147483649)), [(327684, (2147483665, 2147483665))])], 12)
theorem hct_X10_redo_y16 : z_ctH zTb ct_X10_redo_y16 := sorry
def ct_X3_note_d17 : zCt := (74, [.inr (.inr (20, 0)), .inl (0, 4294967295), .inl (0, 4294967295), .inl (0, 4294967295)], [(327684, (2147483665, 2147483665))], [(20, 4, 5), (21, 0, 19), (22, 0, 19), (23, 0, 19)], [.inl (none, [(327685, (2147483666, 2147483666)), (327684, (2147483666, 2147483666))])], 3)
theorem hct_X3_note_d17 : z_ctH zTb ct_X3_note_d17 := sorry
def ct_X3_noteLine_d17 : zCt := (72, [.inr (.inr (20, 0)), .inl (0, 4294967295), .inl (0, 4294967295), .inl (0, 4294967295)], [(327684, (2147483665, 2147483665))], [(20, 4, 5), (21, 0, 19), (22, 0, 19), (23, 0, 19)], [.inl (none, [(327685, (2147483666, 2147483666)), (327684, (2147483666, 2147483666))])], 5)
theorem hct_X3_noteLine_d17 : z_ctH zTb ct_X3_noteLine_d17 := sorry
def ct_X3_noteFrame_d17 : zCt := (73, [.inr (.inr (20, 0)), .inl (0, 4294967295), .inl (0, 4294967295), .inl (0, 4294967295)], [(327684, (2147483665, 2147483665))], [(20, 4, 5), (21, 0, 19), (22, 0, 19), (23, 0, 19)], [.inl (none, [(327685, (2147483666, 2147483666)), (327684, (2147483666, 2147483666))])], 5)
theorem hct_X3_noteFrame_d17 : z_ctH zTb ct_X3_noteFrame_d17 := sorry
def ct_X3_takeBack_d17 : zCt := (76, [.inr (.inr (20, 0))], [(327684, (2147483665, 2147483665))], [(12, 0, 31), (20, 4, 4)], [.inl (some (.inl (2147483649, 2147483649)), [(327684, (2147483664, 2147483664))])], 10)
theorem hct_X3_takeBack_d17 : z_ctH zTb ct_X3_takeBack_d17 := sorry
def ct_X10_undo_d17 : zCt := (160, [.inr (.inr (0, 0))], [(327684, (2147483665, 2147483665))], [(12, 0, 31), (20, 4, 4)], [.inl (some (.inl (2147483649, 2147483649)), [(327684, (2147483664, 2147483664))])], 12)
theorem hct_X10_undo_d17 : z_ctH zTb ct_X10_undo_d17 := sorry
def ct_X3_doAgain_n17 : zCt := (77, [.inr (.inr (20, 0))], [(327684, (2147483665, 2147483665)), (327685, (2147483665, 2147483665))], [], [.inl (some (.inl (2147483648, 2147483648)), [])], 2)
theorem hct_X3_doAgain_n17 : z_ctH zTb ct_X3_doAgain_n17 := sorry
def ct_X10_redo_n17 : zCt := (161, [.inr (.inr (0, 0))], [(327684, (2147483665, 2147483665)), (327685, (2147483665, 2147483665))], [], [.inl (some (.inl (2147483648, 2147483648)), [])], 4)
theorem hct_X10_redo_n17 : z_ctH zTb ct_X10_redo_n17 := sorry
def ct_X3_doAgain_y17 : zCt := (77, [.inr (.inr (20, 0))], [(327684, (2147483665, 2147483665)), (327685, (2147483666, 2147483668))], [(12, 0, 31), (20, 4, 4)], [.inl (some (.inl (2147483649, 2147483649)), [(327684, (2147483666, 2147483666))])], 10)
theorem hct_X3_doAgain_y17 : z_ctH zTb ct_X3_doAgain_y17 := sorry
def ct_X10_redo_y17 : zCt := (161, [.inr (.inr (0, 0))], [(327684, (2147483665, 2147483665)), (327685, (2147483666, 2147483668))], [(12, 0, 31), (20, 4, 4)], [.inl (some (.inl (2147483649, 2147483649)), [(327684, (2147483666, 2147483666))])], 12)
theorem hct_X10_redo_y17 : z_ctH zTb ct_X10_redo_y17 := sorry
def ct_X3_note_d18 : zCt := (74, [.inr (.inr (20, 0)), .inl (0, 4294967295), .inl (0, 4294967295), .inl (0, 4294967295)], [(327684, (2147483666, 2147483666))], [(20, 4, 5), (21, 0, 19), (22, 0, 19), (23, 0, 19)], [.inl (none, [(327685, (2147483667, 2147483667)), (327684, (2147483667, 2147483667))])], 3)
theorem hct_X3_note_d18 : z_ctH zTb ct_X3_note_d18 := sorry
def ct_X3_noteLine_d18 : zCt := (72, [.inr (.inr (20, 0)), .inl (0, 4294967295), .inl (0, 4294967295), .inl (0, 4294967295)], [(327684, (2147483666, 2147483666))], [(20, 4, 5), (21, 0, 19), (22, 0, 19), (23, 0, 19)], [.inl (none, [(327685, (2147483667, 2147483667)), (327684, (2147483667, 2147483667))])], 5)
theorem hct_X3_noteLine_d18 : z_ctH zTb ct_X3_noteLine_d18 := sorry
def ct_X3_noteFrame_d18 : zCt := (73, [.inr (.inr (20, 0)), .inl (0, 4294967295), .inl (0, 4294967295), .inl (0, 4294967295)], [(327684, (2147483666, 2147483666))], [(20, 4, 5), (21, 0, 19), (22, 0, 19), (23, 0, 19)], [.inl (none, [(327685, (2147483667, 2147483667)), (327684, (2147483667, 2147483667))])], 5)
theorem hct_X3_noteFrame_d18 : z_ctH zTb ct_X3_noteFrame_d18 := sorry
def ct_X3_takeBack_d18 : zCt := (76, [.inr (.inr (20, 0))], [(327684, (2147483666, 2147483666))], [(12, 0, 31), (20, 4, 4)], [.inl (some (.inl (2147483649, 2147483649)), [(327684, (2147483665, 2147483665))])], 10)
theorem hct_X3_takeBack_d18 : z_ctH zTb ct_X3_takeBack_d18 := sorry
def ct_X10_undo_d18 : zCt := (160, [.inr (.inr (0, 0))], [(327684, (2147483666, 2147483666))], [(12, 0, 31), (20, 4, 4)], [.inl (some (.inl (2147483649, 2147483649)), [(327684, (2147483665, 2147483665))])], 12)
theorem hct_X10_undo_d18 : z_ctH zTb ct_X10_undo_d18 := sorry
def ct_X3_doAgain_n18 : zCt := (77, [.inr (.inr (20, 0))], [(327684, (2147483666, 2147483666)), (327685, (2147483666, 2147483666))], [], [.inl (some (.inl (2147483648, 2147483648)), [])], 2)
theorem hct_X3_doAgain_n18 : z_ctH zTb ct_X3_doAgain_n18 := sorry
def ct_X10_redo_n18 : zCt := (161, [.inr (.inr (0, 0))], [(327684, (2147483666, 2147483666)), (327685, (2147483666, 2147483666))], [], [.inl (some (.inl (2147483648, 2147483648)), [])], 4)
theorem hct_X10_redo_n18 : z_ctH zTb ct_X10_redo_n18 := sorry
def ct_X3_doAgain_y18 : zCt := (77, [.inr (.inr (20, 0))], [(327684, (2147483666, 2147483666)), (327685, (2147483667, 2147483668))], [(12, 0, 31), (20, 4, 4)], [.inl (some (.inl (2147483649, 2147483649)), [(327684, (2147483667, 2147483667))])], 10)
theorem hct_X3_doAgain_y18 : z_ctH zTb ct_X3_doAgain_y18 := sorry
def ct_X10_redo_y18 : zCt := (161, [.inr (.inr (0, 0))], [(327684, (2147483666, 2147483666)), (327685, (2147483667, 2147483668))], [(12, 0, 31), (20, 4, 4)], [.inl (some (.inl (2147483649, 2147483649)), [(327684, (2147483667, 2147483667))])], 12)
theorem hct_X10_redo_y18 : z_ctH zTb ct_X10_redo_y18 := sorry
def ct_X3_note_d19 : zCt := (74, [.inr (.inr (20, 0)), .inl (0, 4294967295), .inl (0, 4294967295), .inl (0, 4294967295)], [(327684, (2147483667, 2147483667))], [(20, 4, 5), (21, 0, 19), (22, 0, 19), (23, 0, 19)], [.inl (none, [(327685, (2147483668, 2147483668)), (327684, (2147483668, 2147483668))])], 3)
theorem hct_X3_note_d19 : z_ctH zTb ct_X3_note_d19 := sorry
def ct_X3_noteLine_d19 : zCt := (72, [.inr (.inr (20, 0)), .inl (0, 4294967295), .inl (0, 4294967295), .inl (0, 4294967295)], [(327684, (2147483667, 2147483667))], [(20, 4, 5), (21, 0, 19), (22, 0, 19), (23, 0, 19)], [.inl (none, [(327685, (2147483668, 2147483668)), (327684, (2147483668, 2147483668))])], 5)
theorem hct_X3_noteLine_d19 : z_ctH zTb ct_X3_noteLine_d19 := sorry
def ct_X3_noteFrame_d19 : zCt := (73, [.inr (.inr (20, 0)), .inl (0, 4294967295), .inl (0, 4294967295), .inl (0, 4294967295)], [(327684, (2147483667, 2147483667))], [(20, 4, 5), (21, 0, 19), (22, 0, 19), (23, 0, 19)], [.inl (none, [(327685, (2147483668, 2147483668)), (327684, (2147483668, 2147483668))])], 5)
theorem hct_X3_noteFrame_d19 : z_ctH zTb ct_X3_noteFrame_d19 := sorry
def ct_X3_takeBack_d19 : zCt := (76, [.inr (.inr (20, 0))], [(327684, (2147483667, 2147483667))], [(12, 0, 31), (20, 4, 4)], [.inl (some (.inl (2147483649, 2147483649)), [(327684, (2147483666, 2147483666))])], 10)
theorem hct_X3_takeBack_d19 : z_ctH zTb ct_X3_takeBack_d19 := sorry
def ct_X10_undo_d19 : zCt := (160, [.inr (.inr (0, 0))], [(327684, (2147483667, 2147483667))], [(12, 0, 31), (20, 4, 4)], [.inl (some (.inl (2147483649, 2147483649)), [(327684, (2147483666, 2147483666))])], 12)
theorem hct_X10_undo_d19 : z_ctH zTb ct_X10_undo_d19 := sorry
def ct_X3_doAgain_n19 : zCt := (77, [.inr (.inr (20, 0))], [(327684, (2147483667, 2147483667)), (327685, (2147483667, 2147483667))], [], [.inl (some (.inl (2147483648, 2147483648)), [])], 2)
theorem hct_X3_doAgain_n19 : z_ctH zTb ct_X3_doAgain_n19 := sorry
def ct_X10_redo_n19 : zCt := (161, [.inr (.inr (0, 0))], [(327684, (2147483667, 2147483667)), (327685, (2147483667, 2147483667))], [], [.inl (some (.inl (2147483648, 2147483648)), [])], 4)
theorem hct_X10_redo_n19 : z_ctH zTb ct_X10_redo_n19 := sorry
def ct_X3_doAgain_y19 : zCt := (77, [.inr (.inr (20, 0))], [(327684, (2147483667, 2147483667)), (327685, (2147483668, 2147483668))], [(12, 0, 31), (20, 4, 4)], [.inl (some (.inl (2147483649, 2147483649)), [(327684, (2147483668, 2147483668))])], 10)
theorem hct_X3_doAgain_y19 : z_ctH zTb ct_X3_doAgain_y19 := sorry
def ct_X10_redo_y19 : zCt := (161, [.inr (.inr (0, 0))], [(327684, (2147483667, 2147483667)), (327685, (2147483668, 2147483668))], [(12, 0, 31), (20, 4, 4)], [.inl (some (.inl (2147483649, 2147483649)), [(327684, (2147483668, 2147483668))])], 12)
theorem hct_X10_redo_y19 : z_ctH zTb ct_X10_redo_y19 := sorry
def ct_X3_note_d20 : zCt := (74, [.inr (.inr (20, 0)), .inl (0, 4294967295), .inl (0, 4294967295), .inl (0, 4294967295)], [(327684, (2147483668, 2147483668))], [(20, 4, 5), (21, 0, 19), (22, 0, 19), (23, 0, 19)], [.inl (none, [(327685, (2147483668, 2147483668)), (327684, (2147483668, 2147483668))])], 5)
theorem hct_X3_note_d20 : z_ctH zTb ct_X3_note_d20 := sorry
def ct_X3_noteLine_d20 : zCt := (72, [.inr (.inr (20, 0)), .inl (0, 4294967295), .inl (0, 4294967295), .inl (0, 4294967295)], [(327684, (2147483668, 2147483668))], [(20, 4, 5), (21, 0, 19), (22, 0, 19), (23, 0, 19)], [.inl (none, [(327685, (2147483668, 2147483668)), (327684, (2147483668, 2147483668))])], 7)
theorem hct_X3_noteLine_d20 : z_ctH zTb ct_X3_noteLine_d20 := sorry
def ct_X3_noteFrame_d20 : zCt := (73, [.inr (.inr (20, 0)), .inl (0, 4294967295), .inl (0, 4294967295), .inl (0, 4294967295)], [(327684, (2147483668, 2147483668))], [(20, 4, 5), (21, 0, 19), (22, 0, 19), (23, 0, 19)], [.inl (none, [(327685, (2147483668, 2147483668)), (327684, (2147483668, 2147483668))])], 7)
theorem hct_X3_noteFrame_d20 : z_ctH zTb ct_X3_noteFrame_d20 := sorry
def ct_X3_takeBack_d20 : zCt := (76, [.inr (.inr (20, 0))], [(327684, (2147483668, 2147483668))], [(12, 0, 31), (20, 4, 4)], [.inl (some (.inl (2147483649, 2147483649)), [(327684, (2147483667, 2147483667))])], 10)
theorem hct_X3_takeBack_d20 : z_ctH zTb ct_X3_takeBack_d20 := sorry
def ct_X10_undo_d20 : zCt := (160, [.inr (.inr (0, 0))], [(327684, (2147483668, 2147483668))], [(12, 0, 31), (20, 4, 4)], [.inl (some (.inl (2147483649, 2147483649)), [(327684, (2147483667, 2147483667))])], 12)
theorem hct_X10_undo_d20 : z_ctH zTb ct_X10_undo_d20 := sorry
def ct_X3_doAgain_n20 : zCt := (77, [.inr (.inr (20, 0))], [(327684, (2147483668, 2147483668)), (327685, (2147483668, 2147483668))], [], [.inl (some (.inl (2147483648, 2147483648)), [])], 2)
theorem hct_X3_doAgain_n20 : z_ctH zTb ct_X3_doAgain_n20 := sorry
def ct_X10_redo_n20 : zCt := (161, [.inr (.inr (0, 0))], [(327684, (2147483668, 2147483668)), (327685, (2147483668, 2147483668))], [], [.inl (some (.inl (2147483648, 2147483648)), [])], 4)
theorem hct_X10_redo_n20 : z_ctH zTb ct_X10_redo_n20 := sorry
def ct_X7_begin_0 : zCt := (113, [.inr (.inr (24, 0))], [], [(25, 0, 7)], [.inl (none, [])], 3)
theorem hct_X7_begin_0 : z_ctH zTb ct_X7_begin_0 := sorry
def ct_X7_multiplyOnce_0 : zCt := (115, [.inr (.inr (24, 0))], [], [(25, 0, 7), (26, 0, 7)], [.inl (none, [])], 5)
theorem hct_X7_multiplyOnce_0 : z_ctH zTb ct_X7_multiplyOnce_0 := sorry
def ct_X7_multiply : zCt := (114, [.inr (.inr (24, 0)), .inl (2147483648, 2147483664)], [], [(25, 0, 7), (26, 0, 7)], [.inl (none, [])], 7)
theorem hct_X7_multiply : z_ctH zTb ct_X7_multiply := sorry
def ct_X7_takeSquare_0 : zCt := (116, [.inr (.inr (24, 0)), .inl (0, 4294967295)], [], [(27, 0, 7)], [.inl (none, [])], 7)
theorem hct_X7_takeSquare_0 : z_ctH zTb ct_X7_takeSquare_0 := sorry
def ct_X7_takeSame_0 : zCt := (117, [.inr (.inr (24, 0)), .inr (.inl none), .inr (.inl none)], [], [(27, 0, 7)], [.inl (none, [])], 4)
theorem hct_X7_takeSame_0 : z_ctH zTb ct_X7_takeSame_0 := sorry
def ct_X7_together_25 : zCt := (118, [.inr (.inr (24, 0)), .inr (.inr (25, 0))], [], [], [.inl (some (.inr (.inl none)), [])], 4)
theorem hct_X7_together_25 : z_ctH zTb ct_X7_together_25 := sorry
def ct_X7_together_27 : zCt := (118, [.inr (.inr (24, 0)), .inr (.inr (27, 0))], [], [], [.inl (some (.inr (.inl none)), [])], 4)
theorem hct_X7_together_27 : z_ctH zTb ct_X7_together_27 := sorry
def ct_J6_bitCount_0f7a4 : zCt := (259, [.inl (0, 4294967295)], [], [], [.inl (some (.inl (2147483648, 2147483711)), [])], 1)
theorem hct_J6_bitCount_0f7a4 : z_ctH zTb ct_J6_bitCount_0f7a4 := sorry
def ct_X7_choices : zCt := (122, [.inl (0, 4294967295), .inl (0, 4294967295)], [], [], [.inl (some (.inr (.inl none)), [])], 3)
set_option maxRecDepth 10000 in
theorem hct_X7_choices : z_ctH zTb ct_X7_choices := by
  intro nS d as M hd hS hT hG
  obtain ⟨e, rfl⟩ := h_rk hd
  obtain ⟨x0, s1, rfl, -, hS⟩ := z_S_I hS
  obtain ⟨x1, s2, rfl, -, hS⟩ := z_S_I hS
  have h1 := z_S_N hS
  subst h1
  show aC nS (e + 2 + 1) 122 _ M _ _
  refine aC_mk rfl rfl ?_
  intro K hK hF
  have lp : ∀ (n : Nat) (x2 : Int64) (x4 : Int32), 4294967296 - z_b x4 = n → K 5 [some (vI x0), some (vI x1), some (vL x2), none, some (vI x4)] [] M := by
    intro n
    induction n using Nat.strongRecOn with
    | ind n ih =>
    intro x2 x4 hm
    refine hK _ _ _ _ (hK _ _ _ _ (hK _ _ _ _ (hK _ _ _ _ (?_))))
    refine hK _ _ _ _ ⟨fun h => ?_, fun h1 => ?_⟩
    · exact hK _ _ _ _ (hK _ _ _ _ ⟨_, _, List.mem_singleton.mpr rfl, trivial, h_M0 hT⟩)
    refine hK _ _ _ _ (hK _ _ _ _ (?_))
    refine hK _ _ _ _ ⟨_, h_pI hct_J6_bitCount_0f7a4 rfl rfl rfl (show (1 : Nat) ≤ e + 2 by omega) (h_I trivial) hT, rfl, fun v M2 g => ?_⟩
    obtain ⟨⟨y, rfl, -⟩, rfl⟩ := g
    refine hK _ _ _ _ (hK _ _ _ _ ⟨fun h => ?_, fun h => ?_⟩)
    · refine hK _ _ _ _ (hK _ _ _ _ (hK _ _ _ _ (hK _ _ _ _ (?_))))
      exact hK _ _ _ _ (ih _ (v_up hm h1) _ _ rfl)
    · refine hK _ _ _ _ (hK _ _ _ _ (hK _ _ _ _ (hK _ _ _ _ (hK _ _ _ _ (?_)))))
      exact hK _ _ _ _ (ih _ (v_up hm h1) _ _ rfl)
  refine hK _ _ _ _ (hK _ _ _ _ (hK _ _ _ _ (hK _ _ _ _ (?_))))
  exact lp _ _ _ rfl
def ct_X7_overShape_0 : zCt := (119, [.inr (.inr (24, 0))], [], [], [.inl (some (.inr (.inl none)), [])], 6)
theorem hct_X7_overShape_0 : z_ctH zTb ct_X7_overShape_0 := sorry
def ct_X7_ofStates_0 : zCt := (120, [.inr (.inr (24, 0))], [], [(25, 0, 7), (26, 0, 7), (27, 0, 7)], [.inl (some (.inr (.inl none)), [])], 9)
theorem hct_X7_ofStates_0 : z_ctH zTb ct_X7_ofStates_0 := sorry
def ct_X7_statesTurned_0 : zCt := (121, [.inr (.inr (24, 0)), .inl (0, 4294967295)], [], [(25, 0, 7), (26, 0, 7), (27, 0, 7)], [.inl (some (.inr (.inl none)), [])], 9)
theorem hct_X7_statesTurned_0 : z_ctH zTb ct_X7_statesTurned_0 := sorry
def ct_X7_ofWalk_0 : zCt := (123, [.inr (.inr (24, 0)), .inr (.inr (17, 0)), .inl (0, 4294967295)], [], [(25, 0, 7), (26, 0, 7), (27, 0, 7)], [.inl (some (.inr (.inl none)), [])], 9)
theorem hct_X7_ofWalk_0 : z_ctH zTb ct_X7_ofWalk_0 := sorry

def ct_X7_restsInAll_0 : zCt := (124, [.inr (.inr (24, 0))], [], [], [.inl (some (.inl (0, 4294967295)), [])], 6)
theorem hct_X7_restsInAll_0 : z_ctH zTb ct_X7_restsInAll_0 := sorry
def ct_X7_commutingPairsOnce_0 : zCt := (126, [.inr (.inr (24, 0))], [], [], [.inl (some (.inl (2147483648, 2147483904)), [])], 8)
theorem hct_X7_commutingPairsOnce_0 : z_ctH zTb ct_X7_commutingPairsOnce_0 := sorry
def ct_X7_restsOnce_0 : zCt := (125, [.inr (.inr (24, 0))], [], [], [.inl (some (.inl (0, 4294967295)), [])], 10)
theorem hct_X7_restsOnce_0 : z_ctH zTb ct_X7_restsOnce_0 := sorry
def ct_X7_dualOf_0 : zCt := (128, [.inr (.inr (24, 0)), .inl (0, 4294967295)], [], [], [.inl (some (.inl (0, 4294967295)), [])], 5)
theorem hct_X7_dualOf_0 : z_ctH zTb ct_X7_dualOf_0 := sorry
def ct_X7_ofDuals_0 : zCt := (129, [.inr (.inr (24, 0))], [], [], [.inl (some (.inr (.inl none)), [])], 7)
theorem hct_X7_ofDuals_0 : z_ctH zTb ct_X7_ofDuals_0 := sorry
def ct_X7_ofBody : zCt := (127, [.inr (.inr (24, 0)), .inl (2147483648, 2147483654), .inl (2147483648, 2147483650), .inl (2147483648, 2147483650)], [], [(25, 0, 7), (26, 0, 7), (27, 0, 7)], [.inl (some (.inr (.inl none)), [])], 9)
theorem hct_X7_ofBody : z_ctH zTb ct_X7_ofBody := sorry
def ct_X4_turnOf_0 : zCt := (88, [.inr (.inr (28, 0)), .inl (0, 4294967295)], [], [], [.inl (some (.inl (0, 4294967295)), [])], 3)
theorem hct_X4_turnOf_0 : z_ctH zTb ct_X4_turnOf_0 := sorry
def ct_X4_comesRound_0 : zCt := (87, [.inr (.inr (28, 0)), .inl (0, 4294967295)], [], [], [.inl (some (.inl (0, 4294967295)), [])], 5)
theorem hct_X4_comesRound_0 : z_ctH zTb ct_X4_comesRound_0 := sorry
def ct_X4_findLevels : zCt := (82, [.inr (.inr (28, 0))], [], [(28, 2, 2), (29, 0, 31), (30, 0, 31), (31, 0, 31)], [.inl (none, [(458754, (2147483648, 2147483680))])], 5)
theorem hct_X4_findLevels : z_ctH zTb ct_X4_findLevels := sorry
def ct_X4_findSquare : zCt := (84, [.inr (.inr (28, 0)), .inl (2147483648, 2147483658)], [], [(32, 0, 15), (33, 0, 3), (34, 0, 31)], [.inl (none, [])], 9)
theorem hct_X4_findSquare : z_ctH zTb ct_X4_findSquare := sorry
def ct_X4_findSquare_a : zCt := (84, [.inr (.inr (28, 0)), .inl (0, 4294967295)], [], [(32, 0, 15), (33, 0, 3), (34, 0, 31)], [.inl (none, [])], 9)
theorem hct_X4_findSquare_a : z_ctH zTb ct_X4_findSquare_a := sorry
def ct_X4_findSquares : zCt := (83, [.inr (.inr (28, 0))], [], [(28, 3, 3), (32, 0, 15), (33, 0, 3), (34, 0, 31)], [.inl (none, [(458755, (2147483649, 2147483657))])], 11)
theorem hct_X4_findSquares : z_ctH zTb ct_X4_findSquares := sorry
def ct_X4_goOn : zCt := (85, [.inr (.inr (28, 0))], [], [(31, 0, 31)], [.inl (some (.inl (2147483648, 2147483679)), []), .inl (some (.inl (2147483647, 2147483647)), [])], 4)
theorem hct_X4_goOn : z_ctH zTb ct_X4_goOn := sorry
def ct_X4_weighFrom : zCt := (86, [.inr (.inr (28, 0)), .inl (2147483648, 2147483679)], [], [(35, 0, 32)], [.inl (none, [])], 7)
theorem hct_X4_weighFrom : z_ctH zTb ct_X4_weighFrom := sorry
def ct_X4_ofStates : zCt := (81, [.inr (.inr (28, 0))], [], [(28, 2, 3), (29, 0, 31), (30, 0, 31), (31, 0, 31), (32, 0, 15), (33, 0, 3), (34, 0, 31), (35, 0, 32)], [.inl (some (.inr (.inl none)), [])], 12)
set_option maxRecDepth 10000 in
theorem hct_X4_ofStates : z_ctH zTb ct_X4_ofStates := by
  intro nS d as M hd hS hT hG
  obtain ⟨e, rfl⟩ := h_rk hd
  have h1 := h_S1 (by decide) hS
  subst h1
  show aC nS (e + 11 + 1) 81 _ M _ _
  refine aC_mk rfl rfl ?_
  intro K hK hF
  have lp : ∀ (n : Nat) (M1 : aM) (x1 : Int64) (x3 x4 : Int32), 4294967296 - z_b x4 = n → z_i (2147483647, 2147483679) x3 → z_M (zTb, [(28, 2, 3), (29, 0, 31), (30, 0, 31), (31, 0, 31), (32, 0, 15), (33, 0, 3), (34, 0, 31), (35, 0, 32)], []) M [] M1 → K 24 [some (vR 28 0), some (vL x1), none, some (vI x3), some (vI x4)] [] M1 := by
    intro n
    induction n using Nat.strongRecOn with
    | ind n ih =>
    intro M1 x1 x3 x4 hm hx hM
    have tail : K 66 [some (vR 28 0), some (vL x1), none, some (vI x3), some (vI x4)] [] M1 := hK _ _ _ _ (hK _ _ _ _ ⟨_, _, List.mem_singleton.mpr rfl, trivial, hM⟩)
    refine hK _ _ _ _ (hK _ _ _ _ (?_))
    refine hK _ _ _ _ ⟨fun h => tail, fun h1 => ?_⟩
    refine hK _ _ _ _ (hK _ _ _ _ (?_))
    refine hK _ _ _ _ ⟨fun h => tail, fun h2 => ?_⟩
    have hx2 : z_i (2147483648, 2147483679) x3 := by
      refine ⟨?_, hx.2⟩
      have h3 : ¬ z_b x3 = 2147483647 := fun z => h2 (z_b_inj (z.trans z_b_m1.symm))
      have h4 := hx.1
      dsimp only at h4 ⊢
      omega
    refine hK _ _ _ _ (hK _ _ _ _ (?_))
    refine hK _ _ _ _ ⟨_, h_pW hct_X4_weighFrom rfl rfl (show (7 : Nat) ≤ e + 11 by omega) (h_R (h_Iv hx2 trivial)) hM.1, rfl, fun v M2 g => ?_⟩
    obtain ⟨g1, g2⟩ := g
    have g1 := h_ovN g1
    subst g1
    have hM2 : z_M (zTb, [(28, 2, 3), (29, 0, 31), (30, 0, 31), (31, 0, 31), (32, 0, 15), (33, 0, 3), (34, 0, 31), (35, 0, 32)], []) M [] M2 := h_Mt hM g2 (by decide)
    refine hK _ _ _ _ (hK _ _ _ _ (hK _ _ _ _ (hK _ _ _ _ (hK _ _ _ _ (?_)))))
    refine hK _ _ _ _ ⟨_, h_pW hct_X6_at__35_0 rfl rfl (show (1 : Nat) ≤ e + 11 by omega) (h_R (h_I trivial)) hM2.1, rfl, fun v M3 g => ?_⟩
    obtain ⟨g1, g3⟩ := g
    obtain ⟨y, rfl⟩ := h_ovJ g1
    have hM3 : z_M (zTb, [(28, 2, 3), (29, 0, 31), (30, 0, 31), (31, 0, 31), (32, 0, 15), (33, 0, 3), (34, 0, 31), (35, 0, 32)], []) M [] M3 := h_Mt hM2 g3 (by decide)
    refine hK _ _ _ _ (hK _ _ _ _ (hK _ _ _ _ (?_)))
    refine hK _ _ _ _ ⟨_, h_p2 hct_X4_goOn rfl (show (4 : Nat) ≤ e + 11 by omega) (h_R trivial) hM3.1 h_MG0, rfl, fun v M4 g => ?_⟩
    obtain ⟨y, rfl, g4⟩ := g
    have hy : z_i (2147483647, 2147483679) y ∧ z_M (zTb, [(28, 2, 3), (29, 0, 31), (30, 0, 31), (31, 0, 31), (32, 0, 15), (33, 0, 3), (34, 0, 31), (35, 0, 32)], []) M [] M4 := by
      rcases g4 with ⟨q1, q2⟩ | ⟨q1, q2⟩
      · exact ⟨z_iI_ok (by decide) q1, h_Mt hM3 (h_Md q2) (by decide)⟩
      · exact ⟨z_iI_ok (by decide) q1, h_Mt hM3 (h_Md q2) (by decide)⟩
    refine hK _ _ _ _ (hK _ _ _ _ (hK _ _ _ _ (?_)))
    exact ih _ (v_up hm h1) _ _ _ _ rfl hy.1 hy.2
  refine hK _ _ _ _ (?_)
  refine hK _ _ _ _ ⟨_, h_pW hct_X4_findLevels rfl rfl (show (5 : Nat) ≤ e + 11 by omega) (h_R trivial) hT, rfl, fun v M2 g => ?_⟩
  obtain ⟨g1, g2⟩ := g
  have g1 := h_ovN g1
  subst g1
  have hM2 : z_M (zTb, [(28, 2, 3), (29, 0, 31), (30, 0, 31), (31, 0, 31), (32, 0, 15), (33, 0, 3), (34, 0, 31), (35, 0, 32)], []) M [] M2 := h_Mt (h_M0 hT) g2 (by decide)
  refine hK _ _ _ _ (?_)
  refine hK _ _ _ _ ⟨_, h_pW hct_X4_findSquares rfl rfl (show (11 : Nat) ≤ e + 11 by omega) (h_R trivial) hM2.1, rfl, fun v M3 g => ?_⟩
  obtain ⟨g1, g3⟩ := g
  have g1 := h_ovN g1
  subst g1
  have hM4 : z_M (zTb, [(28, 2, 3), (29, 0, 31), (30, 0, 31), (31, 0, 31), (32, 0, 15), (33, 0, 3), (34, 0, 31), (35, 0, 32)], []) M [] M3 := h_Mt hM2 g3 (by decide)
  refine hK _ _ _ _ (hK _ _ _ _ (hK _ _ _ _ (hK _ _ _ _ (?_))))
  refine hK _ _ _ _ ⟨_, h_pW hct_X6_put__35_0 rfl rfl (show (1 : Nat) ≤ e + 11 by omega) (h_R (h_I ⟨trivial, trivial⟩)) hM4.1, rfl, fun v M4 g => ?_⟩
  obtain ⟨g1, g4⟩ := g
  have g1 := h_ovN g1
  subst g1
  have hM5 : z_M (zTb, [(28, 2, 3), (29, 0, 31), (30, 0, 31), (31, 0, 31), (32, 0, 15), (33, 0, 3), (34, 0, 31), (35, 0, 32)], []) M [] M4 := h_Mt hM4 g4 (by decide)
  refine hK _ _ _ _ (hK _ _ _ _ (hK _ _ _ _ (hK _ _ _ _ (hK _ _ _ _ (hK _ _ _ _ (?_))))))
  exact lp _ _ _ _ _ rfl (by rw [show z_i (2147483647, 2147483679) 0 ↔ _ from Iff.rfl]; unfold z_i; rw [z_b0]; decide) hM5
def ct_X10_board_0 : zCt := (152, [.inr (.inr (0, 0))], [], [(1, 1, 1), (3, 1, 5), (4, 1, 6), (5, 0, 2), (6, 0, 63), (7, 0, 7), (8, 0, 7), (9, 0, 7), (10, 0, 7), (11, 0, 7), (12, 0, 31), (13, 0, 7), (14, 0, 15), (20, 4, 5)], [.inr (.inl (0, [(16385, (2147483648, 2147483648))])), .inr (.inl (1, [(16385, (2147483648, 2147483648))])), .inl (some (.inl (0, 4294967295)), [(16385, (2147483648, 2147483648))])], 16)
theorem hct_X10_board_0 : z_ctH zTb ct_X10_board_0 := sorry
def ct_X10_fault_0 : zCt := (153, [.inr (.inr (0, 0))], [], [], [.inl (some (.inl (0, 4294967295)), [])], 4)
theorem hct_X10_fault_0 : z_ctH zTb ct_X10_fault_0 := sorry
def ct_X10_by_0 : zCt := (154, [.inr (.inr (0, 0)), .inl (0, 4294967295), .inl (0, 4294967295)], [], [], [.inl (some (.inl (0, 4294967295)), []), .inr (.inl (2, []))], 8)
theorem hct_X10_by_0 : z_ctH zTb ct_X10_by_0 := sorry
def ct_X10_turn_0 : zCt := (155, [.inr (.inr (0, 0)), .inl (0, 4294967295), .inl (0, 4294967295)], [], [], [.inl (some (.inl (0, 4294967295)), []), .inr (.inl (3, [])), .inr (.inl (2, []))], 9)
theorem hct_X10_turn_0 : z_ctH zTb ct_X10_turn_0 := sorry
def ct_X10_line_0 : zCt := (156, [.inr (.inr (0, 0)), .inl (0, 4294967295), .inl (0, 4294967295), .inl (2147483648, 2147483649)], [], [], [.inr (.inl (2, [])), .inl (some (.inl (0, 4294967295)), [])], 8)
theorem hct_X10_line_0 : z_ctH zTb ct_X10_line_0 := sorry
def ct_X10_set_0 : zCt := (157, [.inr (.inr (0, 0)), .inl (0, 4294967295), .inl (0, 4294967295), .inl (2147483648, 2147483649), .inl (0, 4294967295)], [], [(12, 0, 31), (20, 4, 5), (21, 0, 19), (22, 0, 19), (23, 0, 19)], [.inl (some (.inl (0, 4294967295)), []), .inr (.inl (2, []))], 9)
theorem hct_X10_set_0 : z_ctH zTb ct_X10_set_0 := sorry
def ct_X10_round_0 : zCt := (158, [.inr (.inr (0, 0)), .inl (0, 4294967295), .inl (0, 4294967295)], [], [], [.inr (.inl (2, [])), .inl (some (.inl (0, 4294967295)), [])], 11)
theorem hct_X10_round_0 : z_ctH zTb ct_X10_round_0 := sorry
def ct_X10_frame_0 : zCt := (159, [.inr (.inr (0, 0)), .inl (0, 4294967295), .inl (0, 4294967295), .inl (0, 4294967295)], [], [(12, 0, 31), (20, 4, 5), (21, 0, 19), (22, 0, 19), (23, 0, 19)], [.inl (some (.inl (2147483648, 2147483680)), []), .inr (.inl (2, []))], 9)
theorem hct_X10_frame_0 : z_ctH zTb ct_X10_frame_0 := sorry
def ct_X10_undo_0 : zCt := (160, [.inr (.inr (0, 0))], [], [(12, 0, 31), (20, 4, 4)], [.inl (some (.inl (2147483648, 2147483649)), [])], 12)
theorem hct_X10_undo_0 : z_ctH zTb ct_X10_undo_0 := sorry
def ct_X10_redo_0 : zCt := (161, [.inr (.inr (0, 0))], [], [(12, 0, 31), (20, 4, 4)], [.inl (some (.inl (2147483648, 2147483649)), [])], 12)
theorem hct_X10_redo_0 : z_ctH zTb ct_X10_redo_0 := sorry
def ct_X10_walk_0 : zCt := (162, [.inr (.inr (0, 0)), .inl (0, 4294967295)], [], [(1, 1, 1), (3, 1, 5), (17, 2, 6), (18, 0, 15), (19, 0, 15)], [.inr (.inl (0, [(16385, (2147483648, 2147483648))])), .inl (some (.inl (0, 4294967295)), [(16385, (2147483648, 2147483648))]), .inr (.inl (3, [(16385, (2147483648, 2147483648))]))], 16)
theorem hct_X10_walk_0 : z_ctH zTb ct_X10_walk_0 := sorry
def ct_X10_worth_0 : zCt := (163, [.inr (.inr (0, 0))], [], [], [.inl (some (.inr (.inl none)), [])], 13)
theorem hct_X10_worth_0 : z_ctH zTb ct_X10_worth_0 := sorry
def ct_X10_turned_0 : zCt := (164, [.inr (.inr (0, 0))], [], [], [.inl (some (.inl (2147483648, 2147483657)), [])], 13)
theorem hct_X10_turned_0 : z_ctH zTb ct_X10_turned_0 := sorry
def ct_X10_alike_0 : zCt := (165, [.inr (.inr (0, 0))], [], [(15, 0, 15)], [.inr (.inl (4, [])), .inl (some (.inl (2147483648, 2147483649)), [])], 12)
theorem hct_X10_alike_0 : z_ctH zTb ct_X10_alike_0 := sorry
def ct_X10_sum_0 : zCt := (166, [.inr (.inr (0, 0))], [], [(25, 0, 7), (26, 0, 7), (27, 0, 7)], [.inl (some (.inr (.inl none)), [])], 11)
theorem hct_X10_sum_0 : z_ctH zTb ct_X10_sum_0 := sorry
def ct_X10_listed_0 : zCt := (167, [.inr (.inr (0, 0))], [], [(28, 2, 3), (29, 0, 31), (30, 0, 31), (31, 0, 31), (32, 0, 15), (33, 0, 3), (34, 0, 31), (35, 0, 32)], [.inr (.inl (4, [])), .inl (some (.inr (.inl none)), [])], 14)
theorem hct_X10_listed_0 : z_ctH zTb ct_X10_listed_0 := sorry
def ct_X10_states_0 : zCt := (168, [.inr (.inr (0, 0)), .inl (0, 4294967295)], [], [(25, 0, 7), (26, 0, 7), (27, 0, 7)], [.inl (some (.inr (.inl none)), [])], 11)
theorem hct_X10_states_0 : z_ctH zTb ct_X10_states_0 := sorry
def ct_X10_mean_0 : zCt := (169, [.inr (.inr (0, 0)), .inl (0, 4294967295)], [], [(1, 1, 1), (3, 1, 5), (17, 2, 6), (18, 0, 15), (19, 0, 15), (25, 0, 7), (26, 0, 7), (27, 0, 7)], [.inr (.inl (0, [(16385, (2147483648, 2147483648))])), .inl (some (.inr (.inl none)), [(16385, (2147483648, 2147483648))]), .inr (.inl (4, [(16385, (2147483648, 2147483648))])), .inr (.inl (2, [(16385, (2147483648, 2147483648))]))], 16)
theorem hct_X10_mean_0 : z_ctH zTb ct_X10_mean_0 := sorry
def ct_X10_rests_0 : zCt := (170, [.inr (.inr (0, 0)), .inl (2147483648, 2147483649)], [], [], [.inl (some (.inl (0, 4294967295)), [])], 12)
theorem hct_X10_rests_0 : z_ctH zTb ct_X10_rests_0 := sorry
def ct_X10_body_0 : zCt := (171, [.inr (.inr (0, 0)), .inl (0, 4294967295), .inl (0, 4294967295), .inl (0, 4294967295)], [], [(25, 0, 7), (26, 0, 7), (27, 0, 7)], [.inr (.inl (0, [])), .inl (some (.inr (.inl none)), [])], 11)
theorem hct_X10_body_0 : z_ctH zTb ct_X10_body_0 := sorry
def ct_X10_dual_0 : zCt := (172, [.inr (.inr (0, 0)), .inl (0, 4294967295)], [], [], [.inl (some (.inl (0, 4294967295)), []), .inr (.inl (4, [])), .inr (.inl (2, []))], 8)
theorem hct_X10_dual_0 : z_ctH zTb ct_X10_dual_0 := sorry
def ct_X10_dualSum_0 : zCt := (173, [.inr (.inr (0, 0))], [], [], [.inl (some (.inr (.inl none)), []), .inr (.inl (4, []))], 9)
theorem hct_X10_dualSum_0 : z_ctH zTb ct_X10_dualSum_0 := sorry
def ct_X10_draw_0 : zCt := (174, [.inr (.inr (0, 0)), .inl (0, 4294967295)], [], [(12, 0, 31), (20, 4, 5)], [.inr (.inl (4, [])), .inl (some (.inr (.inl none)), [])], 13)
theorem hct_X10_draw_0 : z_ctH zTb ct_X10_draw_0 := sorry
def ct_X10_image_0 : zCt := (175, [.inr (.inr (0, 0))], [], [(0, 5, 5), (4, 1, 6), (5, 0, 2), (6, 0, 63), (7, 0, 7), (8, 0, 7), (9, 0, 7), (10, 0, 7), (11, 0, 7), (12, 0, 31), (13, 0, 7), (14, 0, 15)], [.inl (none, [])], 11)
theorem hct_X10_image_0 : z_ctH zTb ct_X10_image_0 := sorry
def ct_X10_back_0 : zCt := (176, [.inr (.inr (0, 0))], [], [(4, 1, 6), (5, 0, 2), (6, 0, 63), (7, 0, 7), (8, 0, 7), (9, 0, 7), (10, 0, 7), (11, 0, 7), (12, 0, 31), (13, 0, 7), (14, 0, 15), (20, 4, 5)], [.inl (some (.inl (2147483648, 2147483649)), [])], 11)
theorem hct_X10_back_0 : z_ctH zTb ct_X10_back_0 := sorry
def ct_X10_count_0 : zCt := (177, [.inr (.inr (0, 0)), .inl (0, 4294967295)], [], [], [.inl (some (.inl (0, 4294967295)), [])], 6)
theorem hct_X10_count_0 : z_ctH zTb ct_X10_count_0 := sorry

