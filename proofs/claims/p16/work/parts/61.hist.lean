/-- what is told of a board of the class -/
theorem cB_h {i : Nat} {M : aM} {e : xB} (h : cB i M e) : M.1 5 i 1 = Int32.ofNat e.1.2 ∧ 2 ≤ e.1.2 ∧ e.1.2 ≤ 8 ∧ cS i M e.2.1.1 e.2.1.2.1 e.2.1.2.2 ∧ 1 ≤ e.2.1.1 ∧ e.2.1.1 ≤ 3 ∧ 1 ≤ e.2.1.2.1 ∧ e.2.1.2.1 ≤ 3 ∧ e.2.1.2.2 ≤ 2 := by
  obtain ⟨⟨⟨hq, -, ho⟩, -⟩, ⟨w1, w3, h1, h3, s2⟩, hS, -⟩ := h
  obtain ⟨o2, o8, -⟩ := gP_o hq
  exact ⟨ho, o2, o8, hS, w1, w3, h1, h3, s2⟩
theorem rB_h {q : Nat} {M : aM} {e : xB} (h : rB q M e) : M.1 q 0 2 = Int32.ofNat e.1.2 ∧ 2 ≤ e.1.2 ∧ e.1.2 ≤ 8 ∧ (M.1 q 0 3 = Int32.ofNat e.2.1.1 ∧ M.1 q 0 4 = Int32.ofNat e.2.1.2.1 ∧ M.1 q 0 5 = Int32.ofNat e.2.1.2.2) ∧ 1 ≤ e.2.1.1 ∧ e.2.1.1 ≤ 3 ∧ 1 ≤ e.2.1.2.1 ∧ e.2.1.2.1 ≤ 3 ∧ e.2.1.2.2 ≤ 2 := by
  obtain ⟨hq, ⟨w1, w3, h1, h3, s2⟩, ⟨-, ho, hw, hh, hs⟩, -⟩ := h
  obtain ⟨o2, o8, -⟩ := gP_o hq
  exact ⟨ho, o2, o8, ⟨hw, hh, hs⟩, w1, w3, h1, h3, s2⟩
theorem c_setX {nS n m : Nat} {M : aM} {x y z t : Int32} {e : xB} (hT : z_MT (zTb, [], []) M) (hB : cB 0 M e) (hm : m ≤ 1) (hz : z = Int32.ofNat m) (hn : n ≤ 20) (hd : M.1 20 0 4 = Int32.ofNat n) : aC nS 60 157 [vR 0 0, vI x, vI y, vI z, vI t] M (fun v M' => (∃ r, v = some (vI r)) ∧ (okL e.2.1.1 e.2.1.2.1 e.2.1.2.2 x y m ∧ okT e.1.2 t) ∧ z_M (zTb, [(12, 0, 31), (20, 4, 5), (21, 0, 19), (22, 0, 19), (23, 0, 19)], []) M [] M' ∧ M'.1 20 0 4 = Int32.ofNat (hN n) ∧ M'.1 20 0 5 = Int32.ofNat (hN n)) (fun q M' => q = 2 ∧ ¬ (okL e.2.1.1 e.2.1.2.1 e.2.1.2.2 x y m ∧ okT e.1.2 t) ∧ M' = M) := by
  obtain ⟨ho, o2, o8, hS, w1, w3, h1, h3, s2⟩ := cB_h hB
  refine aC_mk rfl rfl ?_
  intro K hK _
  refine hK _ _ _ _ (hK _ _ _ _ (hK _ _ _ _ (hK _ _ _ _ (hK _ _ _ _ (hK _ _ _ _ (⟨_, b_lineAt (d := 56) hS w1 w3 h1 h3 hm hz, rfl, fun v7 M7 g7 => ?_⟩))))))
  obtain ⟨g7, rfl⟩ := g7
  rcases okL_of w3 h3 g7 with ⟨a, b, ha, hb, hx, hy, hl, rfl⟩ | ⟨hno, rfl⟩
  · have ok := okL_y ha hb hx hy hl
    have l32 := xln_lt (s := e.2.1.2.2) w1 w3 h1 h3 ha hb hm
    refine hK _ _ _ _ (hK _ _ _ _ (hK _ _ _ _ (hK _ _ _ _ (⟨fun q => ?_, fun _ => ?_⟩))))
    · exact absurd q (x_m1 (by omega))
    refine hK _ _ _ _ (hK _ _ _ _ (hK _ _ _ _ (⟨_, b_group, rfl, fun v22 M22 g22 => ?_⟩)))
    obtain ⟨rfl, rfl⟩ := g22
    refine hK _ _ _ _ (hK _ _ _ _ (⟨_, b_has (d := 58) ho o8, rfl, fun v27 M27 g27 => ?_⟩))
    obtain ⟨g27, rfl⟩ := g27
    rcases g27 with ⟨okt, rfl⟩ | ⟨nokt, rfl⟩
    · refine hK _ _ _ _ (⟨fun _ => ?_, fun q => absurd q (by decide)⟩)
      refine hK _ _ _ _ (hK _ _ _ _ (hK _ _ _ _ (hK _ _ _ _ (⟨_, h_pI hct_X0_turnOn_0 rfl rfl rfl (show (3 : Nat) ≤ 59 by decide) (h_R (h_I trivial)) hT, rfl, fun v49 M49 g49 => ?_⟩))))
      obtain ⟨⟨r, rfl, -⟩, rfl⟩ := g49
      refine hK _ _ _ _ (hK _ _ _ _ (hK _ _ _ _ (hK _ _ _ _ (hK _ _ _ _ (hK _ _ _ _ (⟨_, h_pW hct_X0_putTurn_0 rfl rfl (show (3 : Nat) ≤ 59 by decide) (h_R (h_I (h_I trivial))) hT, rfl, fun v62 M62 g62 => ?_⟩))))))
      obtain ⟨gv, gM⟩ := g62
      have gv := h_ovN gv
      subst gv
      have hM1 : z_M (zTb, [(12, 0, 31), (20, 4, 5), (21, 0, 19), (22, 0, 19), (23, 0, 19)], []) M [] M62 := h_Mt (h_M0 hT) gM (by decide)
      refine hK _ _ _ _ (hK _ _ _ _ (hK _ _ _ _ (hK _ _ _ _ (hK _ _ _ _ (hK _ _ _ _ (⟨_, n_noteLine hM1.1 hn ((h_un gM rfl).trans hd), rfl, fun v75 M75 g75 => ?_⟩))))))
      obtain ⟨rfl, gN, g4, g5⟩ := g75
      exact hK _ _ _ _ (hK _ _ _ _ (⟨⟨_, rfl⟩, ⟨ok, okt⟩, h_Mt hM1 gN (by decide), g4, g5⟩))
    · refine hK _ _ _ _ (⟨fun q => ?_, fun _ => ?_⟩)
      · exact absurd rfl q
      exact hK _ _ _ _ ⟨rfl, rfl, fun z => nokt z.2, rfl⟩
  · refine hK _ _ _ _ (hK _ _ _ _ (hK _ _ _ _ (hK _ _ _ _ (⟨fun _ => ?_, fun q => ?_⟩))))
    · exact hK _ _ _ _ ⟨rfl, rfl, fun z => hno z.1, rfl⟩
    · exact absurd rfl q
theorem c_frameX {nS n : Nat} {M : aM} {x y t : Int32} {e : xB} (hT : z_MT (zTb, [], []) M) (hB : cB 0 M e) (hn : n ≤ 20) (hd : M.1 20 0 4 = Int32.ofNat n) : aC nS 60 159 [vR 0 0, vI x, vI y, vI t] M (fun v M' => (∃ r, v = some (vI r)) ∧ (xP x y e.2.1.1 e.2.1.2.1 ∧ okT e.1.2 t) ∧ z_M (zTb, [(12, 0, 31), (20, 4, 5), (21, 0, 19), (22, 0, 19), (23, 0, 19)], []) M [] M' ∧ M'.1 20 0 4 = Int32.ofNat (hN n) ∧ M'.1 20 0 5 = Int32.ofNat (hN n)) (fun q M' => q = 2 ∧ ¬ (xP x y e.2.1.1 e.2.1.2.1 ∧ okT e.1.2 t) ∧ M' = M) := by
  obtain ⟨ho, o2, o8, hS, w1, w3, h1, h3, s2⟩ := cB_h hB
  refine aC_mk rfl rfl ?_
  intro K hK _
  refine hK _ _ _ _ (hK _ _ _ _ (hK _ _ _ _ (hK _ _ _ _ (hK _ _ _ _ (⟨_, b_cornerAt hS w1 w3 h1 h3, rfl, fun v6 M6 g6 => ?_⟩)))))
  obtain ⟨g6, rfl⟩ := g6
  rcases g6 with ⟨a, b, ha, hb, hx, hy, rfl⟩ | ⟨hno, rfl⟩
  · have ok : xP x y e.2.1.1 e.2.1.2.1 := by
      rw [hx, hy]
      exact ⟨(hI_le (a := 0) (by decide) (by omega)).mpr (Nat.zero_le _), (hI_le (by omega) (by omega)).mpr ha, (hI_le (a := 0) (by decide) (by omega)).mpr (Nat.zero_le _), (hI_le (by omega) (by omega)).mpr hb⟩
    have l32 := xln_lt (s := e.2.1.2.2) (n := 0) w1 w3 h1 h3 ha hb (by decide)
    have c16 : xco e.2.1.1 e.2.1.2.1 e.2.1.2.2 a b < 16 := by
      have h9 : 2 * xco e.2.1.1 e.2.1.2.1 e.2.1.2.2 a b + 0 < 32 := l32
      omega
    refine hK _ _ _ _ (hK _ _ _ _ (hK _ _ _ _ (hK _ _ _ _ (⟨fun q => ?_, fun _ => ?_⟩))))
    · exact absurd q (x_m1 (by omega))
    refine hK _ _ _ _ (hK _ _ _ _ (hK _ _ _ _ (⟨_, b_group, rfl, fun v21 M21 g21 => ?_⟩)))
    obtain ⟨rfl, rfl⟩ := g21
    refine hK _ _ _ _ (hK _ _ _ _ (⟨_, b_has (d := 58) ho o8, rfl, fun v25 M25 g25 => ?_⟩))
    obtain ⟨g25, rfl⟩ := g25
    rcases g25 with ⟨okt, rfl⟩ | ⟨nokt, rfl⟩
    · refine hK _ _ _ _ (⟨fun _ => ?_, fun q => absurd q (by decide)⟩)
      refine hK _ _ _ _ (hK _ _ _ _ (hK _ _ _ _ (hK _ _ _ _ (hK _ _ _ _ (hK _ _ _ _ (⟨_, b_group, rfl, fun v51 M51 g51 => ?_⟩))))))
      obtain ⟨rfl, rfl⟩ := g51
      refine hK _ _ _ _ (hK _ _ _ _ (⟨_, h_pI hct_X2_against_0 rfl rfl rfl (show (3 : Nat) ≤ 59 by decide) (h_R (h_I trivial)) hT, rfl, fun v55 M55 g55 => ?_⟩))
      obtain ⟨⟨r, rfl, -⟩, rfl⟩ := g55
      refine hK _ _ _ _ (hK _ _ _ _ (⟨_, n_noteFrame hT hn hd, rfl, fun v59 M59 g59 => ?_⟩))
      obtain ⟨rfl, gN, g4, g5⟩ := g59
      have hM1 : z_M (zTb, [(12, 0, 31), (20, 4, 5), (21, 0, 19), (22, 0, 19), (23, 0, 19)], []) M [] M59 := h_Mt (h_M0 hT) gN (by decide)
      refine hK _ _ _ _ (hK _ _ _ _ (hK _ _ _ _ (hK _ _ _ _ (hK _ _ _ _ (⟨_, h_pW hct_X0_reframe_0 rfl rfl (show (6 : Nat) ≤ 59 by decide) (h_R (h_I (h_I trivial))) hM1.1, rfl, fun v69 M69 g69 => ?_⟩)))))
      obtain ⟨gv, gM⟩ := g69
      obtain ⟨r2, rfl, -⟩ := h_ovI gv
      exact hK _ _ _ _ ⟨⟨_, rfl⟩, ⟨ok, okt⟩, h_Mt hM1 gM (by decide), (h_un gM rfl).trans g4, (h_un gM rfl).trans g5⟩
    · refine hK _ _ _ _ (⟨fun q => ?_, fun _ => ?_⟩)
      · exact absurd rfl q
      exact hK _ _ _ _ ⟨rfl, rfl, fun z => nokt z.2, rfl⟩
  · refine hK _ _ _ _ (hK _ _ _ _ (hK _ _ _ _ (hK _ _ _ _ (⟨fun _ => ?_, fun q => ?_⟩))))
    · exact hK _ _ _ _ ⟨rfl, rfl, fun z => hno z.1, rfl⟩
    · exact absurd rfl q
theorem b_weight {nS d i t : Nat} {M : aM} (ht : t < 8) : aC nS (d + 2) 32 [vR 4 i, vI (Int32.ofNat t)] M (fun v M' => v = some (vI (M.1 13 i t)) ∧ M = M') (fun _ _ => False) := by
  refine aC_mk rfl rfl ?_
  intro K hK _
  refine hK _ _ _ _ (hK _ _ _ _ (hK _ _ _ _ (hK _ _ _ _ (⟨_, g_at13 rfl ht, rfl, fun v5 M5 g5 => ?_⟩))))
  obtain ⟨rfl, rfl⟩ := g5
  exact hK _ _ _ _ ⟨rfl, rfl⟩
theorem b_isFlat {nS d i s : Nat} {M : aM} (hs : M.1 4 i 3 = Int32.ofNat s) (s2 : s ≤ 2) : aC nS (d + 1) 12 [vR 4 i] M (fun v M' => ((s = 0 ∧ v = some (vI 1)) ∨ (¬ s = 0 ∧ v = some (vI 0))) ∧ M = M') (fun _ _ => False) := by
  refine aC_mk rfl rfl ?_
  intro K hK _
  refine hK _ _ _ _ (hK _ _ _ _ (hK _ _ _ _ (hK _ _ _ _ (⟨fun q => ?_, fun q => ?_⟩))))
  · rw [hs] at q
    have := x_ge (x := s) (y := 1) rfl rfl (by omega) (by decide) q
    exact hK _ _ _ _ (hK _ _ _ _ (⟨Or.inl rfl, Or.inr ⟨by omega, rfl⟩, rfl⟩))
  · rw [hs] at q
    have := x_nge (x := s) (y := 1) rfl rfl (by omega) (by decide) q
    exact hK _ _ _ _ (hK _ _ _ _ (hK _ _ _ _ (⟨Or.inr rfl, Or.inl ⟨by omega, rfl⟩, rfl⟩)))
/-- the weights of the class's board, those of the reference: one by one, together -/
theorem b_weightSum {nS d N : Nat} {M : aM} (hT : z_MT (zTb, [], []) M) (hN8 : N ≤ 8) (ho : M.1 5 0 1 = Int32.ofNat N) (hw : ∀ t, t < 8 → M.1 13 0 t = M.1 37 0 (10 + t)) : aC nS (d + 3) 34 [vR 4 0] M (fun v M' => (∃ x, v = some (vI x) ∧ z_b x = e_sm M (e_w M) N + 2147483648) ∧ M = M') (fun _ _ => False) := by
  refine aC_mk rfl rfl ?_
  intro K hK _
  have lp : ∀ (m t : Nat) (x : Int32), t + m = N → z_b x = e_sm M (e_w M) t + 2147483648 → K 4 [some (vR 4 0), some (vI x), some (vI (Int32.ofNat t))] [] M := by
    intro m
    induction m with
    | zero =>
      intro t x ht hx
      refine hK _ _ _ _ (hK _ _ _ _ (hK _ _ _ _ (hK _ _ _ _ (⟨_, b_order, rfl, fun v9 M9 g9 => ?_⟩))))
      obtain ⟨rfl, rfl⟩ := g9
      refine hK _ _ _ _ (⟨fun q => ?_, fun q => ?_⟩)
      · exact hK _ _ _ _ (hK _ _ _ _ (⟨⟨_, rfl, by rw [hx, show t = N by omega]⟩, rfl⟩))
      · refine absurd (show M.1 5 0 1 ≤ Int32.ofNat t from ?_) q
        rw [ho]
        exact (hI_le (by omega) (by omega)).mpr (by omega)
    | succ m ih =>
      intro t x ht hx
      refine hK _ _ _ _ (hK _ _ _ _ (hK _ _ _ _ (hK _ _ _ _ (⟨_, b_order, rfl, fun v9 M9 g9 => ?_⟩))))
      obtain ⟨rfl, rfl⟩ := g9
      refine hK _ _ _ _ (⟨fun q => ?_, fun q => ?_⟩)
      · exfalso
        rw [ho] at q
        have := (hI_le (a := N) (b := t) (by omega) (by omega)).mp q
        omega
      · refine hK _ _ _ _ (hK _ _ _ _ (hK _ _ _ _ (hK _ _ _ _ (⟨_, b_weight (d := d) (show t < 8 by omega), rfl, fun v18 M18 g18 => ?_⟩))))
        obtain ⟨rfl, rfl⟩ := g18
        refine hK _ _ _ _ (hK _ _ _ _ (hK _ _ _ _ (hK _ _ _ _ (?_))))
        rw [hI_s]
        refine ih (t + 1) _ (by omega) ?_
        have hl := e_sm_le (M := M) (f := e_w M) (e_w9 hT) t
        have h9 := e_wT hT (t := t) (by omega)
        have es : e_sm M (e_w M) (t + 1) = e_sm M (e_w M) t + e_w M t := rfl
        have ew : e_w M t = z_b (M.1 37 0 (10 + t)) - 2147483648 := by
          unfold e_w
          rw [if_pos (by omega)]
        obtain ⟨h91, h92⟩ := h9
        dsimp only at h91 h92
        rw [hw t (by omega), z_b_add, hx, es, ew]
        omega
  refine hK _ _ _ _ (hK _ _ _ _ (hK _ _ _ _ (hK _ _ _ _ (?_))))
  exact lp N 0 0 (by omega) (by rw [show e_sm M (e_w M) 0 = 0 from rfl, Nat.zero_add]; exact z_b0)
theorem c_drawX {nS : Nat} {M : aM} {seed : Int32} {e : xB} (hT : z_MT (zTb, [], []) M) (hB : cB 0 M e) (hw : ∀ t, t < 8 → M.1 13 0 t = M.1 37 0 (10 + t)) : aC nS 60 174 [vR 0 0, vI seed] M (fun v M' => (∃ r, v = some (vL r)) ∧ (e.2.1.2.2 = 0 ∧ 0 < e_sm M (e_w M) e.1.2) ∧ z_M (zTb, [(12, 0, 31), (20, 4, 5)], []) M [] M' ∧ M'.1 20 0 4 = 0 ∧ M'.1 20 0 5 = 0) (fun q M' => q = 4 ∧ ¬ (e.2.1.2.2 = 0 ∧ 0 < e_sm M (e_w M) e.1.2) ∧ M' = M) := by
  obtain ⟨ho, o2, o8, hS, w1, w3, h1, h3, s2⟩ := cB_h hB
  refine aC_mk rfl rfl ?_
  intro K hK _
  refine hK _ _ _ _ (hK _ _ _ _ (hK _ _ _ _ (⟨_, b_isFlat hS.2.2.1 s2, rfl, fun v4 M4 g4 => ?_⟩)))
  obtain ⟨g4, rfl⟩ := g4
  rcases g4 with ⟨hs0, rfl⟩ | ⟨hs0, rfl⟩
  · refine hK _ _ _ _ (⟨fun q => ?_, fun _ => ?_⟩)
    · exact absurd q (by decide)
    refine hK _ _ _ _ (hK _ _ _ _ (hK _ _ _ _ (⟨_, b_weightSum (d := 56) hT o8 ho hw, rfl, fun v14 M14 g14 => ?_⟩)))
    obtain ⟨⟨x, rfl, hx⟩, rfl⟩ := g14
    have x1 : z_b 1 = 2147483649 := z_l1
    refine hK _ _ _ _ (hK _ _ _ _ (⟨fun q => ?_, fun q => ?_⟩))
    · have q2 := z_b_le.mp q
      refine hK _ _ _ _ (hK _ _ _ _ (hK _ _ _ _ (hK _ _ _ _ (⟨_, h_pW hct_X0_drawTurns_0 rfl rfl (show (9 : Nat) ≤ 59 by decide) (h_R (h_I trivial)) hT, rfl, fun v37 M37 g37 => ?_⟩))))
      obtain ⟨gv, gM⟩ := g37
      have gv := h_ovN gv
      subst gv
      have hM1 : z_M (zTb, [(12, 0, 31), (20, 4, 5)], []) M [] M37 := h_Mt (h_M0 hT) gM (by decide)
      refine hK _ _ _ _ (hK _ _ _ _ (hK _ _ _ _ (⟨_, b_forget, rfl, fun v44 M44 g44 => ?_⟩)))
      obtain ⟨rfl, rfl⟩ := g44
      have hM2 : z_M (zTb, [(12, 0, 31), (20, 4, 5)], []) M [] (a_pI (a_pI M37 20 0 4 0) 20 0 5 0) := h_Mp (v := (0, 4294967295)) (h_Mp (v := (0, 4294967295)) hM1 (by decide) (z_i_top _)) (by decide) (z_i_top _)
      refine hK _ _ _ _ (hK _ _ _ _ (hK _ _ _ _ (⟨_, h_pW hct_X0_worthOfTurns_0 rfl rfl (show (11 : Nat) ≤ 59 by decide) (h_R trivial) hM2.1, rfl, fun v51 M51 g51 => ?_⟩)))
      obtain ⟨gv2, gM2⟩ := g51
      obtain ⟨r, rfl⟩ := h_ovJ gv2
      exact hK _ _ _ _ ⟨⟨_, rfl⟩, ⟨hs0, by omega⟩, h_Mt hM2 gM2 (by decide), (h_un gM2 rfl).trans ((x_pn (by decide)).trans x_pe), (h_un gM2 rfl).trans x_pe⟩
    · have q2 : ¬ z_b 1 ≤ z_b x := fun z => q (z_b_le.mpr z)
      exact hK _ _ _ _ ⟨rfl, rfl, fun z => by omega, rfl⟩
  · refine hK _ _ _ _ (⟨fun _ => ?_, fun q => ?_⟩)
    · exact hK _ _ _ _ ⟨rfl, rfl, fun z => hs0 z.1, rfl⟩
    · exact absurd rfl q
