theorem okL_n {w h s m : Nat} {x y : Int32} (h9 : okL w h s x y m) : ∃ a b, a ≤ w ∧ b ≤ h ∧ x = Int32.ofNat a ∧ y = Int32.ofNat b ∧ xlv w h s a b m = true := h9
theorem c_lineX {nS m : Nat} {M : aM} {x y z : Int32} {e : xB} (hB : cB 0 M e) (hm : m ≤ 1) (hz : z = Int32.ofNat m) : aC nS 60 156 [vR 0 0, vI x, vI y, vI z] M (fun v M' => (∃ a b, a ≤ e.2.1.1 ∧ b ≤ e.2.1.2.1 ∧ x = Int32.ofNat a ∧ y = Int32.ofNat b ∧ xlv e.2.1.1 e.2.1.2.1 e.2.1.2.2 a b m = true ∧ v = some (vI (e.2.2.2.2 (xln e.2.1.1 e.2.1.2.1 e.2.1.2.2 a b m)))) ∧ M = M') (fun q M' => q = 2 ∧ ¬ okL e.2.1.1 e.2.1.2.1 e.2.1.2.2 x y m ∧ M' = M) := by
  obtain ⟨ho, o2, o8, hS, w1, w3, h1, h3, s2⟩ := cB_h hB
  refine aC_mk rfl rfl ?_
  intro K hK _
  refine hK _ _ _ _ (hK _ _ _ _ (hK _ _ _ _ (hK _ _ _ _ (hK _ _ _ _ (hK _ _ _ _ (⟨_, b_lineAt (d := 56) hS w1 w3 h1 h3 hm hz, rfl, fun v7 M7 g7 => ?_⟩))))))
  obtain ⟨g7, rfl⟩ := g7
  rcases okL_of w3 h3 g7 with ⟨a, b, ha, hb, hx, hy, hl9, rfl⟩ | ⟨hno, rfl⟩
  · have l32 := xln_lt (s := e.2.1.2.2) w1 w3 h1 h3 ha hb hm
    refine hK _ _ _ _ (hK _ _ _ _ (hK _ _ _ _ (hK _ _ _ _ (⟨fun q => ?_, fun q => ?_⟩))))
    · refine hK _ _ _ _ (hK _ _ _ _ (hK _ _ _ _ (hK _ _ _ _ (⟨_, b_turnOn (d := 57) rfl l32, rfl, fun v34 M34 g34 => ?_⟩))))
      obtain ⟨rfl, rfl⟩ := g34
      rw [hB.2.2.2.2.2 _ l32]
      exact hK _ _ _ _ (⟨⟨a, b, ha, hb, hx, hy, hl9, rfl⟩, rfl⟩)
    · exact absurd q (x_m1 (by omega))
  · refine hK _ _ _ _ (hK _ _ _ _ (hK _ _ _ _ (hK _ _ _ _ (⟨fun q => ?_, fun q => ?_⟩))))
    · exact absurd rfl q
    · exact hK _ _ _ _ (⟨rfl, rfl, hno, rfl⟩)
theorem c_setL {nS n m : Nat} {M : aM} {x y z t : Int32} {e : xB} (hB : cB 0 M e) (hm : m ≤ 1) (hz : z = Int32.ofNat m) (hn : n ≤ 20) (hd : M.1 20 0 4 = Int32.ofNat n) : aC nS 60 157 [vR 0 0, vI x, vI y, vI z, vI t] M (fun v M' => ∃ a b u, a ≤ e.2.1.1 ∧ b ≤ e.2.1.2.1 ∧ u < e.1.2 ∧ x = Int32.ofNat a ∧ y = Int32.ofNat b ∧ t = Int32.ofNat u ∧ xlv e.2.1.1 e.2.1.2.1 e.2.1.2.2 a b m = true ∧ v = some (vI (e.2.2.2.2 (xln e.2.1.1 e.2.1.2.1 e.2.1.2.2 a b m))) ∧ fr PHh (a_pI M 12 0 (xln e.2.1.1 e.2.1.2.1 e.2.1.2.2 a b m) t) M' ∧ NT (a_pI M 12 0 (xln e.2.1.1 e.2.1.2.1 e.2.1.2.2 a b m) t) M' n (Int32.ofNat (xln e.2.1.1 e.2.1.2.1 e.2.1.2.2 a b m)) (e.2.2.2.2 (xln e.2.1.1 e.2.1.2.1 e.2.1.2.2 a b m)) t) (fun q M' => q = 2 ∧ ¬ (okL e.2.1.1 e.2.1.2.1 e.2.1.2.2 x y m ∧ okT e.1.2 t) ∧ M' = M) := by
  obtain ⟨ho, o2, o8, hS, w1, w3, h1, h3, s2⟩ := cB_h hB
  refine aC_mk rfl rfl ?_
  intro K hK _
  refine hK _ _ _ _ (hK _ _ _ _ (hK _ _ _ _ (hK _ _ _ _ (hK _ _ _ _ (hK _ _ _ _ (⟨_, b_lineAt (d := 56) hS w1 w3 h1 h3 hm hz, rfl, fun v7 M7 g7 => ?_⟩))))))
  obtain ⟨g7, rfl⟩ := g7
  rcases okL_of w3 h3 g7 with ⟨a, b, ha, hb, hx, hy, hl9, rfl⟩ | ⟨hno, rfl⟩
  · have l32 := xln_lt (s := e.2.1.2.2) w1 w3 h1 h3 ha hb hm
    refine hK _ _ _ _ (hK _ _ _ _ (hK _ _ _ _ (hK _ _ _ _ (⟨fun q => ?_, fun _ => ?_⟩))))
    · exact absurd q (x_m1 (by omega))
    refine hK _ _ _ _ (hK _ _ _ _ (hK _ _ _ _ (⟨_, b_group, rfl, fun v22 M22 g22 => ?_⟩)))
    obtain ⟨rfl, rfl⟩ := g22
    refine hK _ _ _ _ (hK _ _ _ _ (⟨_, b_has (d := 58) ho o8, rfl, fun v27 M27 g27 => ?_⟩))
    obtain ⟨g27, rfl⟩ := g27
    rcases g27 with ⟨okt, rfl⟩ | ⟨nokt, rfl⟩
    · obtain ⟨u, hu, ht⟩ := okt
      refine hK _ _ _ _ (⟨fun _ => ?_, fun q => absurd q (by decide)⟩)
      refine hK _ _ _ _ (hK _ _ _ _ (hK _ _ _ _ (hK _ _ _ _ (⟨_, b_turnOn (d := 57) rfl l32, rfl, fun v49 M49 g49 => ?_⟩))))
      obtain ⟨rfl, rfl⟩ := g49
      rw [hB.2.2.2.2.2 _ l32]
      refine hK _ _ _ _ (hK _ _ _ _ (hK _ _ _ _ (hK _ _ _ _ (hK _ _ _ _ (hK _ _ _ _ (⟨_, b_putTurn (d := 57) rfl l32, rfl, fun v62 M62 g62 => ?_⟩))))))
      obtain ⟨rfl, rfl⟩ := g62
      refine hK _ _ _ _ (hK _ _ _ _ (hK _ _ _ _ (hK _ _ _ _ (hK _ _ _ _ (hK _ _ _ _ (⟨_, c_noteLine (d := 55) hn ((x_pn (fun z => absurd z.1 (by decide))).trans hd), rfl, fun v75 M75 g75 => ?_⟩))))))
      obtain ⟨rfl, hf, hN9⟩ := g75
      exact hK _ _ _ _ (hK _ _ _ _ (⟨a, b, u, ha, hb, hu, hx, hy, ht, hl9, rfl, hf, hN9⟩))
    · refine hK _ _ _ _ (⟨fun q => ?_, fun _ => ?_⟩)
      · exact absurd rfl q
      exact hK _ _ _ _ ⟨rfl, rfl, fun z => nokt z.2, rfl⟩
  · refine hK _ _ _ _ (hK _ _ _ _ (hK _ _ _ _ (hK _ _ _ _ (⟨fun _ => ?_, fun q => ?_⟩))))
    · exact hK _ _ _ _ ⟨rfl, rfl, fun z => hno z.1, rfl⟩
    · exact absurd rfl q
theorem lO_f {M : aM} {e : xB} (hB : cB 0 M e) (hO : lO e.2.1.1 e.2.1.2.1 e.2.1.2.2 e.1.2 e.2.2.2.2) : lO e.2.1.1 e.2.1.2.1 e.2.1.2.2 e.1.2 (M.1 12 0) := fun l a b => by
  rw [hB.2.2.2.2.2 l a]
  exact hO l a b
theorem xco_lt {w h s a b : Nat} (w1 : 1 ≤ w) (w3 : w ≤ 3) (h1 : 1 ≤ h) (h3 : h ≤ 3) (ha : a ≤ w) (hb : b ≤ h) : xco w h s a b < 16 := by
  have p1 := (xcx_b (s := s) w1 w3 ha).2
  have p2 := (xcy_b (s := s) h1 h3 hb).2
  show xcy h s b * 4 + xcx w s a < 16
  omega
theorem rfd_e {k o w h s c u : Nat} {S S2 : Nat → Int32} (hq : ∀ l, l < 32 → S l = S2 l) : cnt (rfd k o w h s c u S) 32 = cnt (rfd k o w h s c u S2) 32 := cnt_e 32 (fun l h9 => by
  unfold rfd
  rw [hq l h9])
theorem c_frameL {nS n : Nat} {M : aM} {x y t : Int32} {e : xB} (hB : cB 0 M e) (hO : lO e.2.1.1 e.2.1.2.1 e.2.1.2.2 e.1.2 e.2.2.2.2) (hn : n ≤ 20) (hd : M.1 20 0 4 = Int32.ofNat n) : aC nS 60 159 [vR 0 0, vI x, vI y, vI t] M (fun v M' => ∃ a b u, a ≤ e.2.1.1 ∧ b ≤ e.2.1.2.1 ∧ u < e.1.2 ∧ x = Int32.ofNat a ∧ y = Int32.ofNat b ∧ t = Int32.ofNat u ∧ v = some (vI (Int32.ofNat (cnt (rfd e.1.1 e.1.2 e.2.1.1 e.2.1.2.1 e.2.1.2.2 (xco e.2.1.1 e.2.1.2.1 e.2.1.2.2 a b) u e.2.2.2.2) 32))) ∧ ∃ N, fr PHh M N ∧ NT M N n (Int32.ofNat (32 + (xco e.2.1.1 e.2.1.2.1 e.2.1.2.2 a b))) (Int32.ofNat (ag e.1.1 e.1.2 u)) t ∧ fr (PR 12 0) N M' ∧ ∀ l, l < 32 → M'.1 12 0 l = if hl e.2.1.1 e.2.1.2.1 e.2.1.2.2 l = true then rfv e.1.1 e.1.2 e.2.1.1 e.2.1.2.1 e.2.1.2.2 (xco e.2.1.1 e.2.1.2.1 e.2.1.2.2 a b) u l (e.2.2.2.2 l) else e.2.2.2.2 l) (fun q M' => q = 2 ∧ ¬ (xP x y e.2.1.1 e.2.1.2.1 ∧ okT e.1.2 t) ∧ M' = M) := by
  obtain ⟨ho, o2, o8, hS, w1, w3, h1, h3, s2⟩ := cB_h hB
  have hF := hB.1
  refine aC_mk rfl rfl ?_
  intro K hK _
  refine hK _ _ _ _ (hK _ _ _ _ (hK _ _ _ _ (hK _ _ _ _ (hK _ _ _ _ (⟨_, b_cornerAt hS w1 w3 h1 h3, rfl, fun v6 M6 g6 => ?_⟩)))))
  obtain ⟨g6, rfl⟩ := g6
  rcases g6 with ⟨a, b, ha, hb, hx, hy, rfl⟩ | ⟨hno, rfl⟩
  · have c16 := xco_lt (s := e.2.1.2.2) w1 w3 h1 h3 ha hb
    refine hK _ _ _ _ (hK _ _ _ _ (hK _ _ _ _ (hK _ _ _ _ (⟨fun q => ?_, fun _ => ?_⟩))))
    · exact absurd q (x_m1 (by omega))
    refine hK _ _ _ _ (hK _ _ _ _ (hK _ _ _ _ (⟨_, b_group, rfl, fun v21 M21 g21 => ?_⟩)))
    obtain ⟨rfl, rfl⟩ := g21
    refine hK _ _ _ _ (hK _ _ _ _ (⟨_, b_has (d := 58) ho o8, rfl, fun v25 M25 g25 => ?_⟩))
    obtain ⟨g25, rfl⟩ := g25
    rcases g25 with ⟨okt, rfl⟩ | ⟨nokt, rfl⟩
    · obtain ⟨u, hu, ht⟩ := okt
      refine hK _ _ _ _ (⟨fun _ => ?_, fun q => absurd q (by decide)⟩)
      refine hK _ _ _ _ (hK _ _ _ _ (hK _ _ _ _ (hK _ _ _ _ (hK _ _ _ _ (hK _ _ _ _ (⟨_, b_group, rfl, fun v51 M51 g51 => ?_⟩))))))
      obtain ⟨rfl, rfl⟩ := g51
      refine hK _ _ _ _ (hK _ _ _ _ (⟨_, g_cagainst (d := 58) hF.1.1 hF.2.1 ht hu, rfl, fun v55 M55 g55 => ?_⟩))
      obtain ⟨rfl, rfl⟩ := g55
      refine hK _ _ _ _ (hK _ _ _ _ (⟨_, c_noteFrame (d := 55) hn hd, rfl, fun v59 M59 g59 => ?_⟩))
      obtain ⟨rfl, hf, hN9⟩ := g59
      have eN : ∀ {q j : Nat}, q < 20 → M59.1 q 0 j = M.1 q 0 j := fun {q j} hq => hf.1 q 0 j (by
        show ((Nat.ble 20 q && Nat.ble q 23) && Nat.beq 0 0) = false
        rw [x_nble (show ¬ 20 ≤ q by omega)]
        rfl)
      have hSN : cS 0 M59 e.2.1.1 e.2.1.2.1 e.2.1.2.2 := ⟨(eN (by decide)).trans hS.1, (eN (by decide)).trans hS.2.1, (eN (by decide)).trans hS.2.2.1, (eN (by decide)).trans hS.2.2.2.1, (eN (by decide)).trans hS.2.2.2.2⟩
      have hFN : gF 0 M59 e.1.1 e.1.2 := gF_fr hF (fun q j a9 b9 => eN (by omega))
      have hLN : ∀ l, l < 32 → M59.1 12 0 l = e.2.2.2.2 l := fun l h9 => (eN (by decide)).trans (hB.2.2.2.2.2 l h9)
      have hON : lO e.2.1.1 e.2.1.2.1 e.2.1.2.2 e.1.2 (M59.1 12 0) := fun l a9 b9 => by rw [hLN l a9]; exact hO l a9 b9
      refine hK _ _ _ _ (hK _ _ _ _ (hK _ _ _ _ (hK _ _ _ _ (hK _ _ _ _ (⟨_, b_reframe (d := 55) hSN w1 w3 h1 h3 hFN hON rfl c16 ht hu, rfl, fun v69 M69 g69 => ?_⟩)))))
      obtain ⟨rfl, hf2, hL2⟩ := g69
      rw [rfd_e hLN]
      refine hK _ _ _ _ (⟨a, b, u, ha, hb, hu, hx, hy, ht, rfl, M59, hf, by rw [← hI_ad (a := 32)]; exact hN9, hf2, fun l hl9 => ?_⟩)
      rw [hL2 l hl9, hLN l hl9]
    · refine hK _ _ _ _ (⟨fun q => ?_, fun _ => ?_⟩)
      · exact absurd rfl q
      exact hK _ _ _ _ ⟨rfl, rfl, fun z => nokt z.2, rfl⟩
  · refine hK _ _ _ _ (hK _ _ _ _ (hK _ _ _ _ (hK _ _ _ _ (⟨fun _ => ?_, fun q => ?_⟩))))
    · exact hK _ _ _ _ ⟨rfl, rfl, fun z => hno z.1, rfl⟩
    · exact absurd rfl q
theorem c_roundX {nS : Nat} {M : aM} {x y : Int32} {e : xB} (hB : cB 0 M e) (hO : lO e.2.1.1 e.2.1.2.1 e.2.1.2.2 e.1.2 e.2.2.2.2) : aC nS 60 158 [vR 0 0, vI x, vI y] M (fun v M' => (∃ a b, a < e.2.1.1 ∧ b < e.2.1.2.1 ∧ x = Int32.ofNat a ∧ y = Int32.ofNat b ∧ v = some (vI (Int32.ofNat (rdv e.1.1 e.1.2 (fun l => xn (e.2.2.2.2 l)) e.2.1.1 e.2.1.2.1 e.2.1.2.2 a b)))) ∧ M = M') (fun q M' => q = 2 ∧ (¬ ∃ a b : Nat, a < e.2.1.1 ∧ b < e.2.1.2.1 ∧ x = Int32.ofNat a ∧ y = Int32.ofNat b) ∧ M' = M) := by
  obtain ⟨ho, o2, o8, hS, w1, w3, h1, h3, s2⟩ := cB_h hB
  refine aC_mk rfl rfl ?_
  intro K hK _
  refine hK _ _ _ _ (hK _ _ _ _ (hK _ _ _ _ (hK _ _ _ _ (hK _ _ _ _ (⟨_, b_squareAt (d := 58) hS w3 h3, rfl, fun v6 M6 g6 => ?_⟩)))))
  obtain ⟨g6, rfl⟩ := g6
  rcases g6 with ⟨a, b, ha, hb, hx, hy, rfl⟩ | ⟨hno, rfl⟩
  · refine hK _ _ _ _ (hK _ _ _ _ (hK _ _ _ _ (hK _ _ _ _ (⟨fun q => ?_, fun q => ?_⟩))))
    · refine hK _ _ _ _ (hK _ _ _ _ (hK _ _ _ _ (hK _ _ _ _ (⟨_, b_turnRound (d := 54) hS w1 w3 h1 h3 s2 hB.1 hO hB.2.2.2.2.2 ha hb rfl, rfl, fun v30 M30 g30 => ?_⟩))))
      obtain ⟨rfl, rfl⟩ := g30
      exact hK _ _ _ _ (⟨⟨a, b, ha, hb, hx, hy, rfl⟩, rfl⟩)
    · exact absurd q (x_m1 (by omega))
  · refine hK _ _ _ _ (hK _ _ _ _ (hK _ _ _ _ (hK _ _ _ _ (⟨fun q => ?_, fun q => ?_⟩))))
    · exact absurd rfl q
    · exact hK _ _ _ _ (⟨rfl, rfl, hno, rfl⟩)
