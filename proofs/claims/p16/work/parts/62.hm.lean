theorem x_01v {m : Nat} {z : Int32} (hm : m ≤ 1) (hz : z = Int32.ofNat m) : z = 0 ∨ z = 1 := by
  rcases (show m = 0 ∨ m = 1 by omega) with rfl | rfl
  · exact Or.inl hz
  · exact Or.inr hz
theorem i_ln {M : aM} (hT : z_MT (zTb, [], []) M) {j : Nat} (h1 : 18 ≤ j) (h2 : j ≤ 43) : z_i (2147483648, 2147483655) (M.1 37 0 j) := hT (37, 18, 43, (2147483648, 2147483655)) (by decide +kernel) 0 j (by decide) h1 h2
theorem m_setX {nS n m : Nat} {M : aM} {x y z t : Int32} {e : xB} (hT : z_MT (zTb, [], []) M) (hB : rB 37 M e) (hm : m ≤ 1) (hz : z = Int32.ofNat m) (hn : n ≤ 20) (hd : M.1 37 0 8 = Int32.ofNat n) : aC nS 60 218 [vR 36 0, vI x, vI y, vI z, vI t] M (fun v M' => (∃ r, v = some (vI r)) ∧ (((okL e.2.1.1 e.2.1.2.1 e.2.1.2.2 x y m ∧ okT e.1.2 t) ∧ M'.1 36 0 0 = 0 ∧ z_M (zTb, [(36, 0, 0), (37, 7, 8), (37, 18, 43), (37, 50, 1009)], []) M [] M' ∧ M'.1 37 0 8 = Int32.ofNat (hN n) ∧ M'.1 37 0 7 = Int32.ofNat (hN n)) ∨ (¬ (okL e.2.1.1 e.2.1.2.1 e.2.1.2.2 x y m ∧ okT e.1.2 t) ∧ M'.1 36 0 0 = 1 ∧ z_M (zTb, [(36, 0, 0)], []) M [] M'))) (fun _ _ => False) := by
  obtain ⟨ho, o2, o8, hS, w1, w3, h1, h3, s2⟩ := rB_h hB
  refine aC_mk rfl rfl ?_
  intro K hK _
  have thr : ∀ v : Int32, z_M (zTb, [(36, 0, 0)], []) M [] (a_pI M 36 0 0 v) := fun v => h_Mp (h_M0 hT) (by decide) (z_i_top _)
  have bad : ¬ (okL e.2.1.1 e.2.1.2.1 e.2.1.2.2 x y m ∧ okT e.1.2 t) → K 21 [some (vR 36 0), some (vI x), some (vI y), some (vI z), some (vI t), none] [vR 36 0] M := by
    intro hno
    refine hK _ _ _ _ (hK _ _ _ _ (hK _ _ _ _ (hK _ _ _ _ (hK _ _ _ _ (hK _ _ _ _ (⟨fun q => ?_, fun _ => ?_⟩))))))
    · rw [x_pe] at q
      exact absurd q (by decide)
    · exact hK _ _ _ _ (hK _ _ _ _ (⟨⟨_, rfl⟩, Or.inr ⟨hno, x_pe, thr 1⟩⟩))
  refine hK _ _ _ _ (hK _ _ _ _ (hK _ _ _ _ (hK _ _ _ _ (hK _ _ _ _ (hK _ _ _ _ (⟨_, r_lineOf (d := 56) hS w1 w3 h1 h3 s2 hm hz, rfl, fun v5 M5 g5 => ?_⟩))))))
  obtain ⟨g5, rfl⟩ := g5
  rcases okL_of w3 h3 g5 with ⟨a, b, ha, hb, hx, hy, hl, rfl⟩ | ⟨hno, rfl⟩
  case inr =>
    refine hK _ _ _ _ (hK _ _ _ _ (⟨fun _ => ?_, fun q => ?_⟩))
    · exact bad (fun z => hno z.1)
    · exact absurd rfl q
  have ok := okL_y ha hb hx hy hl
  have l24 := rln_lt (s := e.2.1.2.2) w1 w3 h1 h3 s2 hm ha hb hl
  refine hK _ _ _ _ (hK _ _ _ _ (⟨fun q => ?_, fun _ => ?_⟩))
  · exact absurd q (x_m1 (by omega))
  refine hK _ _ _ _ (hK _ _ _ _ (hK _ _ _ _ (⟨_, r_isTurn (d := 57) ho o2 o8, rfl, fun v15 M15 g15 => ?_⟩)))
  obtain ⟨g15, rfl⟩ := g15
  rcases g15 with ⟨okt, rfl⟩ | ⟨nokt, rfl⟩
  case inr =>
    refine hK _ _ _ _ (⟨fun q => ?_, fun _ => ?_⟩)
    · exact absurd rfl q
    · exact bad (fun z => nokt z.2)
  refine hK _ _ _ _ (⟨fun _ => ?_, fun q => ?_⟩)
  · refine hK _ _ _ _ (hK _ _ _ _ (hK _ _ _ _ (hK _ _ _ _ (hK _ _ _ _ (⟨fun q => ?_, fun q => ?_⟩)))))
    · refine hK _ _ _ _ (hK _ _ _ _ (hK _ _ _ _ (hK _ _ _ _ (hK _ _ _ _ (⟨_, h_pI hct_held rfl rfl rfl (show (4 : Nat) ≤ 59 by decide) (h_R (h_I (h_I (h_Iv (h_bo (x_01v hm hz)) trivial)))) (thr 0).1, rfl, fun v42 M42 g42 => ?_⟩)))))
      obtain ⟨⟨r, rfl, -⟩, rfl⟩ := g42
      refine hK _ _ _ _ (hK _ _ _ _ (hK _ _ _ _ (⟨_, m_rem (thr 0).1 hn ((x_pn (by decide)).trans hd), rfl, fun v48 M48 g48 => ?_⟩)))
      obtain ⟨rfl, gM, g8⟩ := g48
      have hM1 : z_M (zTb, [(36, 0, 0), (37, 7, 8), (37, 18, 43), (37, 50, 1009)], []) M [] M48 := h_Mt (h_Mt (h_M0 hT) (thr 0) (by decide)) gM (by decide)
      have hS1 : rS M48 e.2.1.1 e.2.1.2.1 e.2.1.2.2 := ⟨(hM1.2.1 37 0 3 rfl).1.trans hS.1, (hM1.2.1 37 0 4 rfl).1.trans hS.2.1, (hM1.2.1 37 0 5 rfl).1.trans hS.2.2⟩
      refine hK _ _ _ _ (hK _ _ _ _ (hK _ _ _ _ (hK _ _ _ _ (hK _ _ _ _ (hK _ _ _ _ (hK _ _ _ _ (hK _ _ _ _ (⟨_, r_lineOf (d := 56) hS1 w1 w3 h1 h3 s2 hm hz, rfl, fun v61 M61 g61 => ?_⟩))))))))
      obtain ⟨g61, rfl⟩ := g61
      rcases okL_of w3 h3 g61 with ⟨a2, b2, ha2, hb2, hx2, hy2, hl2, rfl⟩ | ⟨hno, rfl⟩
      case inr => exact absurd ok hno
      have k24 := rln_lt (s := e.2.1.2.2) w1 w3 h1 h3 s2 hm ha2 hb2 hl2
      refine hK _ _ _ _ (hK _ _ _ _ (?_))
      rw [show (20 : Int32) + Int32.ofNat (rln e.2.1.1 e.2.1.2.1 e.2.1.2.2 a2 b2 m) = Int32.ofNat (20 + rln e.2.1.1 e.2.1.2.1 e.2.1.2.2 a2 b2 m) from hI_ad (a := 20)]
      refine hK _ _ _ _ ⟨x_vp rfl (show 20 + rln e.2.1.1 e.2.1.2.1 e.2.1.2.2 a2 b2 m < 1010 by omega) (by decide), ?_⟩
      rw [x_cl rfl (by omega)]
      obtain ⟨u, hu, rfl⟩ := okt
      have q9 := z_M_pI (v := (2147483648, 2147483655)) (a := 20) (b := 43) (j := 20 + rln e.2.1.1 e.2.1.2.1 e.2.1.2.2 a2 b2 m) (x := Int32.ofNat u) hM1 (k := 37) (i := 0) (by decide) (by omega) (by omega) (by
        unfold z_i
        rw [z_b_ofNat (by omega)]
        dsimp only
        omega)
      have hM2 : z_M (zTb, [(36, 0, 0), (37, 7, 8), (37, 18, 43), (37, 50, 1009)], []) M [] (a_pI M48 37 0 (20 + rln e.2.1.1 e.2.1.2.1 e.2.1.2.2 a2 b2 m) (Int32.ofNat u)) := ⟨q9.1, q9.2.1, h_MG0⟩
      refine hK _ _ _ _ (hK _ _ _ _ (⟨_, m_done hM2.1 (n := min n 19) (by omega) ((x_pn (by omega)).trans g8), rfl, fun v69 M69 g69 => ?_⟩))
      obtain ⟨rfl, gD, d8, d7⟩ := g69
      exact hK _ _ _ _ (hK _ _ _ _ (⟨⟨_, rfl⟩, Or.inl ⟨⟨ok, ⟨u, hu, rfl⟩⟩, (h_un gD rfl).trans ((x_pn (fun z => absurd z.1 (by decide))).trans ((h_un gM rfl).trans x_pe)), h_Mt hM2 gD (by decide), d8, d7⟩⟩))
    · exact absurd (Int32.le_refl 0) (by rw [x_pe] at q; exact q)
  · exact absurd q (by decide)
/-- times and against of the reference, by bounds -/
theorem r_tb {nS : Nat} {M : aM} {a b : Int32} (hT : z_MT (zTb, [], []) M) (ha : z_i (2147483648, 2147483655) a) (hb : z_i (2147483648, 2147483655) b) : aC nS 59 180 [vR 36 0, vI a, vI b] M (fun v M' => (∃ x, v = some (vI x) ∧ z_i (2147483648, 2147483655) x) ∧ M = M') (fun _ _ => False) := by
  rcases i_kd hT with h | h
  · exact aC_post (h_pC hct_times3 rfl rfl (show (1 : Nat) ≤ 59 by decide) (h_R (h_Iv ha (h_Iv hb trivial))) hT (h_MG1 (k := 37) (j := 1) (by decide) rfl (h_eqI h) h_MG0)) (fun v M' z => z) (fun _ _ z => z)
  · exact aC_post (h_pC hct_times0 rfl rfl (show (1 : Nat) ≤ 59 by decide) (h_R (h_Iv (z_iI_ok (by decide) ha) (h_Iv (z_iI_ok (by decide) hb) trivial))) hT (h_MG1 (k := 37) (j := 1) (by decide) rfl h h_MG0)) (fun v M' z => z) (fun _ _ z => z)
theorem r_ab {nS : Nat} {M : aM} {a : Int32} (hT : z_MT (zTb, [], []) M) (ha : z_i (2147483648, 2147483655) a) : aC nS 59 181 [vR 36 0, vI a] M (fun v M' => (∃ x, v = some (vI x) ∧ ∀ c : Int32, z_i (2147483648, 2147483655) c → aC nS 59 180 [vR 36 0, vI c, vI x] M (fun v M' => (∃ x, v = some (vI x) ∧ z_i (2147483648, 2147483655) x) ∧ M = M') (fun _ _ => False)) ∧ M = M') (fun _ _ => False) := by
  rcases i_kd hT with h | h
  · exact aC_post (h_pC hct_against3 rfl rfl (show (2 : Nat) ≤ 59 by decide) (h_R (h_Iv ha trivial)) hT (h_MG1 (k := 37) (j := 1) (by decide) rfl (h_eqI h) h_MG0)) (fun v M' z => ⟨by obtain ⟨⟨x, e, h9⟩, -⟩ := z; exact ⟨x, e, fun c hc => r_tb hT hc h9⟩, z.2⟩) (fun _ _ z => z)
  · exact aC_post (h_pC hct_against0 rfl rfl (show (2 : Nat) ≤ 59 by decide) (h_R (h_Iv (z_iI_ok (by decide) ha) trivial)) hT (h_MG1 (k := 37) (j := 1) (by decide) rfl h h_MG0)) (fun v M' z => ⟨by obtain ⟨⟨x, e, h9⟩, -⟩ := z; exact ⟨x, e, fun c hc => h_pC hct_times0 rfl rfl (show (1 : Nat) ≤ 59 by decide) (h_R (h_Iv (z_iI_ok (by decide) hc) (h_Iv (z_iI_ok (by decide) h9) trivial))) hT (h_MG1 (k := 37) (j := 1) (by decide) rfl h h_MG0)⟩, z.2⟩) (fun _ _ z => z)
theorem m_frameX {nS n : Nat} {M : aM} {x y t : Int32} {e : xB} (hT : z_MT (zTb, [], []) M) (hB : rB 37 M e) (hn : n ≤ 20) (hd : M.1 37 0 8 = Int32.ofNat n) : aC nS 60 220 [vR 36 0, vI x, vI y, vI t] M (fun v M' => (∃ r, v = some (vI r)) ∧ (((xP x y e.2.1.1 e.2.1.2.1 ∧ okT e.1.2 t) ∧ M'.1 36 0 0 = 0 ∧ z_M (zTb, [(36, 0, 0), (37, 7, 8), (37, 18, 43), (37, 50, 1009)], []) M [] M' ∧ M'.1 37 0 8 = Int32.ofNat (hN n) ∧ M'.1 37 0 7 = Int32.ofNat (hN n)) ∨ (¬ (xP x y e.2.1.1 e.2.1.2.1 ∧ okT e.1.2 t) ∧ M'.1 36 0 0 = 1 ∧ z_M (zTb, [(36, 0, 0)], []) M [] M'))) (fun _ _ => False) := by
  obtain ⟨ho, o2, o8, hS, w1, w3, h1, h3, s2⟩ := rB_h hB
  refine aC_mk rfl rfl ?_
  intro K hK _
  have thr : ∀ v : Int32, z_M (zTb, [(36, 0, 0)], []) M [] (a_pI M 36 0 0 v) := fun v => h_Mp (h_M0 hT) (by decide) (z_i_top _)
  have bad : ¬ (xP x y e.2.1.1 e.2.1.2.1 ∧ okT e.1.2 t) → K 18 [some (vR 36 0), some (vI x), some (vI y), some (vI t), none, none, none, none] [vR 36 0] M := by
    intro hno
    refine hK _ _ _ _ (hK _ _ _ _ (hK _ _ _ _ (hK _ _ _ _ (hK _ _ _ _ (hK _ _ _ _ (⟨fun q => ?_, fun _ => ?_⟩))))))
    · rw [x_pe] at q
      exact absurd q (by decide)
    · exact hK _ _ _ _ (hK _ _ _ _ (⟨⟨_, rfl⟩, Or.inr ⟨hno, x_pe, thr 1⟩⟩))
  -- the lines
  have lp : okT e.1.2 t → xP x y e.2.1.1 e.2.1.2.1 → ∀ (m j : Nat) (cn c5 : Int32) (c7 : Option aV) (M1 : aM), j + m = 24 → z_M (zTb, [(36, 0, 0), (37, 7, 8), (37, 18, 43), (37, 50, 1009)], []) M [] M1 → M1.1 36 0 0 = 0 → M1.1 37 0 8 = Int32.ofNat (min n 19) → K 53 [some (vR 36 0), some (vI x), some (vI y), some (vI t), some (vI cn), some (vI c5), some (vI (Int32.ofNat j)), c7] [] M1 := by
    intro okt okx m
    have it : z_i (2147483648, 2147483655) t := by
      obtain ⟨u, hu, rfl⟩ := okt
      unfold z_i
      rw [z_b_ofNat (by omega)]
      dsimp only
      omega
    induction m with
    | zero =>
      intro j cn c5 c7 M1 hj hM h0 h8
      refine hK _ _ _ _ (hK _ _ _ _ (hK _ _ _ _ (⟨_, h_pI hct_lineMany rfl rfl rfl (show (2 : Nat) ≤ 59 by decide) (h_R trivial) hM.1, rfl, fun v56 M56 g56 => ?_⟩)))
      obtain ⟨⟨r, rfl, hr⟩, rfl⟩ := g56
      refine hK _ _ _ _ (⟨fun q => ?_, fun q => ?_⟩)
      · refine hK _ _ _ _ (hK _ _ _ _ (⟨_, m_done hM.1 (n := min n 19) (by omega) h8, rfl, fun v164 M164 g164 => ?_⟩))
        obtain ⟨rfl, gD, d8, d7⟩ := g164
        exact hK _ _ _ _ (hK _ _ _ _ (⟨⟨_, rfl⟩, Or.inl ⟨⟨okx, okt⟩, (h_un gD rfl).trans h0, h_Mt hM gD (by decide), d8, d7⟩⟩))
      · exfalso
        apply q
        have h9 : z_b r ≤ 2147483672 := hr.2
        exact z_b_le.mpr (by rw [z_b_ofNat (by omega)]; omega)
    | succ m ih =>
      intro j cn c5 c7 M1 hj hM h0 h8
      refine hK _ _ _ _ (hK _ _ _ _ (hK _ _ _ _ (⟨_, h_pI hct_lineMany rfl rfl rfl (show (2 : Nat) ≤ 59 by decide) (h_R trivial) hM.1, rfl, fun v56 M56 g56 => ?_⟩)))
      obtain ⟨⟨r, rfl, hr⟩, rfl⟩ := g56
      refine hK _ _ _ _ (⟨fun q => ?_, fun q => ?_⟩)
      · refine hK _ _ _ _ (hK _ _ _ _ (⟨_, m_done hM.1 (n := min n 19) (by omega) h8, rfl, fun v164 M164 g164 => ?_⟩))
        obtain ⟨rfl, gD, d8, d7⟩ := g164
        exact hK _ _ _ _ (hK _ _ _ _ (⟨⟨_, rfl⟩, Or.inl ⟨⟨okx, okt⟩, (h_un gD rfl).trans h0, h_Mt hM gD (by decide), d8, d7⟩⟩))
      · have ij : z_i (2147483648, 2147483671) (Int32.ofNat j) := by
          unfold z_i
          rw [z_b_ofNat (by omega)]
          dsimp only
          omega
        have e20 : (20 : Int32) + Int32.ofNat j = Int32.ofNat (20 + j) := hI_ad (a := 20)
        have vl : ∀ {M2 : aM}, z_MT (zTb, [], []) M2 → z_i (2147483648, 2147483655) (M2.1 37 0 (20 + j)) := fun h => i_ln h (by omega) (by omega)
        refine hK _ _ _ _ (hK _ _ _ _ (hK _ _ _ _ (hK _ _ _ _ (hK _ _ _ _ (?_)))))
        refine hK _ _ _ _ ⟨x_vp e20 (show 20 + j < 1010 by omega) (by decide), ?_⟩
        rw [x_cl e20 (by omega)]
        -- behind both ends
        have tail : ∀ v : Int32, z_i (2147483648, 2147483655) v → K 120 [some (vR 36 0), some (vI x), some (vI y), some (vI t), some (vI cn), some (vI c5), some (vI (Int32.ofNat j)), some (vI v)] [] M1 := by
          intro v hv
          have nx : ∀ u : Int32, K 142 [some (vR 36 0), some (vI x), some (vI y), some (vI t), some (vI cn), some (vI c5), some (vI (Int32.ofNat j)), some (vI v)] [vI u, vI c5] M1 := by
            intro u
            refine hK _ _ _ _ (hK _ _ _ _ (hK _ _ _ _ (hK _ _ _ _ (hK _ _ _ _ (hK _ _ _ _ (hK _ _ _ _ (?_)))))))
            refine hK _ _ _ _ (hK _ _ _ _ (⟨x_vp e20 (show 20 + j < 1010 by omega) (by decide), ?_⟩))
            rw [x_cl e20 (by omega)]
            have q9 := z_M_pI (v := (2147483648, 2147483655)) (a := 20) (b := 43) (j := 20 + j) (x := v) hM (k := 37) (i := 0) (by decide) (by omega) (by omega) hv
            have hM2 : z_M (zTb, [(36, 0, 0), (37, 7, 8), (37, 18, 43), (37, 50, 1009)], []) M [] (a_pI M1 37 0 (20 + j) v) := ⟨q9.1, q9.2.1, h_MG0⟩
            refine hK _ _ _ _ (hK _ _ _ _ (?_))
            rw [hI_s]
            exact ih (j + 1) _ _ _ _ (by omega) hM2 ((x_pn (fun z => absurd z.1 (by decide))).trans h0) ((x_pn (by omega)).trans h8)
          refine hK _ _ _ _ (hK _ _ _ _ (hK _ _ _ _ (hK _ _ _ _ (hK _ _ _ _ (hK _ _ _ _ (hK _ _ _ _ (?_)))))))
          refine hK _ _ _ _ ⟨x_vp e20 (show 20 + j < 1010 by omega) (by decide), ?_⟩
          rw [x_cl e20 (by omega)]
          refine hK _ _ _ _ (⟨fun q => ?_, fun q => ?_⟩)
          · refine hK _ _ _ _ (?_)
            exact nx _
          · refine hK _ _ _ _ (hK _ _ _ _ (?_))
            exact nx _
        -- the line's end
        have two : ∀ v : Int32, z_i (2147483648, 2147483655) v → K 95 [some (vR 36 0), some (vI x), some (vI y), some (vI t), some (vI cn), some (vI c5), some (vI (Int32.ofNat j)), some (vI v)] [] M1 := by
          intro v hv
          refine hK _ _ _ _ (hK _ _ _ _ (hK _ _ _ _ (hK _ _ _ _ (⟨_, h_pI hct_endOf rfl rfl rfl (show (3 : Nat) ≤ 59 by decide) (h_R (h_Iv ij (h_Iv (h_bo (Or.inr rfl)) trivial))) hM.1, rfl, fun v99 M99 g99 => ?_⟩))))
          obtain ⟨⟨r2, rfl, -⟩, rfl⟩ := g99
          refine hK _ _ _ _ (hK _ _ _ _ (⟨fun _ => ?_, fun _ => ?_⟩))
          · exact tail v hv
          · refine hK _ _ _ _ (hK _ _ _ _ (hK _ _ _ _ (hK _ _ _ _ (hK _ _ _ _ (⟨_, r_ab hM.1 it, rfl, fun v112 M112 g112 => ?_⟩)))))
            obtain ⟨⟨w, rfl, hw⟩, rfl⟩ := g112
            refine hK _ _ _ _ (⟨_, hw v hv, rfl, fun v115 M115 g115 => ?_⟩)
            obtain ⟨⟨w2, rfl, hw2⟩, rfl⟩ := g115
            refine hK _ _ _ _ (?_)
            exact tail w2 hw2
        refine hK _ _ _ _ (hK _ _ _ _ (hK _ _ _ _ (hK _ _ _ _ (hK _ _ _ _ (⟨_, h_pI hct_endOf rfl rfl rfl (show (3 : Nat) ≤ 59 by decide) (h_R (h_Iv ij (h_Iv (h_bo (Or.inl rfl)) trivial))) hM.1, rfl, fun v78 M78 g78 => ?_⟩)))))
        obtain ⟨⟨r2, rfl, -⟩, rfl⟩ := g78
        refine hK _ _ _ _ (hK _ _ _ _ (⟨fun _ => ?_, fun _ => ?_⟩))
        · exact two _ (vl hM.1)
        · refine hK _ _ _ _ (hK _ _ _ _ (hK _ _ _ _ (hK _ _ _ _ (⟨_, r_tb hM.1 it (vl hM.1), rfl, fun v90 M90 g90 => ?_⟩))))
          obtain ⟨⟨w, rfl, hw⟩, rfl⟩ := g90
          refine hK _ _ _ _ (?_)
          exact two w hw
  refine hK _ _ _ _ (hK _ _ _ _ (hK _ _ _ _ (hK _ _ _ _ (hK _ _ _ _ (⟨_, r_isCorner (d := 57) hS, rfl, fun v4 M4 g4 => ?_⟩)))))
  obtain ⟨g4, rfl⟩ := g4
  rcases g4 with ⟨okx, rfl⟩ | ⟨hno, rfl⟩
  case inr =>
    refine hK _ _ _ _ (⟨fun _ => ?_, fun q => ?_⟩)
    · exact bad (fun z => hno z.1)
    · exact absurd rfl q
  refine hK _ _ _ _ (⟨fun q => ?_, fun _ => ?_⟩)
  · exact absurd q (by decide)
  refine hK _ _ _ _ (hK _ _ _ _ (hK _ _ _ _ (⟨_, r_isTurn (d := 57) ho o2 o8, rfl, fun v12 M12 g12 => ?_⟩)))
  obtain ⟨g12, rfl⟩ := g12
  rcases g12 with ⟨okt, rfl⟩ | ⟨nokt, rfl⟩
  case inr =>
    refine hK _ _ _ _ (⟨fun q => ?_, fun _ => ?_⟩)
    · exact absurd rfl q
    · exact bad (fun z => nokt z.2)
  refine hK _ _ _ _ (⟨fun _ => ?_, fun q => ?_⟩)
  · refine hK _ _ _ _ (hK _ _ _ _ (hK _ _ _ _ (hK _ _ _ _ (hK _ _ _ _ (⟨fun _ => ?_, fun q => ?_⟩)))))
    · refine hK _ _ _ _ (hK _ _ _ _ (⟨_, m_rem (thr 0).1 hn ((x_pn (by decide)).trans hd), rfl, fun v36 M36 g36 => ?_⟩))
      obtain ⟨rfl, gM, g8⟩ := g36
      have hM1 : z_M (zTb, [(36, 0, 0), (37, 7, 8), (37, 18, 43), (37, 50, 1009)], []) M [] M36 := h_Mt (h_Mt (h_M0 hT) (thr 0) (by decide)) gM (by decide)
      refine hK _ _ _ _ (hK _ _ _ _ (hK _ _ _ _ (hK _ _ _ _ (⟨_, h_pI hct_cornerOf9 rfl rfl rfl (show (2 : Nat) ≤ 59 by decide) (h_R (h_I (h_I trivial))) hM1.1, rfl, fun v42 M42 g42 => ?_⟩))))
      obtain ⟨⟨r, rfl, -⟩, rfl⟩ := g42
      refine hK _ _ _ _ (hK _ _ _ _ (hK _ _ _ _ (hK _ _ _ _ (hK _ _ _ _ (?_)))))
      exact lp okt okx 24 0 _ _ _ _ rfl hM1 ((h_un gM rfl).trans x_pe) g8
    · exact absurd (Int32.le_refl 0) (by rw [x_pe] at q; exact q)
  · exact absurd q (by decide)
