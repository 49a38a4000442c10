set_option maxRecDepth 10000 in
theorem lw_c0 {K : Nat → aK} {nS : Nat} (hK : ∀ n pc L S M, a_wp 60 nS (fun y as M P => aC nS 60 y as M P (fun _ _ => False)) ret k_law (fun _ _ => False) (fun _ _ => False) (K n) pc L S M → K n pc L S M)
    (hW : ∀ n pc L S M, a_wpW nS 60 K n pc L S M → K n pc L S M) (hF : ∀ n pc L L' S M, a_le L' L → K n pc L' S M → K n pc L S M) (hn3 : nS ≤ 3072) {a n : Nat} (ha : a + 6 ≤ nS) (h6 : 6 * n ≤ a) {M : aM} (hN : iN M)
    (ih : ∀ n' M', n' ≤ n + 1 → iN M' → K n' 23 [some (vR 99 0), some (vR 0 0), some (vR 36 0), some (vR 98 0), some (vI (Int32.ofNat (a + 6))), none, none, none] [] M') : K n 168 [some (vR 99 0), some (vR 0 0), some (vR 36 0), some (vR 98 0), some (vI (Int32.ofNat a)), none, none, none] [] M := by
  refine hK _ _ _ _ _ (hK _ _ _ _ _ (hK _ _ _ _ _ (hK _ _ _ _ _ (hK _ _ _ _ _ (?_)))))
  refine hK _ _ _ _ _ ⟨i_sc (k := 1) ha hn3 (by decide), ?_⟩
  refine hK _ _ _ _ _ (hK _ _ _ _ _ (hK _ _ _ _ _ (hK _ _ _ _ _ (?_))))
  refine hK _ _ _ _ _ ⟨i_sc (k := 2) ha hn3 (by decide), ?_⟩
  refine hK _ _ _ _ _ (hK _ _ _ _ _ (hK _ _ _ _ _ (hK _ _ _ _ _ (?_))))
  refine hK _ _ _ _ _ ⟨i_sc (k := 3) ha hn3 (by decide), ?_⟩
  refine hK _ _ _ _ _ (hK _ _ _ _ _ (hK _ _ _ _ _ (hK _ _ _ _ _ (?_))))
  refine hK _ _ _ _ _ ⟨i_sc (k := 4) ha hn3 (by decide), ?_⟩
  refine hK _ _ _ _ _ (hK _ _ _ _ _ (hK _ _ _ _ _ (hK _ _ _ _ _ (?_))))
  refine hK _ _ _ _ _ ⟨i_sc (k := 5) ha hn3 (by decide), ?_⟩
  obtain ⟨t, ht, hs, hs2⟩ := i_tp hN.1
  refine hK _ _ _ _ _ ⟨_, aC_post (aC_and (e_feedX hN.1.1) (x_feed hN.1.1 (by omega) hs)) (fun _ _ z => z) (fun _ _ z => z.1), rfl, fun v1 N1 g1 => ?_⟩
  obtain ⟨g1, q1⟩ := g1
  have c1 : cPost (z_b (N1.1 1 0 1)) M N1 := ⟨g1.1.1, c_fr g1.1 rfl, rfl⟩
  have d1 := g1.2
  obtain ⟨x1, rfl⟩ : ∃ x, v1 = some (vI x) := e_fd_i d1
  refine hK _ _ _ _ _ (hK _ _ _ _ _ (hK _ _ _ _ _ (hK _ _ _ _ _ (hK _ _ _ _ _ (hK _ _ _ _ _ (?_))))))
  refine hK _ _ _ _ _ ⟨i_sc (k := 1) ha hn3 (by decide), ?_⟩
  refine hK _ _ _ _ _ (hK _ _ _ _ _ (hK _ _ _ _ _ (hK _ _ _ _ _ (?_))))
  refine hK _ _ _ _ _ ⟨i_sc (k := 2) ha hn3 (by decide), ?_⟩
  refine hK _ _ _ _ _ (hK _ _ _ _ _ (hK _ _ _ _ _ (hK _ _ _ _ _ (?_))))
  refine hK _ _ _ _ _ ⟨i_sc (k := 3) ha hn3 (by decide), ?_⟩
  refine hK _ _ _ _ _ (hK _ _ _ _ _ (hK _ _ _ _ _ (hK _ _ _ _ _ (?_))))
  refine hK _ _ _ _ _ ⟨i_sc (k := 4) ha hn3 (by decide), ?_⟩
  refine hK _ _ _ _ _ (hK _ _ _ _ _ (hK _ _ _ _ _ (hK _ _ _ _ _ (?_))))
  refine hK _ _ _ _ _ ⟨i_sc (k := 5) ha hn3 (by decide), ?_⟩
  refine hK _ _ _ _ _ ⟨_, aC_post (aC_and (e_feedM c1.1) (y_feed c1.1 (by omega) ((R_f c1 36 6 (by decide) (by decide)).trans hs2))) (fun _ _ z => z) (fun _ _ z => z.1), rfl, fun v2 N2 g2 => ?_⟩
  obtain ⟨g2, q2⟩ := g2
  rw [show N1.1 99 0 = M.1 99 0 from funext (fun j => (c1.2.1 99 0 j (by decide) (by decide)).1)] at q2
  have p2 : mPost (z_b (N2.1 36 0 6)) N1 N2 := ⟨g2.1.1, iM_fr g2.1.2.1 rfl (iM_c c1 hN.1.2.1), m_fr g2.1 rfl, rfl⟩
  have r2 : ∀ j, N1.1 2 0 j = N2.1 40 0 j := x_rows q1 q2 (fun j => (hN.2.1.1 j).trans (R_f c1 40 j (by decide) (by decide)).symm)
  have y02 : RX N2 := RX_tape hN.2.1 c1 g1.1 p2 (fun j a1 a2 a3 => uM_ok (W := [(36, 0, 0), (36, 6, 6), (40, 0, 399)]) rfl g2.1.2.1 a1 a2 a3) (h_un g2.1 rfl) (h_un g2.1 rfl) (h_un g2.1 rfl) (fun j => (g2.1.2.1 38 0 j rfl).1) r2
  have y2 : RX N2 ∧ RZ N2 := ⟨y02, RZ_tape hN.2.2 c1 g1.1 p2 g2.1⟩
  have f2 := g2.2
  rw [(c1.2.1 36 0 6 (by decide) (by decide)).1, ← hN.1.2.2] at f2
  skip
  obtain ⟨s2, a2, b2, r2, t2, u2⟩ := e_fd_eq d1 f2
  subst t2
  refine hK _ _ _ _ _ (hK _ _ _ _ _ (?_))
  refine hK _ _ _ _ _ (hK _ _ _ _ _ ?_)
  refine hF _ _ _ _ _ _ (i_le (L := [])) ?_
  have e9 := ih n N2 (by omega) ⟨iN_2 c1 p2 s2, y2⟩
  rw [← hI_ad] at e9
  exact e9
set_option maxRecDepth 10000 in
theorem lw_c1 {K : Nat → aK} {nS : Nat} (hK : ∀ n pc L S M, a_wp 60 nS (fun y as M P => aC nS 60 y as M P (fun _ _ => False)) ret k_law (fun _ _ => False) (fun _ _ => False) (K n) pc L S M → K n pc L S M)
    (hW : ∀ n pc L S M, a_wpW nS 60 K n pc L S M → K n pc L S M) (hF : ∀ n pc L L' S M, a_le L' L → K n pc L' S M → K n pc L S M) (hn3 : nS ≤ 3072) {a n : Nat} (ha : a + 6 ≤ nS) (h6 : 6 * n ≤ a) {M : aM} (hN : iN M)
    (ih : ∀ n' M', n' ≤ n + 1 → iN M' → K n' 23 [some (vR 99 0), some (vR 0 0), some (vR 36 0), some (vR 98 0), some (vI (Int32.ofNat (a + 6))), none, none, none] [] M') : K n 241 [some (vR 99 0), some (vR 0 0), some (vR 36 0), some (vR 98 0), some (vI (Int32.ofNat a)), none, none, none] [] M := by
  refine hK _ _ _ _ _ (hK _ _ _ _ _ (hK _ _ _ _ _ (hK _ _ _ _ _ (hK _ _ _ _ _ (?_)))))
  refine hK _ _ _ _ _ ⟨i_sc (k := 1) ha hn3 (by decide), ?_⟩
  refine hK _ _ _ _ _ ⟨_, e_endX hN.1.1, rfl, fun v1 N1 g1 => ?_⟩
  have c1 : cPost (z_b (N1.1 1 0 1)) M N1 := ⟨g1.1.1, c_fr g1.1 rfl, rfl⟩
  have d1 := g1.2.1
  obtain ⟨x1, rfl⟩ : ∃ x, v1 = some (vI x) := e_ed_i d1
  have s1 : cSm M N1 := cSm_ok (W := [(1, 1, 1)]) rfl g1.1.2.1
  refine hK _ _ _ _ _ (hK _ _ _ _ _ (hK _ _ _ _ _ (hK _ _ _ _ _ (hK _ _ _ _ _ (hK _ _ _ _ _ (?_))))))
  refine hK _ _ _ _ _ ⟨i_sc (k := 1) ha hn3 (by decide), ?_⟩
  refine hK _ _ _ _ _ ⟨_, e_endM c1.1, rfl, fun v2 N2 g2 => ?_⟩
  have p2 : mPost (z_b (N2.1 36 0 6)) N1 N2 := ⟨g2.1.1, iM_fr g2.1.2.1 rfl (iM_c c1 hN.1.2.1), m_fr g2.1 rfl, rfl⟩
  have y2 : RX N2 ∧ RZ N2 := ⟨RX_same hN.2.1 c1 s1 p2 (mSm_ok (W := [(36, 0, 0), (36, 6, 6)]) rfl g2.1.2.1), RZ_same hN.2.2 c1 s1 p2 (mSm_ok (W := [(36, 0, 0), (36, 6, 6)]) rfl g2.1.2.1)⟩
  have f2 := g2.2
  rw [(c1.2.1 36 0 6 (by decide) (by decide)).1, ← hN.1.2.2] at f2
  rw [(c1.2.1 99 0 _ (by decide) (by decide)).1] at f2
  obtain ⟨s2, a2, b2, r2, t2, u2⟩ := e_ed_eq d1 f2
  subst t2
  refine hK _ _ _ _ _ (hK _ _ _ _ _ (?_))
  refine hK _ _ _ _ _ (hK _ _ _ _ _ ?_)
  refine hF _ _ _ _ _ _ (i_le (L := [])) ?_
  have e9 := ih n N2 (by omega) ⟨iN_2 c1 p2 s2, y2⟩
  rw [← hI_ad] at e9
  exact e9
set_option maxRecDepth 10000 in
theorem lw_c2 {K : Nat → aK} {nS : Nat} (hK : ∀ n pc L S M, a_wp 60 nS (fun y as M P => aC nS 60 y as M P (fun _ _ => False)) ret k_law (fun _ _ => False) (fun _ _ => False) (K n) pc L S M → K n pc L S M)
    (hW : ∀ n pc L S M, a_wpW nS 60 K n pc L S M → K n pc L S M) (hF : ∀ n pc L L' S M, a_le L' L → K n pc L' S M → K n pc L S M) (hn3 : nS ≤ 3072) {a n : Nat} (ha : a + 6 ≤ nS) (h6 : 6 * n ≤ a) {M : aM} (hN : iN M)
    (ih : ∀ n' M', n' ≤ n + 1 → iN M' → K n' 23 [some (vR 99 0), some (vR 0 0), some (vR 36 0), some (vR 98 0), some (vI (Int32.ofNat (a + 6))), none, none, none] [] M') : K n 266 [some (vR 99 0), some (vR 0 0), some (vR 36 0), some (vR 98 0), some (vI (Int32.ofNat a)), none, none, none] [] M := by
  refine hK _ _ _ _ _ (hK _ _ _ _ _ (?_))
  obtain ⟨⟨e, n0, k0, S0, hS, hh, hX⟩, hI⟩ := hN.2.2
  obtain ⟨t, ht, hs, hs2⟩ := i_tp hN.1
  refine hW _ _ _ _ _ ⟨by omega, _, w_board hN.1.1 hN.2.1 hS ht hs, rfl, fun v1 N1 g1 => ?_⟩
  obtain ⟨⟨x1, rfl⟩, c1, s1, d1⟩ := g1
  refine hK _ _ _ _ _ (hK _ _ _ _ _ (?_))
  refine hK _ _ _ _ _ ⟨_, m_board c1.1 (iM_c c1 hN.1.2.1) (SX_m hS c1) ht ((R_f c1 36 6 (by decide) (by decide)).trans hs2) (SX_ll hS hh c1), rfl, fun v2 N2 g2 => ?_⟩
  obtain ⟨⟨y2, rfl⟩, p2, l2, ul2⟩ := g2
  obtain ⟨q2, cmp2⟩ := RX_board hN.2.1 hS c1 s1 p2 l2
  refine hK _ _ _ _ _ (hK _ _ _ _ _ (?_))
  refine hK _ _ _ _ _ (hK _ _ _ _ _ ?_)
  refine hF _ _ _ _ _ _ (i_le (L := [])) ?_
  have e9 := ih (n + 1) N2 (by omega) ⟨iN_2 c1 p2 rfl, q2, RZ_board hN.2.1 hI hS hh hX c1 s1 d1 p2 l2 ul2⟩
  rw [← hI_ad] at e9
  exact e9
set_option maxRecDepth 10000 in
theorem lw_c3 {K : Nat → aK} {nS : Nat} (hK : ∀ n pc L S M, a_wp 60 nS (fun y as M P => aC nS 60 y as M P (fun _ _ => False)) ret k_law (fun _ _ => False) (fun _ _ => False) (K n) pc L S M → K n pc L S M)
    (hW : ∀ n pc L S M, a_wpW nS 60 K n pc L S M → K n pc L S M) (hF : ∀ n pc L L' S M, a_le L' L → K n pc L' S M → K n pc L S M) (hn3 : nS ≤ 3072) {a n : Nat} (ha : a + 6 ≤ nS) (h6 : 6 * n ≤ a) {M : aM} (hN : iN M)
    (ih : ∀ n' M', n' ≤ n + 1 → iN M' → K n' 23 [some (vR 99 0), some (vR 0 0), some (vR 36 0), some (vR 98 0), some (vI (Int32.ofNat (a + 6))), none, none, none] [] M') : K n 282 [some (vR 99 0), some (vR 0 0), some (vR 36 0), some (vR 98 0), some (vI (Int32.ofNat a)), none, none, none] [] M := by
  refine hK _ _ _ _ _ (?_)
  refine hK _ _ _ _ _ ⟨_, c_fault hN.1.1 , rfl, fun v1 N1 g1 => ?_⟩
  obtain ⟨z1, c1, s1⟩ := g1
  obtain ⟨x1, rfl⟩ := i_v1 z1
  refine hK _ _ _ _ _ (hK _ _ _ _ _ (?_))
  refine hK _ _ _ _ _ ⟨_, m_fault c1.1 (iM_c c1 hN.1.2.1) , rfl, fun v2 N2 g2 => ?_⟩
  obtain ⟨z2, p2, l2⟩ := g2
  obtain ⟨x2, rfl⟩ := i_v1 z2
  refine hK _ _ _ _ _ (hK _ _ _ _ _ (?_))
  refine hK _ _ _ _ _ (hK _ _ _ _ _ ?_)
  refine hF _ _ _ _ _ _ (i_le (L := [])) ?_
  have e9 := ih n N2 (by omega) ⟨iN_s hN.1 c1 p2, RX_same hN.2.1 c1 s1 p2 l2, RZ_same hN.2.2 c1 s1 p2 l2⟩
  rw [← hI_ad] at e9
  exact e9
set_option maxRecDepth 10000 in
theorem lw_c4 {K : Nat → aK} {nS : Nat} (hK : ∀ n pc L S M, a_wp 60 nS (fun y as M P => aC nS 60 y as M P (fun _ _ => False)) ret k_law (fun _ _ => False) (fun _ _ => False) (K n) pc L S M → K n pc L S M)
    (hW : ∀ n pc L S M, a_wpW nS 60 K n pc L S M → K n pc L S M) (hF : ∀ n pc L L' S M, a_le L' L → K n pc L' S M → K n pc L S M) (hn3 : nS ≤ 3072) {a n : Nat} (ha : a + 6 ≤ nS) (h6 : 6 * n ≤ a) {M : aM} (hN : iN M)
    (ih : ∀ n' M', n' ≤ n + 1 → iN M' → K n' 23 [some (vR 99 0), some (vR 0 0), some (vR 36 0), some (vR 98 0), some (vI (Int32.ofNat (a + 6))), none, none, none] [] M') : K n 295 [some (vR 99 0), some (vR 0 0), some (vR 36 0), some (vR 98 0), some (vI (Int32.ofNat a)), none, none, none] [] M := by
  refine hK _ _ _ _ _ (hK _ _ _ _ _ (hK _ _ _ _ _ (hK _ _ _ _ _ (hK _ _ _ _ _ (?_)))))
  refine hK _ _ _ _ _ ⟨i_sc (k := 1) ha hn3 (by decide), ?_⟩
  refine hK _ _ _ _ _ (hK _ _ _ _ _ (hK _ _ _ _ _ (hK _ _ _ _ _ (?_))))
  refine hK _ _ _ _ _ ⟨i_sc (k := 2) ha hn3 (by decide), ?_⟩
  refine hK _ _ _ _ _ (?_)
  obtain ⟨⟨e, n0, k0, S0, hS, hh, hX⟩, hI⟩ := hN.2.2
  refine hW _ _ _ _ _ ⟨by omega, _, w_by hN.1.1 , rfl, fun v1 N1 g1 => ?_⟩
  obtain ⟨⟨x1, rfl⟩, c1, s1⟩ := g1
  refine hK _ _ _ _ _ (hK _ _ _ _ _ (hK _ _ _ _ _ (hK _ _ _ _ _ (hK _ _ _ _ _ (hK _ _ _ _ _ (?_))))))
  refine hK _ _ _ _ _ ⟨i_sc (k := 1) ha hn3 (by decide), ?_⟩
  refine hK _ _ _ _ _ (hK _ _ _ _ _ (hK _ _ _ _ _ (hK _ _ _ _ _ (?_))))
  refine hK _ _ _ _ _ ⟨i_sc (k := 2) ha hn3 (by decide), ?_⟩
  refine hK _ _ _ _ _ ⟨_, mx_by c1.1 (iM_c c1 hN.1.2.1) (SX_m hS c1) , rfl, fun v2 N2 g2 => ?_⟩
  obtain ⟨⟨y2, rfl⟩, p2, l2, -⟩ := g2
  refine hK _ _ _ _ _ (hK _ _ _ _ _ (?_))
  refine hK _ _ _ _ _ (hK _ _ _ _ _ ?_)
  refine hF _ _ _ _ _ _ (i_le (L := [])) ?_
  have e9 := ih (n + 1) N2 (by omega) ⟨iN_s hN.1 c1 p2, RX_same hN.2.1 c1 s1 p2 l2, RZ_same hN.2.2 c1 s1 p2 l2⟩
  rw [← hI_ad] at e9
  exact e9
set_option maxRecDepth 10000 in
theorem lw_c5 {K : Nat → aK} {nS : Nat} (hK : ∀ n pc L S M, a_wp 60 nS (fun y as M P => aC nS 60 y as M P (fun _ _ => False)) ret k_law (fun _ _ => False) (fun _ _ => False) (K n) pc L S M → K n pc L S M)
    (hW : ∀ n pc L S M, a_wpW nS 60 K n pc L S M → K n pc L S M) (hF : ∀ n pc L L' S M, a_le L' L → K n pc L' S M → K n pc L S M) (hn3 : nS ≤ 3072) {a n : Nat} (ha : a + 6 ≤ nS) (h6 : 6 * n ≤ a) {M : aM} (hN : iN M)
    (ih : ∀ n' M', n' ≤ n + 1 → iN M' → K n' 23 [some (vR 99 0), some (vR 0 0), some (vR 36 0), some (vR 98 0), some (vI (Int32.ofNat (a + 6))), none, none, none] [] M') : K n 335 [some (vR 99 0), some (vR 0 0), some (vR 36 0), some (vR 98 0), some (vI (Int32.ofNat a)), none, none, none] [] M := by
  refine hK _ _ _ _ _ (hK _ _ _ _ _ (hK _ _ _ _ _ (hK _ _ _ _ _ (hK _ _ _ _ _ (?_)))))
  refine hK _ _ _ _ _ ⟨i_sc (k := 1) ha hn3 (by decide), ?_⟩
  refine hK _ _ _ _ _ (hK _ _ _ _ _ (hK _ _ _ _ _ (hK _ _ _ _ _ (?_))))
  refine hK _ _ _ _ _ ⟨i_sc (k := 2) ha hn3 (by decide), ?_⟩
  refine hK _ _ _ _ _ (?_)
  obtain ⟨⟨e, n0, k0, S0, hS, hh, hX⟩, hI⟩ := hN.2.2
  refine hW _ _ _ _ _ ⟨by omega, _, w_turn hN.1.1 , rfl, fun v1 N1 g1 => ?_⟩
  obtain ⟨⟨x1, rfl⟩, c1, s1⟩ := g1
  refine hK _ _ _ _ _ (hK _ _ _ _ _ (hK _ _ _ _ _ (hK _ _ _ _ _ (hK _ _ _ _ _ (hK _ _ _ _ _ (?_))))))
  refine hK _ _ _ _ _ ⟨i_sc (k := 1) ha hn3 (by decide), ?_⟩
  refine hK _ _ _ _ _ (hK _ _ _ _ _ (hK _ _ _ _ _ (hK _ _ _ _ _ (?_))))
  refine hK _ _ _ _ _ ⟨i_sc (k := 2) ha hn3 (by decide), ?_⟩
  refine hK _ _ _ _ _ ⟨_, mx_turn c1.1 (iM_c c1 hN.1.2.1) (SX_m hS c1) , rfl, fun v2 N2 g2 => ?_⟩
  obtain ⟨⟨y2, rfl⟩, p2, l2, -⟩ := g2
  refine hK _ _ _ _ _ (hK _ _ _ _ _ (?_))
  refine hK _ _ _ _ _ (hK _ _ _ _ _ ?_)
  refine hF _ _ _ _ _ _ (i_le (L := [])) ?_
  have e9 := ih (n + 1) N2 (by omega) ⟨iN_s hN.1 c1 p2, RX_same hN.2.1 c1 s1 p2 l2, RZ_same hN.2.2 c1 s1 p2 l2⟩
  rw [← hI_ad] at e9
  exact e9
set_option maxRecDepth 10000 in
theorem lw_c6 {K : Nat → aK} {nS : Nat} (hK : ∀ n pc L S M, a_wp 60 nS (fun y as M P => aC nS 60 y as M P (fun _ _ => False)) ret k_law (fun _ _ => False) (fun _ _ => False) (K n) pc L S M → K n pc L S M)
    (hW : ∀ n pc L S M, a_wpW nS 60 K n pc L S M → K n pc L S M) (hF : ∀ n pc L L' S M, a_le L' L → K n pc L' S M → K n pc L S M) (hn3 : nS ≤ 3072) {a n : Nat} (ha : a + 6 ≤ nS) (h6 : 6 * n ≤ a) {M : aM} (hN : iN M)
    (ih : ∀ n' M', n' ≤ n + 1 → iN M' → K n' 23 [some (vR 99 0), some (vR 0 0), some (vR 36 0), some (vR 98 0), some (vI (Int32.ofNat (a + 6))), none, none, none] [] M') : K n 375 [some (vR 99 0), some (vR 0 0), some (vR 36 0), some (vR 98 0), some (vI (Int32.ofNat a)), none, none, none] [] M := by
  refine hK _ _ _ _ _ (hK _ _ _ _ _ (hK _ _ _ _ _ (hK _ _ _ _ _ (hK _ _ _ _ _ (?_)))))
  refine hK _ _ _ _ _ ⟨i_sc (k := 1) ha hn3 (by decide), ?_⟩
  refine hK _ _ _ _ _ (hK _ _ _ _ _ (hK _ _ _ _ _ (hK _ _ _ _ _ (?_))))
  refine hK _ _ _ _ _ ⟨i_sc (k := 2) ha hn3 (by decide), ?_⟩
  refine hK _ _ _ _ _ (hK _ _ _ _ _ (hK _ _ _ _ _ (hK _ _ _ _ _ (?_))))
  refine hK _ _ _ _ _ ⟨i_sc (k := 3) ha hn3 (by decide), ?_⟩
  refine hK _ _ _ _ _ ⟨fun hb1 => ?_, fun hb1 => ?_⟩
  · skip
    refine hK _ _ _ _ _ (hK _ _ _ _ _ (?_))
    refine hW _ _ _ _ _ ⟨by omega, _, w_line hN.1.1 (Or.inl rfl), rfl, fun v2 N2 g2 => ?_⟩
    obtain ⟨⟨x2, rfl⟩, c2, s2⟩ := g2
    refine hK _ _ _ _ _ (hK _ _ _ _ _ (hK _ _ _ _ _ (hK _ _ _ _ _ (hK _ _ _ _ _ (hK _ _ _ _ _ (?_))))))
    refine hK _ _ _ _ _ ⟨i_sc (k := 1) ha hn3 (by decide), ?_⟩
    refine hK _ _ _ _ _ (hK _ _ _ _ _ (hK _ _ _ _ _ (hK _ _ _ _ _ (?_))))
    refine hK _ _ _ _ _ ⟨i_sc (k := 2) ha hn3 (by decide), ?_⟩
    refine hK _ _ _ _ _ (hK _ _ _ _ _ (hK _ _ _ _ _ (hK _ _ _ _ _ (?_))))
    refine hK _ _ _ _ _ ⟨i_sc (k := 3) ha hn3 (by decide), ?_⟩
    refine hK _ _ _ _ _ ⟨fun hb3 => ?_, fun hb3 => ?_⟩
    · skip
      refine hK _ _ _ _ _ (?_)
      refine hK _ _ _ _ _ ⟨_, m_line c2.1 (iM_c c2 hN.1.2.1) (Or.inl rfl), rfl, fun v4 N4 g4 => ?_⟩
      obtain ⟨z4, p4, l4⟩ := g4
      obtain ⟨x4, rfl⟩ := i_v1 z4
      refine hK _ _ _ _ _ (hK _ _ _ _ _ (?_))
      refine hK _ _ _ _ _ (hK _ _ _ _ _ ?_)
      refine hF _ _ _ _ _ _ (i_le (L := [])) ?_
      have e9 := ih (n + 1) N4 (by omega) ⟨iN_s hN.1 c2 p4, RX_same hN.2.1 c2 s2 p4 l4, RZ_same hN.2.2 c2 s2 p4 l4⟩
      rw [← hI_ad] at e9
      exact e9
    · exact absurd (((c2.2.1 99 0 _ (by decide) (by decide)).1).trans hb1) hb3
  · skip
    refine hK _ _ _ _ _ (hK _ _ _ _ _ (hK _ _ _ _ _ (?_)))
    refine hW _ _ _ _ _ ⟨by omega, _, w_line hN.1.1 (Or.inr rfl), rfl, fun v5 N5 g5 => ?_⟩
    obtain ⟨⟨x5, rfl⟩, c5, s5⟩ := g5
    refine hK _ _ _ _ _ (hK _ _ _ _ _ (hK _ _ _ _ _ (hK _ _ _ _ _ (hK _ _ _ _ _ (hK _ _ _ _ _ (?_))))))
    refine hK _ _ _ _ _ ⟨i_sc (k := 1) ha hn3 (by decide), ?_⟩
    refine hK _ _ _ _ _ (hK _ _ _ _ _ (hK _ _ _ _ _ (hK _ _ _ _ _ (?_))))
    refine hK _ _ _ _ _ ⟨i_sc (k := 2) ha hn3 (by decide), ?_⟩
    refine hK _ _ _ _ _ (hK _ _ _ _ _ (hK _ _ _ _ _ (hK _ _ _ _ _ (?_))))
    refine hK _ _ _ _ _ ⟨i_sc (k := 3) ha hn3 (by decide), ?_⟩
    refine hK _ _ _ _ _ ⟨fun hb6 => ?_, fun hb6 => ?_⟩
    · exact absurd (((c5.2.1 99 0 _ (by decide) (by decide)).1).symm.trans hb6) hb1
    · skip
      refine hK _ _ _ _ _ (hK _ _ _ _ _ (?_))
      refine hK _ _ _ _ _ ⟨_, m_line c5.1 (iM_c c5 hN.1.2.1) (Or.inr rfl), rfl, fun v7 N7 g7 => ?_⟩
      obtain ⟨z7, p7, l7⟩ := g7
      obtain ⟨x7, rfl⟩ := i_v1 z7
      refine hK _ _ _ _ _ (hK _ _ _ _ _ (?_))
      refine hK _ _ _ _ _ (hK _ _ _ _ _ ?_)
      refine hF _ _ _ _ _ _ (i_le (L := [])) ?_
      have e9 := ih (n + 1) N7 (by omega) ⟨iN_s hN.1 c5 p7, RX_same hN.2.1 c5 s5 p7 l7, RZ_same hN.2.2 c5 s5 p7 l7⟩
      rw [← hI_ad] at e9
      exact e9
set_option maxRecDepth 10000 in
theorem lw_c7 {K : Nat → aK} {nS : Nat} (hK : ∀ n pc L S M, a_wp 60 nS (fun y as M P => aC nS 60 y as M P (fun _ _ => False)) ret k_law (fun _ _ => False) (fun _ _ => False) (K n) pc L S M → K n pc L S M)
    (hW : ∀ n pc L S M, a_wpW nS 60 K n pc L S M → K n pc L S M) (hF : ∀ n pc L L' S M, a_le L' L → K n pc L' S M → K n pc L S M) (hn3 : nS ≤ 3072) {a n : Nat} (ha : a + 6 ≤ nS) (h6 : 6 * n ≤ a) {M : aM} (hN : iN M)
    (ih : ∀ n' M', n' ≤ n + 1 → iN M' → K n' 23 [some (vR 99 0), some (vR 0 0), some (vR 36 0), some (vR 98 0), some (vI (Int32.ofNat (a + 6))), none, none, none] [] M') : K n 443 [some (vR 99 0), some (vR 0 0), some (vR 36 0), some (vR 98 0), some (vI (Int32.ofNat a)), none, none, none] [] M := by
  refine hK _ _ _ _ _ (hK _ _ _ _ _ (hK _ _ _ _ _ (hK _ _ _ _ _ (hK _ _ _ _ _ (?_)))))
  refine hK _ _ _ _ _ ⟨i_sc (k := 1) ha hn3 (by decide), ?_⟩
  refine hK _ _ _ _ _ (hK _ _ _ _ _ (hK _ _ _ _ _ (hK _ _ _ _ _ (?_))))
  refine hK _ _ _ _ _ ⟨i_sc (k := 2) ha hn3 (by decide), ?_⟩
  refine hK _ _ _ _ _ (hK _ _ _ _ _ (hK _ _ _ _ _ (hK _ _ _ _ _ (?_))))
  refine hK _ _ _ _ _ ⟨i_sc (k := 3) ha hn3 (by decide), ?_⟩
  refine hK _ _ _ _ _ ⟨fun hb1 => ?_, fun hb1 => ?_⟩
  · skip
    refine hK _ _ _ _ _ (hK _ _ _ _ _ (hK _ _ _ _ _ (hK _ _ _ _ _ (hK _ _ _ _ _ (?_)))))
    refine hK _ _ _ _ _ ⟨i_sc (k := 4) ha hn3 (by decide), ?_⟩
    refine hK _ _ _ _ _ (?_)
    obtain ⟨⟨e, n0, k0, S0, hS, hh, hX⟩, hI⟩ := hN.2.2
    obtain ⟨m0, hm, hz⟩ := x_bn (a := 0) (Or.inl rfl)
    refine hW _ _ _ _ _ ⟨by omega, _, w_set hN.1.1 hS hm hz, rfl, fun v2 N2 g2 => ?_⟩
    obtain ⟨⟨x2, rfl⟩, c2, s2, d2⟩ := g2
    refine hK _ _ _ _ _ (hK _ _ _ _ _ (hK _ _ _ _ _ (hK _ _ _ _ _ (hK _ _ _ _ _ (hK _ _ _ _ _ (?_))))))
    refine hK _ _ _ _ _ ⟨i_sc (k := 1) ha hn3 (by decide), ?_⟩
    refine hK _ _ _ _ _ (hK _ _ _ _ _ (hK _ _ _ _ _ (hK _ _ _ _ _ (?_))))
    refine hK _ _ _ _ _ ⟨i_sc (k := 2) ha hn3 (by decide), ?_⟩
    refine hK _ _ _ _ _ (hK _ _ _ _ _ (hK _ _ _ _ _ (hK _ _ _ _ _ (?_))))
    refine hK _ _ _ _ _ ⟨i_sc (k := 3) ha hn3 (by decide), ?_⟩
    refine hK _ _ _ _ _ ⟨fun hb3 => ?_, fun hb3 => ?_⟩
    · skip
      refine hK _ _ _ _ _ (hK _ _ _ _ _ (hK _ _ _ _ _ (hK _ _ _ _ _ (hK _ _ _ _ _ (?_)))))
      refine hK _ _ _ _ _ ⟨i_sc (k := 4) ha hn3 (by decide), ?_⟩
      refine hK _ _ _ _ _ ⟨_, m_set c2.1 (iM_c c2 hN.1.2.1) (SX_m hS c2) (Or.inl rfl) hm hz (SX_ll hS hh c2), rfl, fun v4 N4 g4 => ?_⟩
      obtain ⟨⟨y4, rfl⟩, p4, l4, q4⟩ := g4
      rw [show N2.1 99 0 = M.1 99 0 from funext (fun j => (c2.2.1 99 0 j (by decide) (by decide)).1)] at l4 q4
      obtain ⟨rl4, cmp4⟩ := RZ_set hm hI hS hh hX c2 d2 p4 q4
      refine hK _ _ _ _ _ (hK _ _ _ _ _ (?_))
      refine hK _ _ _ _ _ (hK _ _ _ _ _ ?_)
      refine hF _ _ _ _ _ _ (i_le (L := [])) ?_
      have e9 := ih (n + 1) N4 (by omega) ⟨iN_s hN.1 c2 p4, RX_hx hN.2.1 c2 s2 p4 l4, rl4⟩
      rw [← hI_ad] at e9
      exact e9
    · exact absurd (((c2.2.1 99 0 _ (by decide) (by decide)).1).trans hb1) hb3
  · skip
    refine hK _ _ _ _ _ (hK _ _ _ _ _ (hK _ _ _ _ _ (hK _ _ _ _ _ (hK _ _ _ _ _ (hK _ _ _ _ _ (?_))))))
    refine hK _ _ _ _ _ ⟨i_sc (k := 4) ha hn3 (by decide), ?_⟩
    refine hK _ _ _ _ _ (?_)
    obtain ⟨⟨e, n0, k0, S0, hS, hh, hX⟩, hI⟩ := hN.2.2
    obtain ⟨m0, hm, hz⟩ := x_bn (a := 1) (Or.inr rfl)
    refine hW _ _ _ _ _ ⟨by omega, _, w_set hN.1.1 hS hm hz, rfl, fun v5 N5 g5 => ?_⟩
    obtain ⟨⟨x5, rfl⟩, c5, s5, d5⟩ := g5
    refine hK _ _ _ _ _ (hK _ _ _ _ _ (hK _ _ _ _ _ (hK _ _ _ _ _ (hK _ _ _ _ _ (hK _ _ _ _ _ (?_))))))
    refine hK _ _ _ _ _ ⟨i_sc (k := 1) ha hn3 (by decide), ?_⟩
    refine hK _ _ _ _ _ (hK _ _ _ _ _ (hK _ _ _ _ _ (hK _ _ _ _ _ (?_))))
    refine hK _ _ _ _ _ ⟨i_sc (k := 2) ha hn3 (by decide), ?_⟩
    refine hK _ _ _ _ _ (hK _ _ _ _ _ (hK _ _ _ _ _ (hK _ _ _ _ _ (?_))))
    refine hK _ _ _ _ _ ⟨i_sc (k := 3) ha hn3 (by decide), ?_⟩
    refine hK _ _ _ _ _ ⟨fun hb6 => ?_, fun hb6 => ?_⟩
    · exact absurd (((c5.2.1 99 0 _ (by decide) (by decide)).1).symm.trans hb6) hb1
    · skip
      refine hK _ _ _ _ _ (hK _ _ _ _ _ (hK _ _ _ _ _ (hK _ _ _ _ _ (hK _ _ _ _ _ (hK _ _ _ _ _ (?_))))))
      refine hK _ _ _ _ _ ⟨i_sc (k := 4) ha hn3 (by decide), ?_⟩
      refine hK _ _ _ _ _ ⟨_, m_set c5.1 (iM_c c5 hN.1.2.1) (SX_m hS c5) (Or.inr rfl) hm hz (SX_ll hS hh c5), rfl, fun v7 N7 g7 => ?_⟩
      obtain ⟨⟨y7, rfl⟩, p7, l7, q7⟩ := g7
      rw [show N5.1 99 0 = M.1 99 0 from funext (fun j => (c5.2.1 99 0 j (by decide) (by decide)).1)] at l7 q7
      obtain ⟨rl7, cmp7⟩ := RZ_set hm hI hS hh hX c5 d5 p7 q7
      refine hK _ _ _ _ _ (hK _ _ _ _ _ (?_))
      refine hK _ _ _ _ _ (hK _ _ _ _ _ ?_)
      refine hF _ _ _ _ _ _ (i_le (L := [])) ?_
      have e9 := ih (n + 1) N7 (by omega) ⟨iN_s hN.1 c5 p7, RX_hx hN.2.1 c5 s5 p7 l7, rl7⟩
      rw [← hI_ad] at e9
      exact e9
set_option maxRecDepth 10000 in
theorem lw_c8 {K : Nat → aK} {nS : Nat} (hK : ∀ n pc L S M, a_wp 60 nS (fun y as M P => aC nS 60 y as M P (fun _ _ => False)) ret k_law (fun _ _ => False) (fun _ _ => False) (K n) pc L S M → K n pc L S M)
    (hW : ∀ n pc L S M, a_wpW nS 60 K n pc L S M → K n pc L S M) (hF : ∀ n pc L L' S M, a_le L' L → K n pc L' S M → K n pc L S M) (hn3 : nS ≤ 3072) {a n : Nat} (ha : a + 6 ≤ nS) (h6 : 6 * n ≤ a) {M : aM} (hN : iN M)
    (ih : ∀ n' M', n' ≤ n + 1 → iN M' → K n' 23 [some (vR 99 0), some (vR 0 0), some (vR 36 0), some (vR 98 0), some (vI (Int32.ofNat (a + 6))), none, none, none] [] M') : K n 523 [some (vR 99 0), some (vR 0 0), some (vR 36 0), some (vR 98 0), some (vI (Int32.ofNat a)), none, none, none] [] M := by
  refine hK _ _ _ _ _ (hK _ _ _ _ _ (hK _ _ _ _ _ (hK _ _ _ _ _ (hK _ _ _ _ _ (?_)))))
  refine hK _ _ _ _ _ ⟨i_sc (k := 1) ha hn3 (by decide), ?_⟩
  refine hK _ _ _ _ _ (hK _ _ _ _ _ (hK _ _ _ _ _ (hK _ _ _ _ _ (?_))))
  refine hK _ _ _ _ _ ⟨i_sc (k := 2) ha hn3 (by decide), ?_⟩
  refine hK _ _ _ _ _ (?_)
  refine hW _ _ _ _ _ ⟨by omega, _, w_round hN.1.1 , rfl, fun v1 N1 g1 => ?_⟩
  obtain ⟨⟨x1, rfl⟩, c1, s1⟩ := g1
  refine hK _ _ _ _ _ (hK _ _ _ _ _ (hK _ _ _ _ _ (hK _ _ _ _ _ (hK _ _ _ _ _ (hK _ _ _ _ _ (?_))))))
  refine hK _ _ _ _ _ ⟨i_sc (k := 1) ha hn3 (by decide), ?_⟩
  refine hK _ _ _ _ _ (hK _ _ _ _ _ (hK _ _ _ _ _ (hK _ _ _ _ _ (?_))))
  refine hK _ _ _ _ _ ⟨i_sc (k := 2) ha hn3 (by decide), ?_⟩
  refine hK _ _ _ _ _ ⟨_, m_round c1.1 (iM_c c1 hN.1.2.1) , rfl, fun v2 N2 g2 => ?_⟩
  obtain ⟨z2, p2, l2⟩ := g2
  obtain ⟨x2, rfl⟩ := i_v1 z2
  refine hK _ _ _ _ _ (hK _ _ _ _ _ (?_))
  refine hK _ _ _ _ _ (hK _ _ _ _ _ ?_)
  refine hF _ _ _ _ _ _ (i_le (L := [])) ?_
  have e9 := ih (n + 1) N2 (by omega) ⟨iN_s hN.1 c1 p2, RX_same hN.2.1 c1 s1 p2 l2, RZ_same hN.2.2 c1 s1 p2 l2⟩
  rw [← hI_ad] at e9
  exact e9
set_option maxRecDepth 10000 in
theorem lw_c9 {K : Nat → aK} {nS : Nat} (hK : ∀ n pc L S M, a_wp 60 nS (fun y as M P => aC nS 60 y as M P (fun _ _ => False)) ret k_law (fun _ _ => False) (fun _ _ => False) (K n) pc L S M → K n pc L S M)
    (hW : ∀ n pc L S M, a_wpW nS 60 K n pc L S M → K n pc L S M) (hF : ∀ n pc L L' S M, a_le L' L → K n pc L' S M → K n pc L S M) (hn3 : nS ≤ 3072) {a n : Nat} (ha : a + 6 ≤ nS) (h6 : 6 * n ≤ a) {M : aM} (hN : iN M)
    (ih : ∀ n' M', n' ≤ n + 1 → iN M' → K n' 23 [some (vR 99 0), some (vR 0 0), some (vR 36 0), some (vR 98 0), some (vI (Int32.ofNat (a + 6))), none, none, none] [] M') : K n 563 [some (vR 99 0), some (vR 0 0), some (vR 36 0), some (vR 98 0), some (vI (Int32.ofNat a)), none, none, none] [] M := by
  refine hK _ _ _ _ _ (hK _ _ _ _ _ (hK _ _ _ _ _ (hK _ _ _ _ _ (hK _ _ _ _ _ (?_)))))
  refine hK _ _ _ _ _ ⟨i_sc (k := 1) ha hn3 (by decide), ?_⟩
  refine hK _ _ _ _ _ (hK _ _ _ _ _ (hK _ _ _ _ _ (hK _ _ _ _ _ (?_))))
  refine hK _ _ _ _ _ ⟨i_sc (k := 2) ha hn3 (by decide), ?_⟩
  refine hK _ _ _ _ _ (hK _ _ _ _ _ (hK _ _ _ _ _ (hK _ _ _ _ _ (?_))))
  refine hK _ _ _ _ _ ⟨i_sc (k := 3) ha hn3 (by decide), ?_⟩
  refine hK _ _ _ _ _ (?_)
  obtain ⟨⟨e, n0, k0, S0, hS, hh, hX⟩, hI⟩ := hN.2.2
  refine hW _ _ _ _ _ ⟨by omega, _, w_frame hN.1.1 hS (SX_lO hS hh).1, rfl, fun v1 N1 g1 => ?_⟩
  obtain ⟨⟨x1, rfl⟩, c1, s1, d1⟩ := g1
  refine hK _ _ _ _ _ (hK _ _ _ _ _ (hK _ _ _ _ _ (hK _ _ _ _ _ (hK _ _ _ _ _ (hK _ _ _ _ _ (?_))))))
  refine hK _ _ _ _ _ ⟨i_sc (k := 1) ha hn3 (by decide), ?_⟩
  refine hK _ _ _ _ _ (hK _ _ _ _ _ (hK _ _ _ _ _ (hK _ _ _ _ _ (?_))))
  refine hK _ _ _ _ _ ⟨i_sc (k := 2) ha hn3 (by decide), ?_⟩
  refine hK _ _ _ _ _ (hK _ _ _ _ _ (hK _ _ _ _ _ (hK _ _ _ _ _ (?_))))
  refine hK _ _ _ _ _ ⟨i_sc (k := 3) ha hn3 (by decide), ?_⟩
  refine hK _ _ _ _ _ ⟨_, m_frame c1.1 (iM_c c1 hN.1.2.1) (SX_m hS c1) (SX_ll hS hh c1), rfl, fun v2 N2 g2 => ?_⟩
  obtain ⟨⟨y2, rfl⟩, p2, l2, q2⟩ := g2
  rw [show N1.1 99 0 = M.1 99 0 from funext (fun j => (c1.2.1 99 0 j (by decide) (by decide)).1)] at l2 q2
  obtain ⟨rl2, cmp2⟩ := RZ_frame hI hS hh hX c1 d1 p2 q2
  refine hK _ _ _ _ _ (hK _ _ _ _ _ (?_))
  refine hK _ _ _ _ _ (hK _ _ _ _ _ ?_)
  refine hF _ _ _ _ _ _ (i_le (L := [])) ?_
  have e9 := ih (n + 1) N2 (by omega) ⟨iN_s hN.1 c1 p2, RX_hx hN.2.1 c1 s1 p2 l2, rl2⟩
  rw [← hI_ad] at e9
  exact e9
set_option maxRecDepth 10000 in
theorem lw_c10 {K : Nat → aK} {nS : Nat} (hK : ∀ n pc L S M, a_wp 60 nS (fun y as M P => aC nS 60 y as M P (fun _ _ => False)) ret k_law (fun _ _ => False) (fun _ _ => False) (K n) pc L S M → K n pc L S M)
    (hW : ∀ n pc L S M, a_wpW nS 60 K n pc L S M → K n pc L S M) (hF : ∀ n pc L L' S M, a_le L' L → K n pc L' S M → K n pc L S M) (hn3 : nS ≤ 3072) {a n : Nat} (ha : a + 6 ≤ nS) (h6 : 6 * n ≤ a) {M : aM} (hN : iN M)
    (ih : ∀ n' M', n' ≤ n + 1 → iN M' → K n' 23 [some (vR 99 0), some (vR 0 0), some (vR 36 0), some (vR 98 0), some (vI (Int32.ofNat (a + 6))), none, none, none] [] M') : K n 615 [some (vR 99 0), some (vR 0 0), some (vR 36 0), some (vR 98 0), some (vI (Int32.ofNat a)), none, none, none] [] M := by
  refine hK _ _ _ _ _ (?_)
  obtain ⟨⟨e, n0, k0, S0, hS, hh, hX⟩, hI⟩ := hN.2.2
  refine hK _ _ _ _ _ ⟨_, c_undo hN.1.1 hS hh, rfl, fun v1 N1 g1 => ?_⟩
  obtain ⟨rfl, c1, s1, ⟨d1, f1⟩, u1⟩ := g1
  refine hK _ _ _ _ _ (hK _ _ _ _ _ (?_))
  refine hK _ _ _ _ _ ⟨_, m_undo c1.1 (iM_c c1 hN.1.2.1) (SX_m hS c1), rfl, fun v2 N2 g2 => ?_⟩
  obtain ⟨rfl, p2, l2, ⟨h82, h72⟩, ul2⟩ := g2
  refine hK _ _ _ _ _ (hK _ _ _ _ _ (?_))
  refine hK _ _ _ _ _ (hK _ _ _ _ _ ?_)
  refine hF _ _ _ _ _ _ (i_le (L := [])) ?_
  have e9 := ih n N2 (by omega) ⟨iN_s hN.1 c1 p2, RX_hist hN.2.1 c1 s1 p2 l2 ⟨d1.trans h82.symm, f1.trans h72.symm⟩, RZ_undo hI hS hh hX c1 u1 p2 ul2⟩
  rw [← hI_ad] at e9
  exact e9
set_option maxRecDepth 10000 in
theorem lw_c11 {K : Nat → aK} {nS : Nat} (hK : ∀ n pc L S M, a_wp 60 nS (fun y as M P => aC nS 60 y as M P (fun _ _ => False)) ret k_law (fun _ _ => False) (fun _ _ => False) (K n) pc L S M → K n pc L S M)
    (hW : ∀ n pc L S M, a_wpW nS 60 K n pc L S M → K n pc L S M) (hF : ∀ n pc L L' S M, a_le L' L → K n pc L' S M → K n pc L S M) (hn3 : nS ≤ 3072) {a n : Nat} (ha : a + 6 ≤ nS) (h6 : 6 * n ≤ a) {M : aM} (hN : iN M)
    (ih : ∀ n' M', n' ≤ n + 1 → iN M' → K n' 23 [some (vR 99 0), some (vR 0 0), some (vR 36 0), some (vR 98 0), some (vI (Int32.ofNat (a + 6))), none, none, none] [] M') : K n 628 [some (vR 99 0), some (vR 0 0), some (vR 36 0), some (vR 98 0), some (vI (Int32.ofNat a)), none, none, none] [] M := by
  refine hK _ _ _ _ _ (?_)
  obtain ⟨⟨e, n0, k0, S0, hS, hh, hX⟩, hI⟩ := hN.2.2
  refine hK _ _ _ _ _ ⟨_, c_redo hN.1.1 hS hh, rfl, fun v1 N1 g1 => ?_⟩
  obtain ⟨rfl, c1, s1, ⟨d1, f1⟩, u1⟩ := g1
  refine hK _ _ _ _ _ (hK _ _ _ _ _ (?_))
  refine hK _ _ _ _ _ ⟨_, m_redo c1.1 (iM_c c1 hN.1.2.1) (SX_m hS c1), rfl, fun v2 N2 g2 => ?_⟩
  obtain ⟨rfl, p2, l2, ⟨h82, h72⟩, ul2⟩ := g2
  refine hK _ _ _ _ _ (hK _ _ _ _ _ (?_))
  refine hK _ _ _ _ _ (hK _ _ _ _ _ ?_)
  refine hF _ _ _ _ _ _ (i_le (L := [])) ?_
  have e9 := ih n N2 (by omega) ⟨iN_s hN.1 c1 p2, RX_hist hN.2.1 c1 s1 p2 l2 ⟨d1.trans h82.symm, f1.trans h72.symm⟩, RZ_redo hI hS hh hX c1 u1 p2 ul2⟩
  rw [← hI_ad] at e9
  exact e9
set_option maxRecDepth 10000 in
theorem lw_c12 {K : Nat → aK} {nS : Nat} (hK : ∀ n pc L S M, a_wp 60 nS (fun y as M P => aC nS 60 y as M P (fun _ _ => False)) ret k_law (fun _ _ => False) (fun _ _ => False) (K n) pc L S M → K n pc L S M)
    (hW : ∀ n pc L S M, a_wpW nS 60 K n pc L S M → K n pc L S M) (hF : ∀ n pc L L' S M, a_le L' L → K n pc L' S M → K n pc L S M) (hn3 : nS ≤ 3072) {a n : Nat} (ha : a + 6 ≤ nS) (h6 : 6 * n ≤ a) {M : aM} (hN : iN M)
    (ih : ∀ n' M', n' ≤ n + 1 → iN M' → K n' 23 [some (vR 99 0), some (vR 0 0), some (vR 36 0), some (vR 98 0), some (vI (Int32.ofNat (a + 6))), none, none, none] [] M') : K n 641 [some (vR 99 0), some (vR 0 0), some (vR 36 0), some (vR 98 0), some (vI (Int32.ofNat a)), none, none, none] [] M := by
  refine hK _ _ _ _ _ (hK _ _ _ _ _ (hK _ _ _ _ _ (hK _ _ _ _ _ (hK _ _ _ _ _ (?_)))))
  refine hK _ _ _ _ _ ⟨i_sc (k := 1) ha hn3 (by decide), ?_⟩
  refine hK _ _ _ _ _ (?_)
  refine hW _ _ _ _ _ ⟨by omega, _, w_walk hN.1.1 , rfl, fun v1 N1 g1 => ?_⟩
  obtain ⟨⟨x1, rfl⟩, c1, s1⟩ := g1
  refine hK _ _ _ _ _ (hK _ _ _ _ _ (hK _ _ _ _ _ (hK _ _ _ _ _ (hK _ _ _ _ _ (hK _ _ _ _ _ (?_))))))
  refine hK _ _ _ _ _ ⟨i_sc (k := 1) ha hn3 (by decide), ?_⟩
  refine hK _ _ _ _ _ ⟨_, m_walk c1.1 (iM_c c1 hN.1.2.1) , rfl, fun v2 N2 g2 => ?_⟩
  obtain ⟨z2, p2, l2⟩ := g2
  obtain ⟨x2, rfl⟩ := i_v1 z2
  refine hK _ _ _ _ _ (hK _ _ _ _ _ (?_))
  refine hK _ _ _ _ _ (hK _ _ _ _ _ ?_)
  refine hF _ _ _ _ _ _ (i_le (L := [])) ?_
  have e9 := ih (n + 1) N2 (by omega) ⟨iN_2 c1 p2 rfl, RX_same hN.2.1 c1 s1 p2 l2, RZ_same hN.2.2 c1 s1 p2 l2⟩
  rw [← hI_ad] at e9
  exact e9
set_option maxRecDepth 10000 in
theorem lw_c13 {K : Nat → aK} {nS : Nat} (hK : ∀ n pc L S M, a_wp 60 nS (fun y as M P => aC nS 60 y as M P (fun _ _ => False)) ret k_law (fun _ _ => False) (fun _ _ => False) (K n) pc L S M → K n pc L S M)
    (hW : ∀ n pc L S M, a_wpW nS 60 K n pc L S M → K n pc L S M) (hF : ∀ n pc L L' S M, a_le L' L → K n pc L' S M → K n pc L S M) (hn3 : nS ≤ 3072) {a n : Nat} (ha : a + 6 ≤ nS) (h6 : 6 * n ≤ a) {M : aM} (hN : iN M)
    (ih : ∀ n' M', n' ≤ n + 1 → iN M' → K n' 23 [some (vR 99 0), some (vR 0 0), some (vR 36 0), some (vR 98 0), some (vI (Int32.ofNat (a + 6))), none, none, none] [] M') : K n 669 [some (vR 99 0), some (vR 0 0), some (vR 36 0), some (vR 98 0), some (vI (Int32.ofNat a)), none, none, none] [] M := by
  refine hK _ _ _ _ _ (?_)
  refine hK _ _ _ _ _ ⟨_, c_worth hN.1.1 , rfl, fun v1 N1 g1 => ?_⟩
  obtain ⟨z1, c1, s1⟩ := g1
  obtain ⟨x1, rfl⟩ := i_v2 z1
  refine hK _ _ _ _ _ (hK _ _ _ _ _ (?_))
  refine hK _ _ _ _ _ ⟨_, m_worth c1.1 (iM_c c1 hN.1.2.1) , rfl, fun v2 N2 g2 => ?_⟩
  obtain ⟨z2, p2, l2⟩ := g2
  obtain ⟨x2, rfl⟩ := i_v2 z2
  refine hK _ _ _ _ _ (hK _ _ _ _ _ (?_))
  refine hK _ _ _ _ _ (hK _ _ _ _ _ ?_)
  refine hF _ _ _ _ _ _ (i_le (L := [])) ?_
  have e9 := ih n N2 (by omega) ⟨iN_s hN.1 c1 p2, RX_same hN.2.1 c1 s1 p2 l2, RZ_same hN.2.2 c1 s1 p2 l2⟩
  rw [← hI_ad] at e9
  exact e9
set_option maxRecDepth 10000 in
theorem lw_c14 {K : Nat → aK} {nS : Nat} (hK : ∀ n pc L S M, a_wp 60 nS (fun y as M P => aC nS 60 y as M P (fun _ _ => False)) ret k_law (fun _ _ => False) (fun _ _ => False) (K n) pc L S M → K n pc L S M)
    (hW : ∀ n pc L S M, a_wpW nS 60 K n pc L S M → K n pc L S M) (hF : ∀ n pc L L' S M, a_le L' L → K n pc L' S M → K n pc L S M) (hn3 : nS ≤ 3072) {a n : Nat} (ha : a + 6 ≤ nS) (h6 : 6 * n ≤ a) {M : aM} (hN : iN M)
    (ih : ∀ n' M', n' ≤ n + 1 → iN M' → K n' 23 [some (vR 99 0), some (vR 0 0), some (vR 36 0), some (vR 98 0), some (vI (Int32.ofNat (a + 6))), none, none, none] [] M') : K n 682 [some (vR 99 0), some (vR 0 0), some (vR 36 0), some (vR 98 0), some (vI (Int32.ofNat a)), none, none, none] [] M := by
  refine hK _ _ _ _ _ (?_)
  obtain ⟨⟨e, n0, k0, S0, hS, hh, hX⟩, hI⟩ := hN.2.2
  refine hK _ _ _ _ _ ⟨_, cx_turned hN.1.1 hS  (SX_lO hS hh).1, rfl, fun v1 N1 g1 => ?_⟩
  obtain ⟨rfl, c1, s1⟩ := g1
  refine hK _ _ _ _ _ (?_)
  refine hK _ _ _ _ _ ⟨_, mx_turned c1.1 (iM_c c1 hN.1.2.1) (SX_m hS c1)  (SX_ll hS hh c1), rfl, fun v2 N2 g2 => ?_⟩
  obtain ⟨rfl, p2, l2⟩ := g2
  refine hK _ _ _ _ _ ⟨fun _ => ?_, fun h => absurd (x_turned) h⟩
  refine hK _ _ _ _ _ (hK _ _ _ _ _ ?_)
  refine hF _ _ _ _ _ _ (i_le (L := [])) ?_
  have e9 := ih n N2 (by omega) ⟨iN_s hN.1 c1 p2, RX_same hN.2.1 c1 s1 p2 l2, RZ_same hN.2.2 c1 s1 p2 l2⟩
  rw [← hI_ad] at e9
  exact e9
set_option maxRecDepth 10000 in
theorem lw_c15 {K : Nat → aK} {nS : Nat} (hK : ∀ n pc L S M, a_wp 60 nS (fun y as M P => aC nS 60 y as M P (fun _ _ => False)) ret k_law (fun _ _ => False) (fun _ _ => False) (K n) pc L S M → K n pc L S M)
    (hW : ∀ n pc L S M, a_wpW nS 60 K n pc L S M → K n pc L S M) (hF : ∀ n pc L L' S M, a_le L' L → K n pc L' S M → K n pc L S M) (hn3 : nS ≤ 3072) {a n : Nat} (ha : a + 6 ≤ nS) (h6 : 6 * n ≤ a) {M : aM} (hN : iN M)
    (ih : ∀ n' M', n' ≤ n + 1 → iN M' → K n' 23 [some (vR 99 0), some (vR 0 0), some (vR 36 0), some (vR 98 0), some (vI (Int32.ofNat (a + 6))), none, none, none] [] M') : K n 695 [some (vR 99 0), some (vR 0 0), some (vR 36 0), some (vR 98 0), some (vI (Int32.ofNat a)), none, none, none] [] M := by
  refine hK _ _ _ _ _ (hK _ _ _ _ _ (?_))
  refine hW _ _ _ _ _ ⟨by omega, _, w_alike hN.1.1 , rfl, fun v1 N1 g1 => ?_⟩
  obtain ⟨⟨x1, rfl⟩, c1, s1⟩ := g1
  refine hK _ _ _ _ _ (hK _ _ _ _ _ (?_))
  refine hK _ _ _ _ _ ⟨_, m_alike c1.1 (iM_c c1 hN.1.2.1) , rfl, fun v2 N2 g2 => ?_⟩
  obtain ⟨z2, p2, l2⟩ := g2
  obtain ⟨x2, rfl⟩ := i_v1 z2
  refine hK _ _ _ _ _ (hK _ _ _ _ _ (?_))
  refine hK _ _ _ _ _ (hK _ _ _ _ _ ?_)
  refine hF _ _ _ _ _ _ (i_le (L := [])) ?_
  have e9 := ih (n + 1) N2 (by omega) ⟨iN_s hN.1 c1 p2, RX_same hN.2.1 c1 s1 p2 l2, RZ_same hN.2.2 c1 s1 p2 l2⟩
  rw [← hI_ad] at e9
  exact e9
set_option maxRecDepth 10000 in
theorem lw_c16 {K : Nat → aK} {nS : Nat} (hK : ∀ n pc L S M, a_wp 60 nS (fun y as M P => aC nS 60 y as M P (fun _ _ => False)) ret k_law (fun _ _ => False) (fun _ _ => False) (K n) pc L S M → K n pc L S M)
    (hW : ∀ n pc L S M, a_wpW nS 60 K n pc L S M → K n pc L S M) (hF : ∀ n pc L L' S M, a_le L' L → K n pc L' S M → K n pc L S M) (hn3 : nS ≤ 3072) {a n : Nat} (ha : a + 6 ≤ nS) (h6 : 6 * n ≤ a) {M : aM} (hN : iN M)
    (ih : ∀ n' M', n' ≤ n + 1 → iN M' → K n' 23 [some (vR 99 0), some (vR 0 0), some (vR 36 0), some (vR 98 0), some (vI (Int32.ofNat (a + 6))), none, none, none] [] M') : K n 711 [some (vR 99 0), some (vR 0 0), some (vR 36 0), some (vR 98 0), some (vI (Int32.ofNat a)), none, none, none] [] M := by
  refine hK _ _ _ _ _ (?_)
  refine hK _ _ _ _ _ ⟨_, c_sum hN.1.1 , rfl, fun v1 N1 g1 => ?_⟩
  obtain ⟨z1, c1, s1⟩ := g1
  obtain ⟨x1, rfl⟩ := i_v2 z1
  refine hK _ _ _ _ _ (hK _ _ _ _ _ (?_))
  refine hK _ _ _ _ _ ⟨_, m_sum c1.1 (iM_c c1 hN.1.2.1) , rfl, fun v2 N2 g2 => ?_⟩
  obtain ⟨z2, p2, l2⟩ := g2
  obtain ⟨x2, rfl⟩ := i_v2 z2
  refine hK _ _ _ _ _ (hK _ _ _ _ _ (?_))
  refine hK _ _ _ _ _ (hK _ _ _ _ _ ?_)
  refine hF _ _ _ _ _ _ (i_le (L := [])) ?_
  have e9 := ih n N2 (by omega) ⟨iN_s hN.1 c1 p2, RX_same hN.2.1 c1 s1 p2 l2, RZ_same hN.2.2 c1 s1 p2 l2⟩
  rw [← hI_ad] at e9
  exact e9
set_option maxRecDepth 10000 in
theorem lw_c17 {K : Nat → aK} {nS : Nat} (hK : ∀ n pc L S M, a_wp 60 nS (fun y as M P => aC nS 60 y as M P (fun _ _ => False)) ret k_law (fun _ _ => False) (fun _ _ => False) (K n) pc L S M → K n pc L S M)
    (hW : ∀ n pc L S M, a_wpW nS 60 K n pc L S M → K n pc L S M) (hF : ∀ n pc L L' S M, a_le L' L → K n pc L' S M → K n pc L S M) (hn3 : nS ≤ 3072) {a n : Nat} (ha : a + 6 ≤ nS) (h6 : 6 * n ≤ a) {M : aM} (hN : iN M)
    (ih : ∀ n' M', n' ≤ n + 1 → iN M' → K n' 23 [some (vR 99 0), some (vR 0 0), some (vR 36 0), some (vR 98 0), some (vI (Int32.ofNat (a + 6))), none, none, none] [] M') : K n 724 [some (vR 99 0), some (vR 0 0), some (vR 36 0), some (vR 98 0), some (vI (Int32.ofNat a)), none, none, none] [] M := by
  refine hK _ _ _ _ _ (hK _ _ _ _ _ (?_))
  refine hW _ _ _ _ _ ⟨by omega, _, w_listed hN.1.1 , rfl, fun v1 N1 g1 => ?_⟩
  obtain ⟨⟨x1, rfl⟩, c1, s1⟩ := g1
  refine hK _ _ _ _ _ (hK _ _ _ _ _ (?_))
  refine hK _ _ _ _ _ ⟨_, m_listed c1.1 (iM_c c1 hN.1.2.1) , rfl, fun v2 N2 g2 => ?_⟩
  obtain ⟨z2, p2, l2⟩ := g2
  obtain ⟨x2, rfl⟩ := i_v2 z2
  refine hK _ _ _ _ _ (hK _ _ _ _ _ (?_))
  refine hK _ _ _ _ _ (hK _ _ _ _ _ ?_)
  refine hF _ _ _ _ _ _ (i_le (L := [])) ?_
  have e9 := ih (n + 1) N2 (by omega) ⟨iN_s hN.1 c1 p2, RX_same hN.2.1 c1 s1 p2 l2, RZ_same hN.2.2 c1 s1 p2 l2⟩
  rw [← hI_ad] at e9
  exact e9
set_option maxRecDepth 10000 in
theorem lw_c18 {K : Nat → aK} {nS : Nat} (hK : ∀ n pc L S M, a_wp 60 nS (fun y as M P => aC nS 60 y as M P (fun _ _ => False)) ret k_law (fun _ _ => False) (fun _ _ => False) (K n) pc L S M → K n pc L S M)
    (hW : ∀ n pc L S M, a_wpW nS 60 K n pc L S M → K n pc L S M) (hF : ∀ n pc L L' S M, a_le L' L → K n pc L' S M → K n pc L S M) (hn3 : nS ≤ 3072) {a n : Nat} (ha : a + 6 ≤ nS) (h6 : 6 * n ≤ a) {M : aM} (hN : iN M)
    (ih : ∀ n' M', n' ≤ n + 1 → iN M' → K n' 23 [some (vR 99 0), some (vR 0 0), some (vR 36 0), some (vR 98 0), some (vI (Int32.ofNat (a + 6))), none, none, none] [] M') : K n 740 [some (vR 99 0), some (vR 0 0), some (vR 36 0), some (vR 98 0), some (vI (Int32.ofNat a)), none, none, none] [] M := by
  refine hK _ _ _ _ _ (hK _ _ _ _ _ (hK _ _ _ _ _ (hK _ _ _ _ _ (hK _ _ _ _ _ (?_)))))
  refine hK _ _ _ _ _ ⟨i_sc (k := 1) ha hn3 (by decide), ?_⟩
  refine hK _ _ _ _ _ ⟨_, c_states hN.1.1 , rfl, fun v1 N1 g1 => ?_⟩
  obtain ⟨z1, c1, s1⟩ := g1
  obtain ⟨x1, rfl⟩ := i_v2 z1
  refine hK _ _ _ _ _ (hK _ _ _ _ _ (hK _ _ _ _ _ (hK _ _ _ _ _ (hK _ _ _ _ _ (hK _ _ _ _ _ (?_))))))
  refine hK _ _ _ _ _ ⟨i_sc (k := 1) ha hn3 (by decide), ?_⟩
  refine hK _ _ _ _ _ ⟨_, m_states c1.1 (iM_c c1 hN.1.2.1) , rfl, fun v2 N2 g2 => ?_⟩
  obtain ⟨z2, p2, l2⟩ := g2
  obtain ⟨x2, rfl⟩ := i_v2 z2
  refine hK _ _ _ _ _ (hK _ _ _ _ _ (?_))
  refine hK _ _ _ _ _ (hK _ _ _ _ _ ?_)
  refine hF _ _ _ _ _ _ (i_le (L := [])) ?_
  have e9 := ih n N2 (by omega) ⟨iN_s hN.1 c1 p2, RX_same hN.2.1 c1 s1 p2 l2, RZ_same hN.2.2 c1 s1 p2 l2⟩
  rw [← hI_ad] at e9
  exact e9
set_option maxRecDepth 10000 in
theorem lw_c19 {K : Nat → aK} {nS : Nat} (hK : ∀ n pc L S M, a_wp 60 nS (fun y as M P => aC nS 60 y as M P (fun _ _ => False)) ret k_law (fun _ _ => False) (fun _ _ => False) (K n) pc L S M → K n pc L S M)
    (hW : ∀ n pc L S M, a_wpW nS 60 K n pc L S M → K n pc L S M) (hF : ∀ n pc L L' S M, a_le L' L → K n pc L' S M → K n pc L S M) (hn3 : nS ≤ 3072) {a n : Nat} (ha : a + 6 ≤ nS) (h6 : 6 * n ≤ a) {M : aM} (hN : iN M)
    (ih : ∀ n' M', n' ≤ n + 1 → iN M' → K n' 23 [some (vR 99 0), some (vR 0 0), some (vR 36 0), some (vR 98 0), some (vI (Int32.ofNat (a + 6))), none, none, none] [] M') : K n 765 [some (vR 99 0), some (vR 0 0), some (vR 36 0), some (vR 98 0), some (vI (Int32.ofNat a)), none, none, none] [] M := by
  refine hK _ _ _ _ _ (hK _ _ _ _ _ (hK _ _ _ _ _ (hK _ _ _ _ _ (hK _ _ _ _ _ (?_)))))
  refine hK _ _ _ _ _ ⟨i_sc (k := 1) ha hn3 (by decide), ?_⟩
  refine hK _ _ _ _ _ (?_)
  refine hW _ _ _ _ _ ⟨by omega, _, w_mean hN.1.1 , rfl, fun v1 N1 g1 => ?_⟩
  obtain ⟨⟨x1, rfl⟩, c1, s1⟩ := g1
  refine hK _ _ _ _ _ (hK _ _ _ _ _ (hK _ _ _ _ _ (hK _ _ _ _ _ (hK _ _ _ _ _ (hK _ _ _ _ _ (?_))))))
  refine hK _ _ _ _ _ ⟨i_sc (k := 1) ha hn3 (by decide), ?_⟩
  refine hK _ _ _ _ _ ⟨_, m_mean c1.1 (iM_c c1 hN.1.2.1) , rfl, fun v2 N2 g2 => ?_⟩
  obtain ⟨z2, p2, l2⟩ := g2
  obtain ⟨x2, rfl⟩ := i_v2 z2
  refine hK _ _ _ _ _ (hK _ _ _ _ _ (?_))
  refine hK _ _ _ _ _ (hK _ _ _ _ _ ?_)
  refine hF _ _ _ _ _ _ (i_le (L := [])) ?_
  have e9 := ih (n + 1) N2 (by omega) ⟨iN_2 c1 p2 rfl, RX_same hN.2.1 c1 s1 p2 l2, RZ_same hN.2.2 c1 s1 p2 l2⟩
  rw [← hI_ad] at e9
  exact e9
set_option maxRecDepth 10000 in
theorem lw_c20 {K : Nat → aK} {nS : Nat} (hK : ∀ n pc L S M, a_wp 60 nS (fun y as M P => aC nS 60 y as M P (fun _ _ => False)) ret k_law (fun _ _ => False) (fun _ _ => False) (K n) pc L S M → K n pc L S M)
    (hW : ∀ n pc L S M, a_wpW nS 60 K n pc L S M → K n pc L S M) (hF : ∀ n pc L L' S M, a_le L' L → K n pc L' S M → K n pc L S M) (hn3 : nS ≤ 3072) {a n : Nat} (ha : a + 6 ≤ nS) (h6 : 6 * n ≤ a) {M : aM} (hN : iN M)
    (ih : ∀ n' M', n' ≤ n + 1 → iN M' → K n' 23 [some (vR 99 0), some (vR 0 0), some (vR 36 0), some (vR 98 0), some (vI (Int32.ofNat (a + 6))), none, none, none] [] M') : K n 793 [some (vR 99 0), some (vR 0 0), some (vR 36 0), some (vR 98 0), some (vI (Int32.ofNat a)), none, none, none] [] M := by
  refine hK _ _ _ _ _ (hK _ _ _ _ _ (hK _ _ _ _ _ (hK _ _ _ _ _ (hK _ _ _ _ _ (?_)))))
  refine hK _ _ _ _ _ ⟨i_sc (k := 1) ha hn3 (by decide), ?_⟩
  refine hK _ _ _ _ _ ⟨fun hb1 => ?_, fun hb1 => ?_⟩
  · skip
    refine hK _ _ _ _ _ (?_)
    obtain ⟨⟨e, n0, k0, S0, hS, hh, hX⟩, hI⟩ := hN.2.2
    refine hK _ _ _ _ _ ⟨_, c_rests hN.1.1 (Or.inl rfl), rfl, fun v2 N2 g2 => ?_⟩
    obtain ⟨z2, c2, s2⟩ := g2
    obtain ⟨x2, rfl⟩ := i_v1 z2
    refine hK _ _ _ _ _ (hK _ _ _ _ _ (hK _ _ _ _ _ (hK _ _ _ _ _ (hK _ _ _ _ _ (hK _ _ _ _ _ (?_))))))
    refine hK _ _ _ _ _ ⟨i_sc (k := 1) ha hn3 (by decide), ?_⟩
    refine hK _ _ _ _ _ ⟨fun hb3 => ?_, fun hb3 => ?_⟩
    · skip
      refine hK _ _ _ _ _ (?_)
      refine hK _ _ _ _ _ ⟨_, mx_rests c2.1 (iM_c c2 hN.1.2.1) (SX_m hS c2) (Or.inl rfl), rfl, fun v4 N4 g4 => ?_⟩
      obtain ⟨rfl, p4, l4⟩ := g4
      refine hK _ _ _ _ _ (hK _ _ _ _ _ (?_))
      refine hK _ _ _ _ _ (hK _ _ _ _ _ ?_)
      refine hF _ _ _ _ _ _ (i_le (L := [])) ?_
      have e9 := ih n N4 (by omega) ⟨iN_s hN.1 c2 p4, RX_same hN.2.1 c2 s2 p4 l4, RZ_same hN.2.2 c2 s2 p4 l4⟩
      rw [← hI_ad] at e9
      exact e9
    · exact absurd (((c2.2.1 99 0 _ (by decide) (by decide)).1).trans hb1) hb3
  · skip
    refine hK _ _ _ _ _ (hK _ _ _ _ _ (?_))
    obtain ⟨⟨e, n0, k0, S0, hS, hh, hX⟩, hI⟩ := hN.2.2
    refine hK _ _ _ _ _ ⟨_, c_rests hN.1.1 (Or.inr rfl), rfl, fun v5 N5 g5 => ?_⟩
    obtain ⟨z5, c5, s5⟩ := g5
    obtain ⟨x5, rfl⟩ := i_v1 z5
    refine hK _ _ _ _ _ (hK _ _ _ _ _ (hK _ _ _ _ _ (hK _ _ _ _ _ (hK _ _ _ _ _ (hK _ _ _ _ _ (?_))))))
    refine hK _ _ _ _ _ ⟨i_sc (k := 1) ha hn3 (by decide), ?_⟩
    refine hK _ _ _ _ _ ⟨fun hb6 => ?_, fun hb6 => ?_⟩
    · exact absurd (((c5.2.1 99 0 _ (by decide) (by decide)).1).symm.trans hb6) hb1
    · skip
      refine hK _ _ _ _ _ (hK _ _ _ _ _ (?_))
      refine hK _ _ _ _ _ ⟨_, mx_rests c5.1 (iM_c c5 hN.1.2.1) (SX_m hS c5) (Or.inr rfl), rfl, fun v7 N7 g7 => ?_⟩
      obtain ⟨rfl, p7, l7⟩ := g7
      refine hK _ _ _ _ _ (hK _ _ _ _ _ (?_))
      refine hK _ _ _ _ _ (hK _ _ _ _ _ ?_)
      refine hF _ _ _ _ _ _ (i_le (L := [])) ?_
      have e9 := ih n N7 (by omega) ⟨iN_s hN.1 c5 p7, RX_same hN.2.1 c5 s5 p7 l7, RZ_same hN.2.2 c5 s5 p7 l7⟩
      rw [← hI_ad] at e9
      exact e9
set_option maxRecDepth 10000 in
theorem lw_c21 {K : Nat → aK} {nS : Nat} (hK : ∀ n pc L S M, a_wp 60 nS (fun y as M P => aC nS 60 y as M P (fun _ _ => False)) ret k_law (fun _ _ => False) (fun _ _ => False) (K n) pc L S M → K n pc L S M)
    (hW : ∀ n pc L S M, a_wpW nS 60 K n pc L S M → K n pc L S M) (hF : ∀ n pc L L' S M, a_le L' L → K n pc L' S M → K n pc L S M) (hn3 : nS ≤ 3072) {a n : Nat} (ha : a + 6 ≤ nS) (h6 : 6 * n ≤ a) {M : aM} (hN : iN M)
    (ih : ∀ n' M', n' ≤ n + 1 → iN M' → K n' 23 [some (vR 99 0), some (vR 0 0), some (vR 36 0), some (vR 98 0), some (vI (Int32.ofNat (a + 6))), none, none, none] [] M') : K n 834 [some (vR 99 0), some (vR 0 0), some (vR 36 0), some (vR 98 0), some (vI (Int32.ofNat a)), none, none, none] [] M := by
  refine hK _ _ _ _ _ (hK _ _ _ _ _ (hK _ _ _ _ _ (hK _ _ _ _ _ (hK _ _ _ _ _ (?_)))))
  refine hK _ _ _ _ _ ⟨i_sc (k := 1) ha hn3 (by decide), ?_⟩
  refine hK _ _ _ _ _ (hK _ _ _ _ _ (hK _ _ _ _ _ (hK _ _ _ _ _ (?_))))
  refine hK _ _ _ _ _ ⟨i_sc (k := 2) ha hn3 (by decide), ?_⟩
  refine hK _ _ _ _ _ (hK _ _ _ _ _ (hK _ _ _ _ _ (hK _ _ _ _ _ (?_))))
  refine hK _ _ _ _ _ ⟨i_sc (k := 3) ha hn3 (by decide), ?_⟩
  refine hK _ _ _ _ _ (?_)
  refine hW _ _ _ _ _ ⟨by omega, _, w_body hN.1.1 , rfl, fun v1 N1 g1 => ?_⟩
  obtain ⟨⟨x1, rfl⟩, c1, s1⟩ := g1
  refine hK _ _ _ _ _ (hK _ _ _ _ _ (hK _ _ _ _ _ (hK _ _ _ _ _ (hK _ _ _ _ _ (hK _ _ _ _ _ (?_))))))
  refine hK _ _ _ _ _ ⟨i_sc (k := 1) ha hn3 (by decide), ?_⟩
  refine hK _ _ _ _ _ (hK _ _ _ _ _ (hK _ _ _ _ _ (hK _ _ _ _ _ (?_))))
  refine hK _ _ _ _ _ ⟨i_sc (k := 2) ha hn3 (by decide), ?_⟩
  refine hK _ _ _ _ _ (hK _ _ _ _ _ (hK _ _ _ _ _ (hK _ _ _ _ _ (?_))))
  refine hK _ _ _ _ _ ⟨i_sc (k := 3) ha hn3 (by decide), ?_⟩
  refine hK _ _ _ _ _ ⟨_, m_body c1.1 (iM_c c1 hN.1.2.1) , rfl, fun v2 N2 g2 => ?_⟩
  obtain ⟨z2, p2, l2⟩ := g2
  obtain ⟨x2, rfl⟩ := i_v2 z2
  refine hK _ _ _ _ _ (hK _ _ _ _ _ (?_))
  refine hK _ _ _ _ _ (hK _ _ _ _ _ ?_)
  refine hF _ _ _ _ _ _ (i_le (L := [])) ?_
  have e9 := ih (n + 1) N2 (by omega) ⟨iN_s hN.1 c1 p2, RX_same hN.2.1 c1 s1 p2 l2, RZ_same hN.2.2 c1 s1 p2 l2⟩
  rw [← hI_ad] at e9
  exact e9
set_option maxRecDepth 10000 in
theorem lw_c22 {K : Nat → aK} {nS : Nat} (hK : ∀ n pc L S M, a_wp 60 nS (fun y as M P => aC nS 60 y as M P (fun _ _ => False)) ret k_law (fun _ _ => False) (fun _ _ => False) (K n) pc L S M → K n pc L S M)
    (hW : ∀ n pc L S M, a_wpW nS 60 K n pc L S M → K n pc L S M) (hF : ∀ n pc L L' S M, a_le L' L → K n pc L' S M → K n pc L S M) (hn3 : nS ≤ 3072) {a n : Nat} (ha : a + 6 ≤ nS) (h6 : 6 * n ≤ a) {M : aM} (hN : iN M)
    (ih : ∀ n' M', n' ≤ n + 1 → iN M' → K n' 23 [some (vR 99 0), some (vR 0 0), some (vR 36 0), some (vR 98 0), some (vI (Int32.ofNat (a + 6))), none, none, none] [] M') : K n 886 [some (vR 99 0), some (vR 0 0), some (vR 36 0), some (vR 98 0), some (vI (Int32.ofNat a)), none, none, none] [] M := by
  refine hK _ _ _ _ _ (hK _ _ _ _ _ (hK _ _ _ _ _ (hK _ _ _ _ _ (hK _ _ _ _ _ (?_)))))
  refine hK _ _ _ _ _ ⟨i_sc (k := 1) ha hn3 (by decide), ?_⟩
  refine hK _ _ _ _ _ (?_)
  obtain ⟨⟨e, n0, k0, S0, hS, hh, hX⟩, hI⟩ := hN.2.2
  refine hW _ _ _ _ _ ⟨by omega, _, w_dual hN.1.1 , rfl, fun v1 N1 g1 => ?_⟩
  obtain ⟨⟨x1, rfl⟩, c1, s1⟩ := g1
  refine hK _ _ _ _ _ (hK _ _ _ _ _ (hK _ _ _ _ _ (hK _ _ _ _ _ (hK _ _ _ _ _ (hK _ _ _ _ _ (?_))))))
  refine hK _ _ _ _ _ ⟨i_sc (k := 1) ha hn3 (by decide), ?_⟩
  refine hK _ _ _ _ _ ⟨_, mx_dual c1.1 (iM_c c1 hN.1.2.1) (SX_m hS c1) , rfl, fun v2 N2 g2 => ?_⟩
  obtain ⟨⟨y2, rfl⟩, p2, l2, -⟩ := g2
  refine hK _ _ _ _ _ (hK _ _ _ _ _ (?_))
  refine hK _ _ _ _ _ (hK _ _ _ _ _ ?_)
  refine hF _ _ _ _ _ _ (i_le (L := [])) ?_
  have e9 := ih (n + 1) N2 (by omega) ⟨iN_s hN.1 c1 p2, RX_same hN.2.1 c1 s1 p2 l2, RZ_same hN.2.2 c1 s1 p2 l2⟩
  rw [← hI_ad] at e9
  exact e9
set_option maxRecDepth 10000 in
theorem lw_c23 {K : Nat → aK} {nS : Nat} (hK : ∀ n pc L S M, a_wp 60 nS (fun y as M P => aC nS 60 y as M P (fun _ _ => False)) ret k_law (fun _ _ => False) (fun _ _ => False) (K n) pc L S M → K n pc L S M)
    (hW : ∀ n pc L S M, a_wpW nS 60 K n pc L S M → K n pc L S M) (hF : ∀ n pc L L' S M, a_le L' L → K n pc L' S M → K n pc L S M) (hn3 : nS ≤ 3072) {a n : Nat} (ha : a + 6 ≤ nS) (h6 : 6 * n ≤ a) {M : aM} (hN : iN M)
    (ih : ∀ n' M', n' ≤ n + 1 → iN M' → K n' 23 [some (vR 99 0), some (vR 0 0), some (vR 36 0), some (vR 98 0), some (vI (Int32.ofNat (a + 6))), none, none, none] [] M') : K n 914 [some (vR 99 0), some (vR 0 0), some (vR 36 0), some (vR 98 0), some (vI (Int32.ofNat a)), none, none, none] [] M := by
  refine hK _ _ _ _ _ (hK _ _ _ _ _ (?_))
  obtain ⟨⟨e, n0, k0, S0, hS, hh, hX⟩, hI⟩ := hN.2.2
  refine hW _ _ _ _ _ ⟨by omega, _, w_dualSum hN.1.1 , rfl, fun v1 N1 g1 => ?_⟩
  obtain ⟨⟨x1, rfl⟩, c1, s1⟩ := g1
  refine hK _ _ _ _ _ (hK _ _ _ _ _ (?_))
  refine hK _ _ _ _ _ ⟨_, mx_dualSum c1.1 (iM_c c1 hN.1.2.1) (SX_m hS c1) , rfl, fun v2 N2 g2 => ?_⟩
  obtain ⟨⟨y2, rfl⟩, p2, l2, -⟩ := g2
  refine hK _ _ _ _ _ (hK _ _ _ _ _ (?_))
  refine hK _ _ _ _ _ (hK _ _ _ _ _ ?_)
  refine hF _ _ _ _ _ _ (i_le (L := [])) ?_
  have e9 := ih (n + 1) N2 (by omega) ⟨iN_s hN.1 c1 p2, RX_same hN.2.1 c1 s1 p2 l2, RZ_same hN.2.2 c1 s1 p2 l2⟩
  rw [← hI_ad] at e9
  exact e9
set_option maxRecDepth 10000 in
theorem lw_c24 {K : Nat → aK} {nS : Nat} (hK : ∀ n pc L S M, a_wp 60 nS (fun y as M P => aC nS 60 y as M P (fun _ _ => False)) ret k_law (fun _ _ => False) (fun _ _ => False) (K n) pc L S M → K n pc L S M)
    (hW : ∀ n pc L S M, a_wpW nS 60 K n pc L S M → K n pc L S M) (hF : ∀ n pc L L' S M, a_le L' L → K n pc L' S M → K n pc L S M) (hn3 : nS ≤ 3072) {a n : Nat} (ha : a + 6 ≤ nS) (h6 : 6 * n ≤ a) {M : aM} (hN : iN M)
    (ih : ∀ n' M', n' ≤ n + 1 → iN M' → K n' 23 [some (vR 99 0), some (vR 0 0), some (vR 36 0), some (vR 98 0), some (vI (Int32.ofNat (a + 6))), none, none, none] [] M') : K n 930 [some (vR 99 0), some (vR 0 0), some (vR 36 0), some (vR 98 0), some (vI (Int32.ofNat a)), none, none, none] [] M := by
  refine hK _ _ _ _ _ (hK _ _ _ _ _ (hK _ _ _ _ _ (hK _ _ _ _ _ (hK _ _ _ _ _ (?_)))))
  refine hK _ _ _ _ _ ⟨i_sc (k := 1) ha hn3 (by decide), ?_⟩
  refine hK _ _ _ _ _ (?_)
  obtain ⟨⟨e, n0, k0, S0, hS, hh, hX⟩, hI⟩ := hN.2.2
  refine hW _ _ _ _ _ ⟨by omega, _, w_draw hN.1.1 hS, rfl, fun v1 N1 g1 => ?_⟩
  obtain ⟨⟨x1, rfl⟩, c1, s1, d1⟩ := g1
  refine hK _ _ _ _ _ (hK _ _ _ _ _ (hK _ _ _ _ _ (hK _ _ _ _ _ (hK _ _ _ _ _ (hK _ _ _ _ _ (?_))))))
  refine hK _ _ _ _ _ ⟨i_sc (k := 1) ha hn3 (by decide), ?_⟩
  refine hK _ _ _ _ _ ⟨_, m_draw c1.1 (iM_c c1 hN.1.2.1) (SX_m hS c1) (SX_wOK hN.1.1 hS), rfl, fun v2 N2 g2 => ?_⟩
  obtain ⟨⟨y2, rfl⟩, p2, l2, q2⟩ := g2
  rw [x_dr c1 (SX_m hS c1)] at l2
  rw [show N1.1 99 0 = M.1 99 0 from funext (fun j => (c1.2.1 99 0 j (by decide) (by decide)).1)] at q2
  obtain ⟨rl2, cmp2⟩ := RZ_draw hI hS hh hX c1 d1 p2 q2
  refine hK _ _ _ _ _ (hK _ _ _ _ _ (?_))
  refine hK _ _ _ _ _ (hK _ _ _ _ _ ?_)
  refine hF _ _ _ _ _ _ (i_le (L := [])) ?_
  have e9 := ih (n + 1) N2 (by omega) ⟨iN_s hN.1 c1 p2, RX_hx hN.2.1 c1 s1 p2 l2, rl2⟩
  rw [← hI_ad] at e9
  exact e9
set_option maxRecDepth 10000 in
theorem lw_c25 {K : Nat → aK} {nS : Nat} (hK : ∀ n pc L S M, a_wp 60 nS (fun y as M P => aC nS 60 y as M P (fun _ _ => False)) ret k_law (fun _ _ => False) (fun _ _ => False) (K n) pc L S M → K n pc L S M)
    (hW : ∀ n pc L S M, a_wpW nS 60 K n pc L S M → K n pc L S M) (hF : ∀ n pc L L' S M, a_le L' L → K n pc L' S M → K n pc L S M) (hn3 : nS ≤ 3072) {a n : Nat} (ha : a + 6 ≤ nS) (h6 : 6 * n ≤ a) {M : aM} (hN : iN M)
    (ih : ∀ n' M', n' ≤ n + 1 → iN M' → K n' 23 [some (vR 99 0), some (vR 0 0), some (vR 36 0), some (vR 98 0), some (vI (Int32.ofNat (a + 6))), none, none, none] [] M') : K n 958 [some (vR 99 0), some (vR 0 0), some (vR 36 0), some (vR 98 0), some (vI (Int32.ofNat a)), none, none, none] [] M := by
  refine hK _ _ _ _ _ (?_)
  obtain ⟨⟨e, n0, k0, S0, hS, hh, hX⟩, hI⟩ := hN.2.2
  refine hK _ _ _ _ _ ⟨_, c_image hN.1.1 hN.2.1 hS, rfl, fun v1 N1 g1 => ?_⟩
  obtain ⟨rfl, c1, s1⟩ := g1
  refine hK _ _ _ _ _ (?_)
  refine hK _ _ _ _ _ ⟨_, e_image c1.1 (iM_c c1 hN.1.2.1), rfl, fun v2 N2 g2 => ?_⟩
  obtain ⟨rfl, p2, l2, hM2, hu2⟩ := g2
  refine hK _ _ _ _ _ (?_)
  refine hK _ _ _ _ _ (hK _ _ _ _ _ ?_)
  refine hF _ _ _ _ _ _ (i_le (L := [])) ?_
  have e9 := ih n N2 (by omega) ⟨iN_s hN.1 c1 p2, RX_image hN.2.1 hS c1 s1.1 s1.2.1 s1.2.2.1 s1.2.2.2 p2 l2 hM2 hu2, RZ_image hS hh hX c1 s1.1 s1.2.2.1 p2 hM2 hu2⟩
  rw [← hI_ad] at e9
  exact e9
set_option maxRecDepth 10000 in
theorem lw_c26 {K : Nat → aK} {nS : Nat} (hK : ∀ n pc L S M, a_wp 60 nS (fun y as M P => aC nS 60 y as M P (fun _ _ => False)) ret k_law (fun _ _ => False) (fun _ _ => False) (K n) pc L S M → K n pc L S M)
    (hW : ∀ n pc L S M, a_wpW nS 60 K n pc L S M → K n pc L S M) (hF : ∀ n pc L L' S M, a_le L' L → K n pc L' S M → K n pc L S M) (hn3 : nS ≤ 3072) {a n : Nat} (ha : a + 6 ≤ nS) (h6 : 6 * n ≤ a) {M : aM} (hN : iN M)
    (ih : ∀ n' M', n' ≤ n + 1 → iN M' → K n' 23 [some (vR 99 0), some (vR 0 0), some (vR 36 0), some (vR 98 0), some (vI (Int32.ofNat (a + 6))), none, none, none] [] M') : K n 969 [some (vR 99 0), some (vR 0 0), some (vR 36 0), some (vR 98 0), some (vI (Int32.ofNat a)), none, none, none] [] M := by
  refine hK _ _ _ _ _ (?_)
  refine hK _ _ _ _ _ ⟨_, c_back hN.1.1 hN.2.1 hN.2.2.2, rfl, fun v1 N1 g1 => ?_⟩
  obtain ⟨c1, s1⟩ := g1
  obtain ⟨x1, rfl⟩ : ∃ x, v1 = some (vI x) := by rcases s1 with h | h <;> exact ⟨_, h.2.1⟩
  refine hK _ _ _ _ _ (hK _ _ _ _ _ (?_))
  refine hK _ _ _ _ _ ⟨_, e_back c1.1 (iM_c c1 hN.1.2.1), rfl, fun v2 N2 g2 => ?_⟩
  obtain ⟨q2, p2, -, l2⟩ := g2
  obtain ⟨o2, a2, b2, r2, t2, u2⟩ := RX_back hN.2.1 c1 (cBk s1) p2 q2 l2
  subst t2
  refine hK _ _ _ _ _ (hK _ _ _ _ _ (?_))
  refine hK _ _ _ _ _ (hK _ _ _ _ _ ?_)
  refine hF _ _ _ _ _ _ (i_le (L := [])) ?_
  have e9 := ih n N2 (by omega) ⟨iN_s hN.1 c1 p2, o2, RZ_back hN.2.1 hN.2.2 c1 s1 p2 l2⟩
  rw [← hI_ad] at e9
  exact e9
set_option maxRecDepth 10000 in
theorem lw_c27 {K : Nat → aK} {nS : Nat} (hK : ∀ n pc L S M, a_wp 60 nS (fun y as M P => aC nS 60 y as M P (fun _ _ => False)) ret k_law (fun _ _ => False) (fun _ _ => False) (K n) pc L S M → K n pc L S M)
    (hW : ∀ n pc L S M, a_wpW nS 60 K n pc L S M → K n pc L S M) (hF : ∀ n pc L L' S M, a_le L' L → K n pc L' S M → K n pc L S M) (hn3 : nS ≤ 3072) {a n : Nat} (ha : a + 6 ≤ nS) (h6 : 6 * n ≤ a) {M : aM} (hN : iN M)
    (ih : ∀ n' M', n' ≤ n + 1 → iN M' → K n' 23 [some (vR 99 0), some (vR 0 0), some (vR 36 0), some (vR 98 0), some (vI (Int32.ofNat (a + 6))), none, none, none] [] M') : K n 982 [some (vR 99 0), some (vR 0 0), some (vR 36 0), some (vR 98 0), some (vI (Int32.ofNat a)), none, none, none] [] M := by
  refine hK _ _ _ _ _ (hK _ _ _ _ _ (hK _ _ _ _ _ (hK _ _ _ _ _ (hK _ _ _ _ _ (?_)))))
  refine hK _ _ _ _ _ ⟨i_sc (k := 1) ha hn3 (by decide), ?_⟩
  obtain ⟨⟨e, n0, k0, S0, hS, hh, hX⟩, hI⟩ := hN.2.2
  refine hK _ _ _ _ _ ⟨_, c_count hN.1.1 , rfl, fun v1 N1 g1 => ?_⟩
  obtain ⟨z1, c1, s1⟩ := g1
  obtain ⟨x1, rfl⟩ := i_v1 z1
  refine hK _ _ _ _ _ (hK _ _ _ _ _ (hK _ _ _ _ _ (hK _ _ _ _ _ (hK _ _ _ _ _ (hK _ _ _ _ _ (?_))))))
  refine hK _ _ _ _ _ ⟨i_sc (k := 1) ha hn3 (by decide), ?_⟩
  refine hK _ _ _ _ _ ⟨_, mx_count c1.1 (iM_c c1 hN.1.2.1) (SX_m hS c1) , rfl, fun v2 N2 g2 => ?_⟩
  obtain ⟨⟨y2, rfl, -⟩, p2, l2⟩ := g2
  refine hK _ _ _ _ _ (hK _ _ _ _ _ (?_))
  refine hK _ _ _ _ _ (hK _ _ _ _ _ ?_)
  refine hF _ _ _ _ _ _ (i_le (L := [])) ?_
  have e9 := ih n N2 (by omega) ⟨iN_s hN.1 c1 p2, RX_same hN.2.1 c1 s1 p2 l2, RZ_same hN.2.2 c1 s1 p2 l2⟩
  rw [← hI_ad] at e9
  exact e9
set_option maxRecDepth 10000 in
theorem lw_d {K : Nat → aK} {nS : Nat} (hK : ∀ n pc L S M, a_wp 60 nS (fun y as M P => aC nS 60 y as M P (fun _ _ => False)) ret k_law (fun _ _ => False) (fun _ _ => False) (K n) pc L S M → K n pc L S M)
    (hW : ∀ n pc L S M, a_wpW nS 60 K n pc L S M → K n pc L S M) (hF : ∀ n pc L L' S M, a_le L' L → K n pc L' S M → K n pc L S M) (hn3 : nS ≤ 3072) {a n : Nat} (ha : a + 6 ≤ nS) (h6 : 6 * n ≤ a) {M : aM} (hN : iN M)
    (ih : ∀ n' M', n' ≤ n + 1 → iN M' → K n' 23 [some (vR 99 0), some (vR 0 0), some (vR 36 0), some (vR 98 0), some (vI (Int32.ofNat (a + 6))), none, none, none] [] M') : K n 1007 [some (vR 99 0), some (vR 0 0), some (vR 36 0), some (vR 98 0), some (vI (Int32.ofNat a)), none, none, none] [] M := by
  refine hK _ _ _ _ _ (hK _ _ _ _ _ ?_)
  refine hF _ _ _ _ _ _ (i_le (L := [])) ?_
  have e9 := ih n M (by omega) hN
  rw [← hI_ad] at e9
  exact e9
