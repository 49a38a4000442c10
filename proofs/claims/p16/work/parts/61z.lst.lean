theorem x_20b {c : Nat} : (20 : Int32) + Int32.ofNat c = Int32.ofNat (20 + c) := hI_ad (a := 20)
theorem i_bo {c : Nat} {M : aM} (hT : z_MT (zTb, [], []) M) (h2 : c ≤ 43) (h1 : 20 ≤ c) : z_i (2147483648, 2147483655) (M.1 37 0 c) := hT (37, 18, 43, (2147483648, 2147483655)) (by decide +kernel) 0 c (by decide) (by show 18 ≤ c; omega) h2
theorem r_lstB {nS w h s : Nat} {M : aM} (hs : rS M w h s) (w3 : w ≤ 3) (h3 : h ≤ 3) (hb : 4 < w * h) : aC nS 60 242 [vR 36 0] M (fun v M' => ∀ c, c < 24 → M'.1 37 0 (20 + c) = M.1 37 0 (20 + c)) (fun _ _ => False) := by
  have m9 : w * h ≤ 3 * h := Nat.mul_le_mul_right _ w3
  refine aC_mk rfl rfl ?_
  intro K hK _
  refine hK _ _ _ _ (hK _ _ _ _ (hK _ _ _ _ (hK _ _ _ _ (hK _ _ _ _ (⟨x_vp (a := 3) rfl (by decide) (by decide), ?_⟩)))))
  rw [x_cl (j := 3) (a := 3) rfl (by decide), hs.1]
  refine hK _ _ _ _ (hK _ _ _ _ (hK _ _ _ _ (hK _ _ _ _ (⟨x_vp (a := 4) rfl (by decide) (by decide), ?_⟩))))
  rw [x_cl (j := 4) (a := 4) rfl (by decide), hs.2.1]
  refine hK _ _ _ _ (hK _ _ _ _ (?_))
  rw [x_mul (by omega) (by omega)]
  refine hK _ _ _ _ (⟨fun h9 => ?_, fun h9 => ?_⟩)
  · exact absurd (x_ge (x := 4) (y := w * h) rfl rfl (by decide) (by omega) h9) (by omega)
  · refine hK _ _ _ _ (hK _ _ _ _ (hK _ _ _ _ (hK _ _ _ _ (hK _ _ _ _ (hK _ _ _ _ (⟨fun h9 => ?_, fun h9 => ?_⟩))))))
    · exact absurd h9 (by first | (rw [x_pe]; decide) | rw [x_pe])
    · exact hK _ _ _ _ (hK _ _ _ _ (fun c hc => x_pn (fun z => absurd z.1 (by decide))))
theorem r_lstG {nS w h s f : Nat} {M : aM} (hT : z_MT (zTb, [], []) M) (hs : rS M w h s) (w3 : w ≤ 3) (h3 : h ≤ 3) (hb : w * h ≤ 4) (Hf : ∀ M1, z_MT (zTb, [], []) M1 → rS M1 w h s → aC nS 59 240 [vR 36 0] M1 (fun v M' => v = none ∧ z_M (zTb, [(45, 0, 15), (46, 0, 23), (36, 23, 23)], []) M1 [] M' ∧ M'.1 36 0 23 = Int32.ofNat f) (fun _ _ => False)) (Hl : ∀ M1, z_MT (zTb, [], []) M1 → M1.1 36 0 23 = Int32.ofNat f → aC nS 59 241 [vR 36 0, vI 0] M1 (fun v M' => (∃ x, v = some (vL x)) ∧ z_M (zTb, [(37, 18, 43)], []) M1 [] M') (fun _ _ => False)) : aC nS 60 242 [vR 36 0] M (fun v M' => ∀ c, c < 24 → M'.1 37 0 (20 + c) = M.1 37 0 (20 + c)) (fun _ _ => False) := by
  refine aC_mk rfl rfl ?_
  intro K hK _
  have l2 : ∀ (m c : Nat) (y : Int32) (l1 : Option aV) (M1 : aM), 24 - c = m → c ≤ 24 → y = Int32.ofNat c → (∀ c2, c2 < 24 → M1.1 39 0 (20 + c2) = M.1 37 0 (20 + c2)) → (∀ c2, c2 < c → M1.1 37 0 (20 + c2) = M.1 37 0 (20 + c2)) → (∃ x, l1 = some (vL x)) → K 89 [some (vR 36 0), l1, none, some (vI y)] [] M1 := by
    intro m
    induction m with
    | zero =>
      intro c y l1 M1 hm hc hy h39 h37 hx
      obtain ⟨x, rfl⟩ := hx
      subst hy
      refine hK _ _ _ _ (hK _ _ _ _ (hK _ _ _ _ (⟨fun h9 => ?_, fun h9 => ?_⟩)))
      · exact hK _ _ _ _ (hK _ _ _ _ (fun c2 hc2 => h37 c2 (by omega)))
      · exact absurd (x_nge (x := c) (y := 24) rfl rfl (by omega) (by decide) h9) (by omega)
    | succ m ih =>
      intro c y l1 M1 hm hc hy h39 h37 hx
      subst hy
      refine hK _ _ _ _ (hK _ _ _ _ (hK _ _ _ _ (⟨fun h9 => ?_, fun h9 => ?_⟩)))
      · exact absurd (x_ge (x := c) (y := 24) rfl rfl (by omega) (by decide) h9) (by omega)
      · refine hK _ _ _ _ (hK _ _ _ _ (hK _ _ _ _ (hK _ _ _ _ (hK _ _ _ _ (hK _ _ _ _ (hK _ _ _ _ (hK _ _ _ _ (hK _ _ _ _ (hK _ _ _ _ (hK _ _ _ _ (⟨x_vp (a := 20 + c) x_20b (by omega) (by decide), ?_⟩)))))))))))
        rw [x_cl (x_20b (c := c)) (by omega), h39 c (by omega)]
        refine hK _ _ _ _ (⟨x_vp (a := 20 + c) x_20b (by omega) (by decide), ?_⟩)
        rw [x_cl (x_20b (c := c)) (by omega)]
        refine hK _ _ _ _ (hK _ _ _ _ (?_))
        refine ih (c + 1) _ _ _ (by omega) (by omega) hI_s (fun c2 hc2 => (x_pn (fun z => absurd z.1 (by decide))).trans (h39 c2 hc2)) (fun c2 hc2 => ?_) hx
        by_cases he : c2 = c
        · rw [he]
          exact x_pe
        · exact (x_pn (fun z => he (by have := z.2.2; omega))).trans (h37 c2 (by omega))
  have l1 : ∀ (m c : Nat) (y : Int32) (M1 : aM), 24 - c = m → c ≤ 24 → y = Int32.ofNat c → z_M (zTb, [(36, 0, 0), (37, 18, 43), (39, 20, 43), (45, 0, 15), (46, 0, 23), (36, 23, 23)], []) M [] M1 → M1.1 36 0 23 = Int32.ofNat f → (∀ c2, c2 < c → M1.1 39 0 (20 + c2) = M.1 37 0 (20 + c2)) → (∀ c2, c ≤ c2 → c2 < 24 → M1.1 37 0 (20 + c2) = M.1 37 0 (20 + c2)) → K 41 [some (vR 36 0), some (vI y), none, none] [] M1 := by
    intro m
    induction m with
    | zero =>
      intro c y M1 hm hc hy hM hf h39 h37
      subst hy
      refine hK _ _ _ _ (hK _ _ _ _ (hK _ _ _ _ (⟨fun h9 => ?_, fun h9 => ?_⟩)))
      · refine hK _ _ _ _ (hK _ _ _ _ (hK _ _ _ _ (⟨_, Hl _ hM.1 hf, rfl, fun v83 M83 g83 => ?_⟩)))
        obtain ⟨⟨x, rfl⟩, gM⟩ := g83
        refine hK _ _ _ _ (hK _ _ _ _ (hK _ _ _ _ (?_)))
        exact l2 _ 0 _ _ _ rfl (Nat.zero_le _) rfl (fun c2 hc2 => (gM.2.1 39 0 (20 + c2) rfl).1.trans (h39 c2 (by omega))) (fun c2 hc2 => absurd hc2 (Nat.not_lt_zero _)) ⟨x, rfl⟩
      · exact absurd (x_nge (x := c) (y := 24) rfl rfl (by omega) (by decide) h9) (by omega)
    | succ m ih =>
      intro c y M1 hm hc hy hM hf h39 h37
      subst hy
      refine hK _ _ _ _ (hK _ _ _ _ (hK _ _ _ _ (⟨fun h9 => ?_, fun h9 => ?_⟩)))
      · exact absurd (x_ge (x := c) (y := 24) rfl rfl (by omega) (by decide) h9) (by omega)
      · refine hK _ _ _ _ (hK _ _ _ _ (hK _ _ _ _ (hK _ _ _ _ (hK _ _ _ _ (hK _ _ _ _ (hK _ _ _ _ (hK _ _ _ _ (hK _ _ _ _ (hK _ _ _ _ (hK _ _ _ _ (⟨x_vp (a := 20 + c) x_20b (by omega) (by decide), ?_⟩)))))))))))
        rw [x_cl (x_20b (c := c)) (by omega)]
        refine hK _ _ _ _ (⟨x_vp (a := 20 + c) x_20b (by omega) (by decide), ?_⟩)
        rw [x_cl (x_20b (c := c)) (by omega), h37 c (Nat.le_refl c) (by omega)]
        have q1 := z_M_pI (v := (2147483648, 2147483655)) (a := 20) (b := 43) (j := 20 + c) (x := M.1 37 0 (20 + c)) hM (k := 39) (i := 0) (by decide) (by omega) (by omega) (i_bo hT (by omega) (by omega))
        have hM1 : z_M (zTb, [(36, 0, 0), (37, 18, 43), (39, 20, 43), (45, 0, 15), (46, 0, 23), (36, 23, 23)], []) M [] (a_pI M1 39 0 (20 + c) (M.1 37 0 (20 + c))) := ⟨q1.1, q1.2.1, h_MG0⟩
        refine hK _ _ _ _ (hK _ _ _ _ (hK _ _ _ _ (hK _ _ _ _ (hK _ _ _ _ (hK _ _ _ _ (hK _ _ _ _ (⟨x_vp (a := 20 + c) x_20b (by omega) (by decide), ?_⟩)))))))
        rw [x_cl (x_20b (c := c)) (by omega)]
        have q2 := z_M_pI (v := (2147483648, 2147483655)) (a := 20) (b := 43) (j := 20 + c) (x := 0) hM1 (k := 37) (i := 0) (by decide) (by omega) (by omega) ⟨by rw [z_b0]; decide, by rw [z_b0]; decide⟩
        have hM2 : z_M (zTb, [(36, 0, 0), (37, 18, 43), (39, 20, 43), (45, 0, 15), (46, 0, 23), (36, 23, 23)], []) M [] (a_pI (a_pI M1 39 0 (20 + c) (M.1 37 0 (20 + c))) 37 0 (20 + c) 0) := ⟨q2.1, q2.2.1, h_MG0⟩
        refine hK _ _ _ _ (hK _ _ _ _ (?_))
        refine ih (c + 1) _ _ (by omega) (by omega) hI_s hM2 ((x_pn (fun z => absurd z.1 (by decide))).trans ((x_pn (fun z => absurd z.1 (by decide))).trans hf)) (fun c2 hc2 => (x_pn (fun z => absurd z.1 (by decide))).trans ?_) (fun c2 hc2 hc3 => (x_pn (fun z => by have := z.2.2; omega)).trans ((x_pn (fun z => absurd z.1 (by decide))).trans (h37 c2 (by omega) hc3)))
        by_cases he : c2 = c
        · rw [he]
          exact x_pe
        · exact (x_pn (fun z => he (by have := z.2.2; omega))).trans (h39 c2 (by omega))
  have m9 : w * h ≤ 3 * h := Nat.mul_le_mul_right _ w3
  have thr : z_M (zTb, [(36, 0, 0)], []) M [] (a_pI M 36 0 0 0) := h_Mp (v := (0, 4294967295)) (h_M0 hT) (by decide) (z_i_top _)
  refine hK _ _ _ _ (hK _ _ _ _ (hK _ _ _ _ (hK _ _ _ _ (hK _ _ _ _ (⟨x_vp (a := 3) rfl (by decide) (by decide), ?_⟩)))))
  rw [x_cl (j := 3) (a := 3) rfl (by decide), hs.1]
  refine hK _ _ _ _ (hK _ _ _ _ (hK _ _ _ _ (hK _ _ _ _ (⟨x_vp (a := 4) rfl (by decide) (by decide), ?_⟩))))
  rw [x_cl (j := 4) (a := 4) rfl (by decide), hs.2.1]
  refine hK _ _ _ _ (hK _ _ _ _ (?_))
  rw [x_mul (by omega) (by omega)]
  refine hK _ _ _ _ (⟨fun h9 => ?_, fun h9 => ?_⟩)
  · refine hK _ _ _ _ (hK _ _ _ _ (hK _ _ _ _ (hK _ _ _ _ (hK _ _ _ _ (⟨fun h9 => ?_, fun h9 => ?_⟩)))))
    · refine hK _ _ _ _ (hK _ _ _ _ (⟨_, Hf _ thr.1 ⟨(x_pn (fun z => absurd z.1 (by decide))).trans hs.1, (x_pn (fun z => absurd z.1 (by decide))).trans hs.2.1, (x_pn (fun z => absurd z.1 (by decide))).trans hs.2.2⟩, rfl, fun v36 M36 g36 => ?_⟩))
      obtain ⟨rfl, gM, gf⟩ := g36
      refine hK _ _ _ _ (hK _ _ _ _ (?_))
      exact l1 _ 0 _ _ rfl (Nat.zero_le _) rfl (h_Mt (h_Mt (h_M0 hT) thr (by decide)) gM (by decide)) gf (fun c2 hc2 => absurd hc2 (Nat.not_lt_zero _)) (fun c2 _ _ => (gM.2.1 37 0 (20 + c2) rfl).1.trans (x_pn (fun z => absurd z.1 (by decide))))
    · exact absurd (by first | (rw [x_pe]; decide) | rw [x_pe]) h9
  · exact absurd (x_nge (x := 4) (y := w * h) rfl rfl (by decide) (by omega) h9) (by omega)
theorem r_listedL {nS : Nat} {M : aM} (hT : z_MT (zTb, [], []) M) : aC nS 60 242 [vR 36 0] M (fun v M' => ∀ c, c < 24 → M'.1 37 0 (20 + c) = M.1 37 0 (20 + c)) (fun _ _ => False) := by
  obtain ⟨w, h, s, hs, w1, w3, h1, h3, s2⟩ := rS_of hT
  rcases (show w = 1 ∨ w = 2 ∨ w = 3 by omega) with rfl | rfl | rfl <;> rcases (show h = 1 ∨ h = 2 ∨ h = 3 by omega) with rfl | rfl | rfl <;> rcases (show s = 0 ∨ s = 1 ∨ s = 2 by omega) with rfl | rfl | rfl
  · refine r_lstG (f := 1) hT hs (by decide) (by decide) (by decide) (fun M1 h9 q => aC_post (h_one hct_frees_1_1_0 rfl (show (4 : Nat) ≤ 59 by decide) (h_R trivial) h9 (h_G1 (k := 37) (j := 3) (by decide) (by decide) rfl q.1 (h_G1 (k := 37) (j := 4) (by decide) (by decide) rfl q.2.1 (h_G1 (k := 37) (j := 5) (by decide) (by decide) rfl q.2.2 h_MG0)))) (fun v M' z => ⟨h_ovN z.1, h_Md z.2, h_celN (D := 1) z.2 (by decide) (by decide) rfl (by decide +kernel)⟩) (fun _ _ z => z)) (fun M1 h9 q => aC_post (h_one hct_lists_1_0 rfl (show (8 : Nat) ≤ 59 by decide) (h_R (h_Iv ⟨by decide, by decide⟩ trivial)) h9 (h_G1 (k := 36) (j := 23) (by decide) (by decide) rfl q h_MG0)) (fun v M' z => ⟨h_ovJ z.1, h_Md z.2⟩) (fun _ _ z => z))
  · refine r_lstG (f := 2) hT hs (by decide) (by decide) (by decide) (fun M1 h9 q => aC_post (h_one hct_frees_1_1_1 rfl (show (4 : Nat) ≤ 59 by decide) (h_R trivial) h9 (h_G1 (k := 37) (j := 3) (by decide) (by decide) rfl q.1 (h_G1 (k := 37) (j := 4) (by decide) (by decide) rfl q.2.1 (h_G1 (k := 37) (j := 5) (by decide) (by decide) rfl q.2.2 h_MG0)))) (fun v M' z => ⟨h_ovN z.1, h_Md z.2, h_celN (D := 2) z.2 (by decide) (by decide) rfl (by decide +kernel)⟩) (fun _ _ z => z)) (fun M1 h9 q => aC_post (h_one hct_lists_2_0 rfl (show (9 : Nat) ≤ 59 by decide) (h_R (h_Iv ⟨by decide, by decide⟩ trivial)) h9 (h_G1 (k := 36) (j := 23) (by decide) (by decide) rfl q h_MG0)) (fun v M' z => ⟨h_ovJ z.1, h_Md z.2⟩) (fun _ _ z => z))
  · refine r_lstG (f := 2) hT hs (by decide) (by decide) (by decide) (fun M1 h9 q => aC_post (h_one hct_frees_1_1_2 rfl (show (4 : Nat) ≤ 59 by decide) (h_R trivial) h9 (h_G1 (k := 37) (j := 3) (by decide) (by decide) rfl q.1 (h_G1 (k := 37) (j := 4) (by decide) (by decide) rfl q.2.1 (h_G1 (k := 37) (j := 5) (by decide) (by decide) rfl q.2.2 h_MG0)))) (fun v M' z => ⟨h_ovN z.1, h_Md z.2, h_celN (D := 2) z.2 (by decide) (by decide) rfl (by decide +kernel)⟩) (fun _ _ z => z)) (fun M1 h9 q => aC_post (h_one hct_lists_2_0 rfl (show (9 : Nat) ≤ 59 by decide) (h_R (h_Iv ⟨by decide, by decide⟩ trivial)) h9 (h_G1 (k := 36) (j := 23) (by decide) (by decide) rfl q h_MG0)) (fun v M' z => ⟨h_ovJ z.1, h_Md z.2⟩) (fun _ _ z => z))
  · refine r_lstG (f := 2) hT hs (by decide) (by decide) (by decide) (fun M1 h9 q => aC_post (h_one hct_frees_1_2_0 rfl (show (4 : Nat) ≤ 59 by decide) (h_R trivial) h9 (h_G1 (k := 37) (j := 3) (by decide) (by decide) rfl q.1 (h_G1 (k := 37) (j := 4) (by decide) (by decide) rfl q.2.1 (h_G1 (k := 37) (j := 5) (by decide) (by decide) rfl q.2.2 h_MG0)))) (fun v M' z => ⟨h_ovN z.1, h_Md z.2, h_celN (D := 2) z.2 (by decide) (by decide) rfl (by decide +kernel)⟩) (fun _ _ z => z)) (fun M1 h9 q => aC_post (h_one hct_lists_2_0 rfl (show (9 : Nat) ≤ 59 by decide) (h_R (h_Iv ⟨by decide, by decide⟩ trivial)) h9 (h_G1 (k := 36) (j := 23) (by decide) (by decide) rfl q h_MG0)) (fun v M' z => ⟨h_ovJ z.1, h_Md z.2⟩) (fun _ _ z => z))
  · refine r_lstG (f := 3) hT hs (by decide) (by decide) (by decide) (fun M1 h9 q => aC_post (h_one hct_frees_1_2_1 rfl (show (4 : Nat) ≤ 59 by decide) (h_R trivial) h9 (h_G1 (k := 37) (j := 3) (by decide) (by decide) rfl q.1 (h_G1 (k := 37) (j := 4) (by decide) (by decide) rfl q.2.1 (h_G1 (k := 37) (j := 5) (by decide) (by decide) rfl q.2.2 h_MG0)))) (fun v M' z => ⟨h_ovN z.1, h_Md z.2, h_celN (D := 3) z.2 (by decide) (by decide) rfl (by decide +kernel)⟩) (fun _ _ z => z)) (fun M1 h9 q => aC_post (h_one hct_lists_3_0 rfl (show (10 : Nat) ≤ 59 by decide) (h_R (h_Iv ⟨by decide, by decide⟩ trivial)) h9 (h_G1 (k := 36) (j := 23) (by decide) (by decide) rfl q h_MG0)) (fun v M' z => ⟨h_ovJ z.1, h_Md z.2⟩) (fun _ _ z => z))
  · refine r_lstG (f := 3) hT hs (by decide) (by decide) (by decide) (fun M1 h9 q => aC_post (h_one hct_frees_1_2_2 rfl (show (4 : Nat) ≤ 59 by decide) (h_R trivial) h9 (h_G1 (k := 37) (j := 3) (by decide) (by decide) rfl q.1 (h_G1 (k := 37) (j := 4) (by decide) (by decide) rfl q.2.1 (h_G1 (k := 37) (j := 5) (by decide) (by decide) rfl q.2.2 h_MG0)))) (fun v M' z => ⟨h_ovN z.1, h_Md z.2, h_celN (D := 3) z.2 (by decide) (by decide) rfl (by decide +kernel)⟩) (fun _ _ z => z)) (fun M1 h9 q => aC_post (h_one hct_lists_3_0 rfl (show (10 : Nat) ≤ 59 by decide) (h_R (h_Iv ⟨by decide, by decide⟩ trivial)) h9 (h_G1 (k := 36) (j := 23) (by decide) (by decide) rfl q h_MG0)) (fun v M' z => ⟨h_ovJ z.1, h_Md z.2⟩) (fun _ _ z => z))
  · refine r_lstG (f := 3) hT hs (by decide) (by decide) (by decide) (fun M1 h9 q => aC_post (h_one hct_frees_1_3_0 rfl (show (4 : Nat) ≤ 59 by decide) (h_R trivial) h9 (h_G1 (k := 37) (j := 3) (by decide) (by decide) rfl q.1 (h_G1 (k := 37) (j := 4) (by decide) (by decide) rfl q.2.1 (h_G1 (k := 37) (j := 5) (by decide) (by decide) rfl q.2.2 h_MG0)))) (fun v M' z => ⟨h_ovN z.1, h_Md z.2, h_celN (D := 3) z.2 (by decide) (by decide) rfl (by decide +kernel)⟩) (fun _ _ z => z)) (fun M1 h9 q => aC_post (h_one hct_lists_3_0 rfl (show (10 : Nat) ≤ 59 by decide) (h_R (h_Iv ⟨by decide, by decide⟩ trivial)) h9 (h_G1 (k := 36) (j := 23) (by decide) (by decide) rfl q h_MG0)) (fun v M' z => ⟨h_ovJ z.1, h_Md z.2⟩) (fun _ _ z => z))
  · refine r_lstG (f := 4) hT hs (by decide) (by decide) (by decide) (fun M1 h9 q => aC_post (h_one hct_frees_1_3_1 rfl (show (4 : Nat) ≤ 59 by decide) (h_R trivial) h9 (h_G1 (k := 37) (j := 3) (by decide) (by decide) rfl q.1 (h_G1 (k := 37) (j := 4) (by decide) (by decide) rfl q.2.1 (h_G1 (k := 37) (j := 5) (by decide) (by decide) rfl q.2.2 h_MG0)))) (fun v M' z => ⟨h_ovN z.1, h_Md z.2, h_celN (D := 4) z.2 (by decide) (by decide) rfl (by decide +kernel)⟩) (fun _ _ z => z)) (fun M1 h9 q => aC_post (h_one hct_lists_4_0 rfl (show (11 : Nat) ≤ 59 by decide) (h_R (h_Iv ⟨by decide, by decide⟩ trivial)) h9 (h_G1 (k := 36) (j := 23) (by decide) (by decide) rfl q h_MG0)) (fun v M' z => ⟨h_ovJ z.1, h_Md z.2⟩) (fun _ _ z => z))
  · refine r_lstG (f := 4) hT hs (by decide) (by decide) (by decide) (fun M1 h9 q => aC_post (h_one hct_frees_1_3_2 rfl (show (4 : Nat) ≤ 59 by decide) (h_R trivial) h9 (h_G1 (k := 37) (j := 3) (by decide) (by decide) rfl q.1 (h_G1 (k := 37) (j := 4) (by decide) (by decide) rfl q.2.1 (h_G1 (k := 37) (j := 5) (by decide) (by decide) rfl q.2.2 h_MG0)))) (fun v M' z => ⟨h_ovN z.1, h_Md z.2, h_celN (D := 4) z.2 (by decide) (by decide) rfl (by decide +kernel)⟩) (fun _ _ z => z)) (fun M1 h9 q => aC_post (h_one hct_lists_4_0 rfl (show (11 : Nat) ≤ 59 by decide) (h_R (h_Iv ⟨by decide, by decide⟩ trivial)) h9 (h_G1 (k := 36) (j := 23) (by decide) (by decide) rfl q h_MG0)) (fun v M' z => ⟨h_ovJ z.1, h_Md z.2⟩) (fun _ _ z => z))
  · refine r_lstG (f := 2) hT hs (by decide) (by decide) (by decide) (fun M1 h9 q => aC_post (h_one hct_frees_2_1_0 rfl (show (4 : Nat) ≤ 59 by decide) (h_R trivial) h9 (h_G1 (k := 37) (j := 3) (by decide) (by decide) rfl q.1 (h_G1 (k := 37) (j := 4) (by decide) (by decide) rfl q.2.1 (h_G1 (k := 37) (j := 5) (by decide) (by decide) rfl q.2.2 h_MG0)))) (fun v M' z => ⟨h_ovN z.1, h_Md z.2, h_celN (D := 2) z.2 (by decide) (by decide) rfl (by decide +kernel)⟩) (fun _ _ z => z)) (fun M1 h9 q => aC_post (h_one hct_lists_2_0 rfl (show (9 : Nat) ≤ 59 by decide) (h_R (h_Iv ⟨by decide, by decide⟩ trivial)) h9 (h_G1 (k := 36) (j := 23) (by decide) (by decide) rfl q h_MG0)) (fun v M' z => ⟨h_ovJ z.1, h_Md z.2⟩) (fun _ _ z => z))
  · refine r_lstG (f := 3) hT hs (by decide) (by decide) (by decide) (fun M1 h9 q => aC_post (h_one hct_frees_2_1_1 rfl (show (4 : Nat) ≤ 59 by decide) (h_R trivial) h9 (h_G1 (k := 37) (j := 3) (by decide) (by decide) rfl q.1 (h_G1 (k := 37) (j := 4) (by decide) (by decide) rfl q.2.1 (h_G1 (k := 37) (j := 5) (by decide) (by decide) rfl q.2.2 h_MG0)))) (fun v M' z => ⟨h_ovN z.1, h_Md z.2, h_celN (D := 3) z.2 (by decide) (by decide) rfl (by decide +kernel)⟩) (fun _ _ z => z)) (fun M1 h9 q => aC_post (h_one hct_lists_3_0 rfl (show (10 : Nat) ≤ 59 by decide) (h_R (h_Iv ⟨by decide, by decide⟩ trivial)) h9 (h_G1 (k := 36) (j := 23) (by decide) (by decide) rfl q h_MG0)) (fun v M' z => ⟨h_ovJ z.1, h_Md z.2⟩) (fun _ _ z => z))
  · refine r_lstG (f := 3) hT hs (by decide) (by decide) (by decide) (fun M1 h9 q => aC_post (h_one hct_frees_2_1_2 rfl (show (4 : Nat) ≤ 59 by decide) (h_R trivial) h9 (h_G1 (k := 37) (j := 3) (by decide) (by decide) rfl q.1 (h_G1 (k := 37) (j := 4) (by decide) (by decide) rfl q.2.1 (h_G1 (k := 37) (j := 5) (by decide) (by decide) rfl q.2.2 h_MG0)))) (fun v M' z => ⟨h_ovN z.1, h_Md z.2, h_celN (D := 3) z.2 (by decide) (by decide) rfl (by decide +kernel)⟩) (fun _ _ z => z)) (fun M1 h9 q => aC_post (h_one hct_lists_3_0 rfl (show (10 : Nat) ≤ 59 by decide) (h_R (h_Iv ⟨by decide, by decide⟩ trivial)) h9 (h_G1 (k := 36) (j := 23) (by decide) (by decide) rfl q h_MG0)) (fun v M' z => ⟨h_ovJ z.1, h_Md z.2⟩) (fun _ _ z => z))
  · refine r_lstG (f := 4) hT hs (by decide) (by decide) (by decide) (fun M1 h9 q => aC_post (h_one hct_frees_2_2_0 rfl (show (4 : Nat) ≤ 59 by decide) (h_R trivial) h9 (h_G1 (k := 37) (j := 3) (by decide) (by decide) rfl q.1 (h_G1 (k := 37) (j := 4) (by decide) (by decide) rfl q.2.1 (h_G1 (k := 37) (j := 5) (by decide) (by decide) rfl q.2.2 h_MG0)))) (fun v M' z => ⟨h_ovN z.1, h_Md z.2, h_celN (D := 4) z.2 (by decide) (by decide) rfl (by decide +kernel)⟩) (fun _ _ z => z)) (fun M1 h9 q => aC_post (h_one hct_lists_4_0 rfl (show (11 : Nat) ≤ 59 by decide) (h_R (h_Iv ⟨by decide, by decide⟩ trivial)) h9 (h_G1 (k := 36) (j := 23) (by decide) (by decide) rfl q h_MG0)) (fun v M' z => ⟨h_ovJ z.1, h_Md z.2⟩) (fun _ _ z => z))
  · refine r_lstG (f := 5) hT hs (by decide) (by decide) (by decide) (fun M1 h9 q => aC_post (h_one hct_frees_2_2_1 rfl (show (4 : Nat) ≤ 59 by decide) (h_R trivial) h9 (h_G1 (k := 37) (j := 3) (by decide) (by decide) rfl q.1 (h_G1 (k := 37) (j := 4) (by decide) (by decide) rfl q.2.1 (h_G1 (k := 37) (j := 5) (by decide) (by decide) rfl q.2.2 h_MG0)))) (fun v M' z => ⟨h_ovN z.1, h_Md z.2, h_celN (D := 5) z.2 (by decide) (by decide) rfl (by decide +kernel)⟩) (fun _ _ z => z)) (fun M1 h9 q => aC_post (h_one hct_lists_5_0 rfl (show (12 : Nat) ≤ 59 by decide) (h_R (h_Iv ⟨by decide, by decide⟩ trivial)) h9 (h_G1 (k := 36) (j := 23) (by decide) (by decide) rfl q h_MG0)) (fun v M' z => ⟨h_ovJ z.1, h_Md z.2⟩) (fun _ _ z => z))
  · refine r_lstG (f := 5) hT hs (by decide) (by decide) (by decide) (fun M1 h9 q => aC_post (h_one hct_frees_2_2_2 rfl (show (4 : Nat) ≤ 59 by decide) (h_R trivial) h9 (h_G1 (k := 37) (j := 3) (by decide) (by decide) rfl q.1 (h_G1 (k := 37) (j := 4) (by decide) (by decide) rfl q.2.1 (h_G1 (k := 37) (j := 5) (by decide) (by decide) rfl q.2.2 h_MG0)))) (fun v M' z => ⟨h_ovN z.1, h_Md z.2, h_celN (D := 5) z.2 (by decide) (by decide) rfl (by decide +kernel)⟩) (fun _ _ z => z)) (fun M1 h9 q => aC_post (h_one hct_lists_5_0 rfl (show (12 : Nat) ≤ 59 by decide) (h_R (h_Iv ⟨by decide, by decide⟩ trivial)) h9 (h_G1 (k := 36) (j := 23) (by decide) (by decide) rfl q h_MG0)) (fun v M' z => ⟨h_ovJ z.1, h_Md z.2⟩) (fun _ _ z => z))
  · exact r_lstB hs (by decide) (by decide) (by decide)
  · exact r_lstB hs (by decide) (by decide) (by decide)
  · exact r_lstB hs (by decide) (by decide) (by decide)
  · refine r_lstG (f := 3) hT hs (by decide) (by decide) (by decide) (fun M1 h9 q => aC_post (h_one hct_frees_3_1_0 rfl (show (4 : Nat) ≤ 59 by decide) (h_R trivial) h9 (h_G1 (k := 37) (j := 3) (by decide) (by decide) rfl q.1 (h_G1 (k := 37) (j := 4) (by decide) (by decide) rfl q.2.1 (h_G1 (k := 37) (j := 5) (by decide) (by decide) rfl q.2.2 h_MG0)))) (fun v M' z => ⟨h_ovN z.1, h_Md z.2, h_celN (D := 3) z.2 (by decide) (by decide) rfl (by decide +kernel)⟩) (fun _ _ z => z)) (fun M1 h9 q => aC_post (h_one hct_lists_3_0 rfl (show (10 : Nat) ≤ 59 by decide) (h_R (h_Iv ⟨by decide, by decide⟩ trivial)) h9 (h_G1 (k := 36) (j := 23) (by decide) (by decide) rfl q h_MG0)) (fun v M' z => ⟨h_ovJ z.1, h_Md z.2⟩) (fun _ _ z => z))
  · refine r_lstG (f := 4) hT hs (by decide) (by decide) (by decide) (fun M1 h9 q => aC_post (h_one hct_frees_3_1_1 rfl (show (4 : Nat) ≤ 59 by decide) (h_R trivial) h9 (h_G1 (k := 37) (j := 3) (by decide) (by decide) rfl q.1 (h_G1 (k := 37) (j := 4) (by decide) (by decide) rfl q.2.1 (h_G1 (k := 37) (j := 5) (by decide) (by decide) rfl q.2.2 h_MG0)))) (fun v M' z => ⟨h_ovN z.1, h_Md z.2, h_celN (D := 4) z.2 (by decide) (by decide) rfl (by decide +kernel)⟩) (fun _ _ z => z)) (fun M1 h9 q => aC_post (h_one hct_lists_4_0 rfl (show (11 : Nat) ≤ 59 by decide) (h_R (h_Iv ⟨by decide, by decide⟩ trivial)) h9 (h_G1 (k := 36) (j := 23) (by decide) (by decide) rfl q h_MG0)) (fun v M' z => ⟨h_ovJ z.1, h_Md z.2⟩) (fun _ _ z => z))
  · refine r_lstG (f := 4) hT hs (by decide) (by decide) (by decide) (fun M1 h9 q => aC_post (h_one hct_frees_3_1_2 rfl (show (4 : Nat) ≤ 59 by decide) (h_R trivial) h9 (h_G1 (k := 37) (j := 3) (by decide) (by decide) rfl q.1 (h_G1 (k := 37) (j := 4) (by decide) (by decide) rfl q.2.1 (h_G1 (k := 37) (j := 5) (by decide) (by decide) rfl q.2.2 h_MG0)))) (fun v M' z => ⟨h_ovN z.1, h_Md z.2, h_celN (D := 4) z.2 (by decide) (by decide) rfl (by decide +kernel)⟩) (fun _ _ z => z)) (fun M1 h9 q => aC_post (h_one hct_lists_4_0 rfl (show (11 : Nat) ≤ 59 by decide) (h_R (h_Iv ⟨by decide, by decide⟩ trivial)) h9 (h_G1 (k := 36) (j := 23) (by decide) (by decide) rfl q h_MG0)) (fun v M' z => ⟨h_ovJ z.1, h_Md z.2⟩) (fun _ _ z => z))
  · exact r_lstB hs (by decide) (by decide) (by decide)
  · exact r_lstB hs (by decide) (by decide) (by decide)
  · exact r_lstB hs (by decide) (by decide) (by decide)
  · exact r_lstB hs (by decide) (by decide) (by decide)
  · exact r_lstB hs (by decide) (by decide) (by decide)
  · exact r_lstB hs (by decide) (by decide) (by decide)
