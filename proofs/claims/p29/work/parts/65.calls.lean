theorem aCW_post {nS d w : Nat} {as : List aV} {M : aM} {post post' : Option aV → aM → Prop} (h : aCW nS d w as M post) (hp : ∀ v M, post v M → post' v M) : aCW nS d w as M post' := by
  unfold aCW at h ⊢
  cases hm : a_wt[w]? with
  | none => rw [hm] at h; exact False.elim h
  | some mm =>
    obtain ⟨nm, b, nL, hh, na, ps, cd⟩ := mm
    rw [hm] at h
    exact ⟨h.1, fun K1 K2 h1 h2 h3 => h.2 K1 K2 (fun pc L S M z => h1 pc L S M (a_wp_post hp (fun _ _ z => z) z)) (fun pc L S M z => h2 pc L S M (a_wp_post hp (fun _ _ z => z) z)) h3⟩
theorem w_use {c : zCt} (hc : z_wtH zTb 60 c) {g : zG} (h1 : c.2.2.1 = []) (h3 : c.2.2.2.2.1 = [.inl (some (.inl (2147483648, 2147483651)), g)]) {nS : Nat} {as : List aV} {M : aM} (hS : z_S c.2.1 as) (hT : z_MT (zTb, [], []) M) : aCW nS 60 c.1 as M (fun v M' => (∃ x, v = some (vI x)) ∧ z_M (zTb, c.2.2.2.1, []) M g M') := by
  refine aCW_post (hc nS as M hS hT (by rw [h1]; exact h_MG0)) (fun v M' hv => ?_)
  rw [h3] at hv
  obtain ⟨v', g', h4, h5, h6⟩ := hv
  have h4 := List.mem_singleton.mp h4
  cases h4
  obtain ⟨x, hx, -⟩ := h_ovI h5
  exact ⟨⟨x, hx⟩, h6⟩
theorem w_useX {c : zCt} (hc : z_wtH zTb 60 c) {g : zG} (h1 : c.2.2.1 = []) (h3 : c.2.2.2.2.1 = [.inl (some (.inl (2147483648, 2147483651)), g)]) (hs : cS1 c.2.2.2.1 = true) {nS : Nat} {as : List aV} {M : aM} (hS : z_S c.2.1 as) (hT : z_MT (zTb, [], []) M) : aCW nS 60 c.1 as M (fun v M' => (∃ x, v = some (vI x)) ∧ z_M (zTb, c.2.2.2.1, []) M g M' ∧ cSm M M') := aCW_post (w_use hc h1 h3 hS hT) (fun v M' z => ⟨z.1, z.2, cSm_ok hs z.2.2.1⟩)
def cw_by : zCt := (1, [.inr (.inr (0, 0)), .inl (0, 4294967295), .inl (0, 4294967295), .inr (.inr (98, 0))], [], [(98, 0, 0)], [.inl (some (.inl (2147483648, 2147483651)), [])], 60)
theorem hcw_by : z_wtH zTb 60 cw_by := z_wt_ok [] [ct_X10_by_0] 60 (List.forall_mem_cons.mpr ⟨hct_X10_by_0, fun _ h => absurd h List.not_mem_nil⟩) (by decide +kernel)
theorem w_by {nS : Nat} {M : aM} {a1 : Int32} {a2 : Int32} (hT : z_MT (zTb, [], []) M)  : aCW nS 60 1 [vR 0 0, vI a1, vI a2, vR 98 0] M (fun v M' => (∃ x, v = some (vI x)) ∧ cPost (z_b (M.1 1 0 1)) M M' ∧ cSm M M') := aCW_post (w_useX hcw_by rfl rfl rfl (h_R (h_I (h_I (h_R trivial)))) hT) (fun v M' z => ⟨z.1, cPost_same z.2.1 rfl, z.2.2⟩)
def cw_turn : zCt := (2, [.inr (.inr (0, 0)), .inl (0, 4294967295), .inl (0, 4294967295), .inr (.inr (98, 0))], [], [(98, 0, 0)], [.inl (some (.inl (2147483648, 2147483651)), [])], 60)
theorem hcw_turn : z_wtH zTb 60 cw_turn := z_wt_ok [] [ct_X10_turn_0] 60 (List.forall_mem_cons.mpr ⟨hct_X10_turn_0, fun _ h => absurd h List.not_mem_nil⟩) (by decide +kernel)
theorem w_turn {nS : Nat} {M : aM} {a1 : Int32} {a2 : Int32} (hT : z_MT (zTb, [], []) M)  : aCW nS 60 2 [vR 0 0, vI a1, vI a2, vR 98 0] M (fun v M' => (∃ x, v = some (vI x)) ∧ cPost (z_b (M.1 1 0 1)) M M' ∧ cSm M M') := aCW_post (w_useX hcw_turn rfl rfl rfl (h_R (h_I (h_I (h_R trivial)))) hT) (fun v M' z => ⟨z.1, cPost_same z.2.1 rfl, z.2.2⟩)
def cw_line : zCt := (3, [.inr (.inr (0, 0)), .inl (0, 4294967295), .inl (0, 4294967295), .inl (2147483648, 2147483649), .inr (.inr (98, 0))], [], [(98, 0, 0)], [.inl (some (.inl (2147483648, 2147483651)), [])], 60)
theorem hcw_line : z_wtH zTb 60 cw_line := z_wt_ok [] [ct_X10_line_0] 60 (List.forall_mem_cons.mpr ⟨hct_X10_line_0, fun _ h => absurd h List.not_mem_nil⟩) (by decide +kernel)
theorem w_line {nS : Nat} {M : aM} {a1 : Int32} {a2 : Int32} {a3 : Int32} (hT : z_MT (zTb, [], []) M) (b3 : a3 = 0 ∨ a3 = 1) : aCW nS 60 3 [vR 0 0, vI a1, vI a2, vI a3, vR 98 0] M (fun v M' => (∃ x, v = some (vI x)) ∧ cPost (z_b (M.1 1 0 1)) M M' ∧ cSm M M') := aCW_post (w_useX hcw_line rfl rfl rfl (h_R (h_I (h_I (h_Iv (h_bo b3) (h_R trivial))))) hT) (fun v M' z => ⟨z.1, cPost_same z.2.1 rfl, z.2.2⟩)
def cw_round : zCt := (5, [.inr (.inr (0, 0)), .inl (0, 4294967295), .inl (0, 4294967295), .inr (.inr (98, 0))], [], [(98, 0, 0)], [.inl (some (.inl (2147483648, 2147483651)), [])], 60)
theorem hcw_round : z_wtH zTb 60 cw_round := z_wt_ok [] [ct_X10_round_0] 60 (List.forall_mem_cons.mpr ⟨hct_X10_round_0, fun _ h => absurd h List.not_mem_nil⟩) (by decide +kernel)
theorem w_round {nS : Nat} {M : aM} {a1 : Int32} {a2 : Int32} (hT : z_MT (zTb, [], []) M)  : aCW nS 60 5 [vR 0 0, vI a1, vI a2, vR 98 0] M (fun v M' => (∃ x, v = some (vI x)) ∧ cPost (z_b (M.1 1 0 1)) M M' ∧ cSm M M') := aCW_post (w_useX hcw_round rfl rfl rfl (h_R (h_I (h_I (h_R trivial)))) hT) (fun v M' z => ⟨z.1, cPost_same z.2.1 rfl, z.2.2⟩)
def cw_walk : zCt := (7, [.inr (.inr (0, 0)), .inl (0, 4294967295), .inr (.inr (98, 0))], [], [(1, 1, 1), (3, 1, 5), (17, 2, 6), (18, 0, 15), (19, 0, 15), (98, 0, 0)], [.inl (some (.inl (2147483648, 2147483651)), [(16385, (2147483648, 2147483648))])], 60)
theorem hcw_walk : z_wtH zTb 60 cw_walk := z_wt_ok [] [ct_X10_walk_0] 60 (List.forall_mem_cons.mpr ⟨hct_X10_walk_0, fun _ h => absurd h List.not_mem_nil⟩) (by decide +kernel)
theorem w_walk {nS : Nat} {M : aM} {a1 : Int32} (hT : z_MT (zTb, [], []) M)  : aCW nS 60 7 [vR 0 0, vI a1, vR 98 0] M (fun v M' => (∃ x, v = some (vI x)) ∧ cPost 2147483648 M M' ∧ cSm M M') := aCW_post (w_useX hcw_walk rfl rfl rfl (h_R (h_I (h_R trivial))) hT) (fun v M' z => ⟨z.1, cPost_zero z.2.1 rfl rfl, z.2.2⟩)
def cw_alike : zCt := (8, [.inr (.inr (0, 0)), .inr (.inr (98, 0))], [], [(15, 0, 15), (98, 0, 0)], [.inl (some (.inl (2147483648, 2147483651)), [])], 60)
theorem hcw_alike : z_wtH zTb 60 cw_alike := z_wt_ok [] [ct_X10_alike_0] 60 (List.forall_mem_cons.mpr ⟨hct_X10_alike_0, fun _ h => absurd h List.not_mem_nil⟩) (by decide +kernel)
theorem w_alike {nS : Nat} {M : aM}  (hT : z_MT (zTb, [], []) M)  : aCW nS 60 8 [vR 0 0, vR 98 0] M (fun v M' => (∃ x, v = some (vI x)) ∧ cPost (z_b (M.1 1 0 1)) M M' ∧ cSm M M') := aCW_post (w_useX hcw_alike rfl rfl rfl (h_R (h_R trivial)) hT) (fun v M' z => ⟨z.1, cPost_same z.2.1 rfl, z.2.2⟩)
def cw_listed : zCt := (9, [.inr (.inr (0, 0)), .inr (.inr (98, 0))], [], [(28, 2, 3), (29, 0, 31), (30, 0, 31), (31, 0, 31), (32, 0, 15), (33, 0, 3), (34, 0, 31), (35, 0, 32), (98, 0, 0)], [.inl (some (.inl (2147483648, 2147483651)), [])], 60)
theorem hcw_listed : z_wtH zTb 60 cw_listed := z_wt_ok [] [ct_X10_listed_0] 60 (List.forall_mem_cons.mpr ⟨hct_X10_listed_0, fun _ h => absurd h List.not_mem_nil⟩) (by decide +kernel)
theorem w_listed {nS : Nat} {M : aM}  (hT : z_MT (zTb, [], []) M)  : aCW nS 60 9 [vR 0 0, vR 98 0] M (fun v M' => (∃ x, v = some (vI x)) ∧ cPost (z_b (M.1 1 0 1)) M M' ∧ cSm M M') := aCW_post (w_useX hcw_listed rfl rfl rfl (h_R (h_R trivial)) hT) (fun v M' z => ⟨z.1, cPost_same z.2.1 rfl, z.2.2⟩)
def cw_mean : zCt := (10, [.inr (.inr (0, 0)), .inl (0, 4294967295), .inr (.inr (98, 0))], [], [(1, 1, 1), (3, 1, 5), (17, 2, 6), (18, 0, 15), (19, 0, 15), (25, 0, 7), (26, 0, 7), (27, 0, 7), (98, 0, 0)], [.inl (some (.inl (2147483648, 2147483651)), [(16385, (2147483648, 2147483648))])], 60)
theorem hcw_mean : z_wtH zTb 60 cw_mean := z_wt_ok [] [ct_X10_mean_0] 60 (List.forall_mem_cons.mpr ⟨hct_X10_mean_0, fun _ h => absurd h List.not_mem_nil⟩) (by decide +kernel)
theorem w_mean {nS : Nat} {M : aM} {a1 : Int32} (hT : z_MT (zTb, [], []) M)  : aCW nS 60 10 [vR 0 0, vI a1, vR 98 0] M (fun v M' => (∃ x, v = some (vI x)) ∧ cPost 2147483648 M M' ∧ cSm M M') := aCW_post (w_useX hcw_mean rfl rfl rfl (h_R (h_I (h_R trivial))) hT) (fun v M' z => ⟨z.1, cPost_zero z.2.1 rfl rfl, z.2.2⟩)
def cw_body : zCt := (11, [.inr (.inr (0, 0)), .inl (0, 4294967295), .inl (0, 4294967295), .inl (0, 4294967295), .inr (.inr (98, 0))], [], [(25, 0, 7), (26, 0, 7), (27, 0, 7), (98, 0, 0)], [.inl (some (.inl (2147483648, 2147483651)), [])], 60)
theorem hcw_body : z_wtH zTb 60 cw_body := z_wt_ok [] [ct_X10_body_0] 60 (List.forall_mem_cons.mpr ⟨hct_X10_body_0, fun _ h => absurd h List.not_mem_nil⟩) (by decide +kernel)
theorem w_body {nS : Nat} {M : aM} {a1 : Int32} {a2 : Int32} {a3 : Int32} (hT : z_MT (zTb, [], []) M)  : aCW nS 60 11 [vR 0 0, vI a1, vI a2, vI a3, vR 98 0] M (fun v M' => (∃ x, v = some (vI x)) ∧ cPost (z_b (M.1 1 0 1)) M M' ∧ cSm M M') := aCW_post (w_useX hcw_body rfl rfl rfl (h_R (h_I (h_I (h_I (h_R trivial))))) hT) (fun v M' z => ⟨z.1, cPost_same z.2.1 rfl, z.2.2⟩)
def cw_dual : zCt := (12, [.inr (.inr (0, 0)), .inl (0, 4294967295), .inr (.inr (98, 0))], [], [(98, 0, 0)], [.inl (some (.inl (2147483648, 2147483651)), [])], 60)
theorem hcw_dual : z_wtH zTb 60 cw_dual := z_wt_ok [] [ct_X10_dual_0] 60 (List.forall_mem_cons.mpr ⟨hct_X10_dual_0, fun _ h => absurd h List.not_mem_nil⟩) (by decide +kernel)
theorem w_dual {nS : Nat} {M : aM} {a1 : Int32} (hT : z_MT (zTb, [], []) M)  : aCW nS 60 12 [vR 0 0, vI a1, vR 98 0] M (fun v M' => (∃ x, v = some (vI x)) ∧ cPost (z_b (M.1 1 0 1)) M M' ∧ cSm M M') := aCW_post (w_useX hcw_dual rfl rfl rfl (h_R (h_I (h_R trivial))) hT) (fun v M' z => ⟨z.1, cPost_same z.2.1 rfl, z.2.2⟩)
def cw_dualSum : zCt := (13, [.inr (.inr (0, 0)), .inr (.inr (98, 0))], [], [(98, 0, 0)], [.inl (some (.inl (2147483648, 2147483651)), [])], 60)
theorem hcw_dualSum : z_wtH zTb 60 cw_dualSum := z_wt_ok [] [ct_X10_dualSum_0] 60 (List.forall_mem_cons.mpr ⟨hct_X10_dualSum_0, fun _ h => absurd h List.not_mem_nil⟩) (by decide +kernel)
theorem w_dualSum {nS : Nat} {M : aM}  (hT : z_MT (zTb, [], []) M)  : aCW nS 60 13 [vR 0 0, vR 98 0] M (fun v M' => (∃ x, v = some (vI x)) ∧ cPost (z_b (M.1 1 0 1)) M M' ∧ cSm M M') := aCW_post (w_useX hcw_dualSum rfl rfl rfl (h_R (h_R trivial)) hT) (fun v M' z => ⟨z.1, cPost_same z.2.1 rfl, z.2.2⟩)
theorem cHs_L {M M1 : aM} {x : Int64} (h : cHs M M1) : cHs M (a_pL M1 98 0 0 x) := h
theorem a_pLs {M : aM} {k i j : Nat} {x : Int64} : (a_pL M k i j x).2 k i j = x := if_pos ⟨rfl, rfl, rfl⟩
/-- P: the call goes through; v: how many changes can be undone then -/
def cHx (P : Prop) (v : Int32) (M M' : aM) : Prop := cHs M M' ∧ ((P ∧ M'.1 20 0 4 = v ∧ M'.1 20 0 5 = v) ∨ (¬ P ∧ M'.1 20 0 4 = M.1 20 0 4 ∧ M'.1 20 0 5 = M.1 20 0 5))
def mHx (P : Prop) (v : Int32) (M M' : aM) : Prop := mHs M M' ∧ ((P ∧ M'.1 37 0 8 = v ∧ M'.1 37 0 7 = v) ∨ (¬ P ∧ M'.1 37 0 8 = M.1 37 0 8 ∧ M'.1 37 0 7 = M.1 37 0 7))
theorem RX_hx {t t2 : Nat} {M N1 N2 : aM} {P : Prop} {v : Int32} (hr : RX M) (h1 : cPost t M N1) (c : cHx P v M N1) (h2 : mPost t2 N1 N2) (m : mHx P v N1 N2) : RX N2 := by
  refine RX_hist hr h1 c.1 h2 m.1 ?_
  rcases c.2 with ⟨p, c4, c5⟩ | ⟨p, c4, c5⟩
  · rcases m.2 with ⟨p2, m8, m7⟩ | ⟨p2, m8, m7⟩
    · exact ⟨c4.trans m8.symm, c5.trans m7.symm⟩
    · exact absurd p p2
  · rcases m.2 with ⟨p2, m8, m7⟩ | ⟨p2, m8, m7⟩
    · exact absurd p2 p
    · exact RX_d hr h1 c4 c5 m8 m7
/-- what both sides hold between calls, by name -/
def SX (e : xB) (n k : Nat) (M : aM) : Prop := cB 0 M e ∧ rB 37 M e ∧ M.1 4 0 4 = M.1 37 0 0 ∧ n ≤ k ∧ k ≤ 20 ∧ M.1 20 0 4 = Int32.ofNat n ∧ M.1 20 0 5 = Int32.ofNat k ∧ M.1 37 0 8 = Int32.ofNat n ∧ M.1 37 0 7 = Int32.ofNat k
theorem RX_S {M : aM} (hr : RX M) (hi : iM M) (hT : z_MT (zTb, [], []) M) : ∃ e n k, SX e n k M := by
  obtain ⟨e, e1, e2, e3⟩ := hr.2.1
  obtain ⟨n, k, h1, h2, h3, h4, h5, h6⟩ := RX_n hr hi hT
  exact ⟨e, n, k, e1, e2, e3, h1, h2, h3, h4, h5, h6⟩
def SM (e : xB) (n k : Nat) (M : aM) : Prop := rB 37 M e ∧ n ≤ k ∧ k ≤ 20 ∧ M.1 37 0 8 = Int32.ofNat n ∧ M.1 37 0 7 = Int32.ofNat k
theorem SX_m {t n k : Nat} {e : xB} {M N : aM} (h : SX e n k M) (h1 : cPost t M N) : SM e n k N := ⟨rB_fr h.2.1 (fun j _ _ _ _ => R_f h1 37 j (by decide) (by decide)), h.2.2.2.1, h.2.2.2.2.1, (R_f h1 37 8 (by decide) (by decide)).trans h.2.2.2.2.2.2.2.1, (R_f h1 37 7 (by decide) (by decide)).trans h.2.2.2.2.2.2.2.2⟩
theorem SX_w {n k : Nat} {e : xB} {M : aM} (h : SX e n k M) : ∀ t, t < 8 → M.1 13 0 t = M.1 37 0 (10 + t) := fun t ht => (h.1.2.2.2.1 t ht).trans (h.2.1.2.2.2.1 t ht).symm
theorem x_bn {a : Int32} (h : a = 0 ∨ a = 1) : ∃ m : Nat, m ≤ 1 ∧ a = Int32.ofNat m := by
  rcases h with h | h
  · exact ⟨0, by decide, h⟩
  · exact ⟨1, by decide, h⟩
theorem w_set {nS n k : Nat} {e : xB} {M : aM} {a1 a2 a3 a4 : Int32} {m : Nat} (hT : z_MT (zTb, [], []) M) (hS : SX e n k M) (hm : m ≤ 1) (hz : a3 = Int32.ofNat m) : aCW nS 60 4 [vR 0 0, vI a1, vI a2, vI a3, vI a4, vR 98 0] M (fun v M' => (∃ x, v = some (vI x)) ∧ cPost (z_b (M.1 1 0 1)) M M' ∧ cHx (okL e.2.1.1 e.2.1.2.1 e.2.1.2.2 a1 a2 m ∧ okT e.1.2 a4) (Int32.ofNat (hN n)) M M') := by
  refine aCW_post (wX_set (c_setX hT hS.1 hm hz (Nat.le_trans hS.2.2.2.1 hS.2.2.2.2.1) hS.2.2.2.2.2.1) (fun v M' z => z.1) (fun q M' z => z.1)) (fun v M' z => ?_)
  rcases z with ⟨rfl, x, M1, ⟨-, p, hM, h4, h5⟩, rfl⟩ | ⟨rfl, -, p, rfl⟩
  · exact ⟨⟨_, rfl⟩, cPost_L (cPost_same hM rfl), cHs_L (cHs_ok (W := [(12, 0, 31), (20, 4, 5), (21, 0, 19), (22, 0, 19), (23, 0, 19)]) rfl hM.2.1), Or.inl ⟨p, h4, h5⟩⟩
  · exact ⟨⟨_, rfl⟩, cPost_same (h_M0 (W := []) hT) rfl, ⟨fun _ => rfl, fun _ _ _ _ _ _ => rfl, rfl⟩, Or.inr ⟨p, rfl, rfl⟩⟩
theorem w_frame {nS n k : Nat} {e : xB} {M : aM} {a1 a2 a3 : Int32} (hT : z_MT (zTb, [], []) M) (hS : SX e n k M)  : aCW nS 60 6 [vR 0 0, vI a1, vI a2, vI a3, vR 98 0] M (fun v M' => (∃ x, v = some (vI x)) ∧ cPost (z_b (M.1 1 0 1)) M M' ∧ cHx (xP a1 a2 e.2.1.1 e.2.1.2.1 ∧ okT e.1.2 a3) (Int32.ofNat (hN n)) M M') := by
  refine aCW_post (wX_frame (c_frameX hT hS.1 (Nat.le_trans hS.2.2.2.1 hS.2.2.2.2.1) hS.2.2.2.2.2.1) (fun v M' z => z.1) (fun q M' z => z.1)) (fun v M' z => ?_)
  rcases z with ⟨rfl, x, M1, ⟨-, p, hM, h4, h5⟩, rfl⟩ | ⟨rfl, -, p, rfl⟩
  · exact ⟨⟨_, rfl⟩, cPost_L (cPost_same hM rfl), cHs_L (cHs_ok (W := [(12, 0, 31), (20, 4, 5), (21, 0, 19), (22, 0, 19), (23, 0, 19)]) rfl hM.2.1), Or.inl ⟨p, h4, h5⟩⟩
  · exact ⟨⟨_, rfl⟩, cPost_same (h_M0 (W := []) hT) rfl, ⟨fun _ => rfl, fun _ _ _ _ _ _ => rfl, rfl⟩, Or.inr ⟨p, rfl, rfl⟩⟩
theorem w_draw {nS n k : Nat} {e : xB} {M : aM} {a1 : Int32} (hT : z_MT (zTb, [], []) M) (hS : SX e n k M)  : aCW nS 60 14 [vR 0 0, vI a1, vR 98 0] M (fun v M' => (∃ x, v = some (vI x)) ∧ cPost (z_b (M.1 1 0 1)) M M' ∧ cHx (e.2.1.2.2 = 0 ∧ 0 < e_sm M (e_w M) e.1.2) (0) M M') := by
  refine aCW_post (wX_draw (c_drawX hT hS.1 (SX_w hS)) (fun v M' z => z.1) (fun q M' z => z.1)) (fun v M' z => ?_)
  rcases z with ⟨rfl, x, M1, ⟨-, p, hM, h4, h5⟩, rfl⟩ | ⟨rfl, -, p, rfl⟩
  · exact ⟨⟨_, rfl⟩, cPost_L (cPost_same hM rfl), cHs_L (cHs_ok (W := [(12, 0, 31), (20, 4, 5)]) rfl hM.2.1), Or.inl ⟨p, h4, h5⟩⟩
  · exact ⟨⟨_, rfl⟩, cPost_same (h_M0 (W := []) hT) rfl, ⟨fun _ => rfl, fun _ _ _ _ _ _ => rfl, rfl⟩, Or.inr ⟨p, rfl, rfl⟩⟩
/-- what a text of the board comes to, of the class: t bytes, the board e; v: what the law's method answers -/
def cBo (e : xB) (t : Nat) (v : Option aV) (M M' : aM) : Prop := (∀ j, M'.1 2 0 j = M.1 2 0 j) ∧ cG 1 M' ∧ (∀ k j, 4 ≤ k → k ≤ 14 → M'.1 k 2 j = M.1 k 2 j) ∧ M'.1 0 0 5 = M.1 0 0 5 ∧ ((v = some (vI 0) ∧ M'.2 98 0 0 = (M.1 4 0 4 + 1).toInt64 ∧ M.1 4 0 4 ≠ 12 ∧ ∃ e', t_read (M.1 2 0) t e = some e' ∧ cB 0 M' e' ∧ M'.1 4 0 4 = M.1 4 0 4 + 1 ∧ M'.1 20 0 4 = 0 ∧ M'.1 20 0 5 = 0) ∨ (((v = some (vI 1) ∧ t_read (M.1 2 0) t e = none) ∨ (v = some (vI 2) ∧ M.1 4 0 4 = 12 ∧ ∃ e', t_read (M.1 2 0) t e = some e')) ∧ cB 0 M' e ∧ M'.1 4 0 4 = M.1 4 0 4 ∧ M'.1 20 0 4 = M.1 20 0 4 ∧ M'.1 20 0 5 = M.1 20 0 5))
theorem x_t12 {M : aM} (hT : z_MT (zTb, [], []) M) (h : M.1 4 0 4 = M.1 37 0 0) : ∃ t, t ≤ 12 ∧ M.1 4 0 4 = Int32.ofNat t := by
  obtain ⟨t, ht, e⟩ := x_rng (m := 12) (by decide) (h_TR (T := zTb) (k := 37) (i := 0) (j := 0) hT)
  exact ⟨t, ht, h.trans e⟩
theorem PTb_no {k i j : Nat} (h3 : ¬ k = 3) (h1 : ¬ (k = 1 ∧ j = 1)) (h20 : ¬ (k = 20 ∧ (j = 4 ∨ j = 5))) (hb : ¬ (4 ≤ k ∧ k ≤ 14 ∧ (i = 0 ∨ i = 1))) : PTb k i j = false := by
  cases hq : PTb k i j with
  | false => rfl
  | true =>
    exfalso
    have z : ((Nat.beq k 3 || ((Nat.ble 4 k && Nat.ble k 14) && (Nat.beq i 1 || Nat.beq i 0))) || ((Nat.beq k 1 && Nat.beq j 1) || (Nat.beq k 20 && (Nat.beq j 4 || Nat.beq j 5)))) = true := hq
    simp only [Bool.or_eq_true, Bool.and_eq_true] at z
    rcases z with (z | ⟨⟨z1, z2⟩, z3⟩) | (⟨z1, z2⟩ | ⟨z1, z2⟩)
    · exact h3 (Nat.eq_of_beq_eq_true z)
    · refine hb ⟨Nat.le_of_ble_eq_true z1, Nat.le_of_ble_eq_true z2, ?_⟩
      rcases z3 with z3 | z3
      · exact Or.inr (Nat.eq_of_beq_eq_true z3)
      · exact Or.inl (Nat.eq_of_beq_eq_true z3)
    · exact h1 ⟨Nat.eq_of_beq_eq_true z1, Nat.eq_of_beq_eq_true z2⟩
    · refine h20 ⟨Nat.eq_of_beq_eq_true z1, ?_⟩
      rcases z2 with z2 | z2
      · exact Or.inl (Nat.eq_of_beq_eq_true z2)
      · exact Or.inr (Nat.eq_of_beq_eq_true z2)
theorem w_board {nS n k t : Nat} {e : xB} {M : aM} (hT : z_MT (zTb, [], []) M) (hr : RX M) (hS : SX e n k M) (ht : t ≤ 400) (hs : M.1 1 0 1 = Int32.ofNat t) : aCW nS 60 0 [vR 0 0, vR 98 0] M (fun v M' => (∃ x, v = some (vI x)) ∧ cPost 2147483648 M M' ∧ cBo e t v M M') := by
  have hc := aC_and (h_any hct_X10_board_0 rfl (show (16 : Nat) ≤ 60 by decide) (h_R (k := 0) (i := 0) (r := []) (s := []) trivial) hT) (c_board (nS := nS) (d := 49) hs ht hS.1 hr.2.2.1.1 (x_t12 hT hS.2.2.1))
  have fr1 : ∀ {M1 : aM} {x : Int64}, fr PTb M M1 → (∀ j, (a_pL M1 98 0 0 x).1 2 0 j = M.1 2 0 j) ∧ (∀ k j, 4 ≤ k → k ≤ 14 → (a_pL M1 98 0 0 x).1 k 2 j = M.1 k 2 j) ∧ (a_pL M1 98 0 0 x).1 0 0 5 = M.1 0 0 5 := fun h => ⟨fun j => h.1 2 0 j (PTb_no (by omega) (by omega) (by omega) (by omega)), fun k j h1 h2 => h.1 k 2 j (PTb_no (by omega) (by omega) (by omega) (by omega)), h.1 0 0 5 (PTb_no (by omega) (by omega) (by omega) (by omega))⟩
  have fr2 : ∀ {M1 : aM}, fr PTb M M1 → (∀ j, M1.1 2 0 j = M.1 2 0 j) ∧ (∀ k j, 4 ≤ k → k ≤ 14 → M1.1 k 2 j = M.1 k 2 j) ∧ M1.1 0 0 5 = M.1 0 0 5 := fun h => fr1 (x := 0) h
  have cp : ∀ {M1 : aM}, z_M (zTb, [(1, 1, 1), (3, 1, 5), (4, 1, 6), (5, 0, 2), (6, 0, 63), (7, 0, 7), (8, 0, 7), (9, 0, 7), (10, 0, 7), (11, 0, 7), (12, 0, 31), (13, 0, 7), (14, 0, 15), (20, 4, 5)], []) M [] M1 → M1.1 1 0 1 = 0 → cPost 2147483648 M M1 := fun h h0 => ⟨h.1, c_fr h rfl, by rw [h0]; exact z_b0⟩
  refine aCW_post (wX_board hc (fun v M' z => ?_) (fun q M' z => ?_)) (fun v M' z => ?_)
  · obtain ⟨-, -, -, -, -, e', -, -, hv, -⟩ := z
    exact ⟨_, hv⟩
  · obtain ⟨-, -, z⟩ := z
    rcases z with ⟨z, -⟩ | ⟨z, -⟩
    · exact Or.inl z
    · exact Or.inr z
  · rcases z with ⟨rfl, x, M1, ⟨hM, hf, h0, hG, h12, e', r1, r2, r3, r4, r5, r6⟩, rfl⟩ | ⟨rfl, hM, ⟨hf, h0, hG, r2, r4, r5, r6⟩, r⟩ | ⟨rfl, hM, ⟨hf, h0, hG, r2, r4, r5, r6⟩, r⟩
    · obtain ⟨f1, f2, f3⟩ := fr1 (x := x.toInt64) hf
      have ex : x = M.1 4 0 4 + 1 := by
        cases r3
        rfl
      exact ⟨⟨_, rfl⟩, cPost_L (cp hM h0), f1, hG, f2, f3, Or.inl ⟨rfl, a_pLs.trans (by rw [ex]), h12, e', r1, r2, r4, r5, r6⟩⟩
    · obtain ⟨f1, f2, f3⟩ := fr2 hf
      rcases r with ⟨-, r⟩ | ⟨r, -⟩
      · exact ⟨⟨_, rfl⟩, cp hM h0, f1, hG, f2, f3, Or.inr ⟨Or.inl ⟨rfl, r⟩, r2, r4, r5, r6⟩⟩
      · exact absurd r (by decide)
    · obtain ⟨f1, f2, f3⟩ := fr2 hf
      rcases r with ⟨r, -⟩ | ⟨-, r⟩
      · exact absurd r (by decide)
      · exact ⟨⟨_, rfl⟩, cp hM h0, f1, hG, f2, f3, Or.inr ⟨Or.inr ⟨rfl, r⟩, r2, r4, r5, r6⟩⟩
theorem c_use {c : zCt} (hc : z_ctH zTb c) (b : Nat) (h1 : c.2.2.1 = []) (hk : (i_vs b c.2.2.2.2.1 && (iWc c.2.2.2.1 && !(z_w c.2.2.2.1 1 1 1))) = true) (hs : cS1 c.2.2.2.1 = true) {nS d : Nat} {as : List aV} {M : aM} (hd : c.2.2.2.2.2 ≤ d) (hS : z_S c.2.1 as) (hT : z_MT (zTb, [], []) M) : aC nS d c.1 as M (fun v M' => i_vT b v ∧ cPost (z_b (M.1 1 0 1)) M M' ∧ cSm M M') (fun _ _ => False) := by
  rw [Bool.and_eq_true] at hk
  refine aC_post (hc nS d as M hd hS hT (by rw [h1]; exact h_MG0)) (fun v M' hv => ?_) (fun x M' hx => ?_)
  · obtain ⟨v', g', h4, h5, h6⟩ := hv
    exact ⟨i_vs_ok hk.1 v' g' h4 v h5, cPost_same h6 hk.2, cSm_ok hs h6.2.1⟩
  · obtain ⟨g', h4, h6⟩ := hx
    exact False.elim (i_vs_x hk.1 _ h4)
theorem i_v0 {v : Option aV} (h : i_vT 0 v) : v = none := by
  rcases h with h | h | h
  · exact h.2
  · exact absurd h.1 (by decide)
  · exact absurd h.1 (by decide)
theorem i_v1 {v : Option aV} (h : i_vT 1 v) : ∃ x, v = some (vI x) := by
  rcases h with h | h | h
  · exact absurd h.1 (by decide)
  · exact h.2
  · exact absurd h.1 (by decide)
theorem i_v2 {v : Option aV} (h : i_vT 2 v) : ∃ x, v = some (vL x) := by
  rcases h with h | h | h
  · exact absurd h.1 (by decide)
  · exact absurd h.1 (by decide)
  · exact h.2
theorem c_fault {nS : Nat} {M : aM}  (hT : z_MT (zTb, [], []) M)  : aC nS 60 153 [vR 0 0] M (fun v M' => i_vT 1 v ∧ cPost (z_b (M.1 1 0 1)) M M' ∧ cSm M M') (fun _ _ => False) := c_use hct_X10_fault_0 1 rfl rfl rfl (show (4 : Nat) ≤ 60 by decide) (h_R trivial) hT
theorem c_worth {nS : Nat} {M : aM}  (hT : z_MT (zTb, [], []) M)  : aC nS 60 163 [vR 0 0] M (fun v M' => i_vT 2 v ∧ cPost (z_b (M.1 1 0 1)) M M' ∧ cSm M M') (fun _ _ => False) := c_use hct_X10_worth_0 2 rfl rfl rfl (show (13 : Nat) ≤ 60 by decide) (h_R trivial) hT
theorem c_turned {nS : Nat} {M : aM}  (hT : z_MT (zTb, [], []) M)  : aC nS 60 164 [vR 0 0] M (fun v M' => i_vT 1 v ∧ cPost (z_b (M.1 1 0 1)) M M' ∧ cSm M M') (fun _ _ => False) := c_use hct_X10_turned_0 1 rfl rfl rfl (show (13 : Nat) ≤ 60 by decide) (h_R trivial) hT
theorem c_sum {nS : Nat} {M : aM}  (hT : z_MT (zTb, [], []) M)  : aC nS 60 166 [vR 0 0] M (fun v M' => i_vT 2 v ∧ cPost (z_b (M.1 1 0 1)) M M' ∧ cSm M M') (fun _ _ => False) := c_use hct_X10_sum_0 2 rfl rfl rfl (show (11 : Nat) ≤ 60 by decide) (h_R trivial) hT
theorem c_states {nS : Nat} {M : aM} {a1 : Int32} (hT : z_MT (zTb, [], []) M)  : aC nS 60 168 [vR 0 0, vI a1] M (fun v M' => i_vT 2 v ∧ cPost (z_b (M.1 1 0 1)) M M' ∧ cSm M M') (fun _ _ => False) := c_use hct_X10_states_0 2 rfl rfl rfl (show (11 : Nat) ≤ 60 by decide) (h_R (h_I trivial)) hT
theorem c_rests {nS : Nat} {M : aM} {a1 : Int32} (hT : z_MT (zTb, [], []) M) (b1 : a1 = 0 ∨ a1 = 1) : aC nS 60 170 [vR 0 0, vI a1] M (fun v M' => i_vT 1 v ∧ cPost (z_b (M.1 1 0 1)) M M' ∧ cSm M M') (fun _ _ => False) := c_use hct_X10_rests_0 1 rfl rfl rfl (show (12 : Nat) ≤ 60 by decide) (h_R (h_Iv (h_bo b1) trivial)) hT
theorem c_count {nS : Nat} {M : aM} {a1 : Int32} (hT : z_MT (zTb, [], []) M)  : aC nS 60 177 [vR 0 0, vI a1] M (fun v M' => i_vT 1 v ∧ cPost (z_b (M.1 1 0 1)) M M' ∧ cSm M M') (fun _ _ => False) := c_use hct_X10_count_0 1 rfl rfl rfl (show (6 : Nat) ≤ 60 by decide) (h_R (h_I trivial)) hT
theorem c_undo {nS n k : Nat} {e : xB} {M : aM} (hT : z_MT (zTb, [], []) M) (hS : SX e n k M) : aC nS 60 160 [vR 0 0] M (fun v M' => v = some (vI (Int32.ofNat (if n = 0 then 0 else 1))) ∧ cPost (z_b (M.1 1 0 1)) M M' ∧ cHs M M' ∧ M'.1 20 0 4 = Int32.ofNat (n - 1) ∧ M'.1 20 0 5 = Int32.ofNat k) (fun _ _ => False) := aC_post (c_undoX hT (Nat.le_trans hS.2.2.2.1 hS.2.2.2.2.1) hS.2.2.2.2.2.1) (fun v M' z => ⟨z.1, cPost_same z.2.1 rfl, cHs_ok (W := [(12, 0, 31), (20, 4, 4)]) rfl z.2.1.2.1, z.2.2, (h_un z.2.1 rfl).trans hS.2.2.2.2.2.2.1⟩) (fun _ _ z => z)
theorem c_redo {nS n k : Nat} {e : xB} {M : aM} (hT : z_MT (zTb, [], []) M) (hS : SX e n k M) : aC nS 60 161 [vR 0 0] M (fun v M' => v = some (vI (Int32.ofNat (if n = k then 0 else 1))) ∧ cPost (z_b (M.1 1 0 1)) M M' ∧ cHs M M' ∧ M'.1 20 0 4 = Int32.ofNat (if n = k then n else n + 1) ∧ M'.1 20 0 5 = Int32.ofNat k) (fun _ _ => False) := aC_post (c_redoX hT hS.2.2.2.1 hS.2.2.2.2.1 hS.2.2.2.2.2.1 hS.2.2.2.2.2.2.1) (fun v M' z => ⟨z.1, cPost_same z.2.1 rfl, cHs_ok (W := [(12, 0, 31), (20, 4, 4)]) rfl z.2.1.2.1, z.2.2, (h_un z.2.1 rfl).trans hS.2.2.2.2.2.2.1⟩) (fun _ _ z => z)
theorem PI2_no {k i j : Nat} (hb : ¬ (4 ≤ k ∧ k ≤ 14 ∧ i = 2)) (h0 : ¬ (k = 0 ∧ j = 5)) : PI2 k i j = false := by
  cases hq : PI2 k i j with
  | false => rfl
  | true =>
    exfalso
    have z : (((Nat.ble 4 k && Nat.ble k 14) && Nat.beq i 2) || (Nat.beq k 0 && Nat.beq j 5)) = true := hq
    simp only [Bool.or_eq_true, Bool.and_eq_true] at z
    rcases z with ⟨⟨z1, z2⟩, z3⟩ | ⟨z1, z2⟩
    · exact hb ⟨Nat.le_of_ble_eq_true z1, Nat.le_of_ble_eq_true z2, Nat.eq_of_beq_eq_true z3⟩
    · exact h0 ⟨Nat.eq_of_beq_eq_true z1, Nat.eq_of_beq_eq_true z2⟩
theorem PK0_no {k i j : Nat} (hb : ¬ (4 ≤ k ∧ k ≤ 14 ∧ i = 0)) (h0 : ¬ (k = 20 ∧ (j = 4 ∨ j = 5))) : PK0 k i j = false := by
  cases hq : PK0 k i j with
  | false => rfl
  | true =>
    exfalso
    have z : (((Nat.ble 4 k && Nat.ble k 14) && Nat.beq i 0) || (Nat.beq k 20 && (Nat.beq j 4 || Nat.beq j 5))) = true := hq
    simp only [Bool.or_eq_true, Bool.and_eq_true] at z
    rcases z with ⟨⟨z1, z2⟩, z3⟩ | ⟨z1, z2⟩
    · exact hb ⟨Nat.le_of_ble_eq_true z1, Nat.le_of_ble_eq_true z2, Nat.eq_of_beq_eq_true z3⟩
    · refine h0 ⟨Nat.eq_of_beq_eq_true z1, ?_⟩
      rcases z2 with z2 | z2
      · exact Or.inl (Nat.eq_of_beq_eq_true z2)
      · exact Or.inr (Nat.eq_of_beq_eq_true z2)
theorem c_image {nS n k : Nat} {e : xB} {M : aM} (hT : z_MT (zTb, [], []) M) (hr : RX M) (hS : SX e n k M) : aC nS 60 175 [vR 0 0] M (fun v M' => v = none ∧ cPost (z_b (M.1 1 0 1)) M M' ∧ fr PI2 M M' ∧ M'.1 0 0 5 = 1 ∧ cB 2 M' e ∧ M'.1 4 2 4 = M.1 4 0 4) (fun _ _ => False) := aC_post (aC_and (h_any hct_X10_image_0 rfl (show (11 : Nat) ≤ 60 by decide) (h_R (k := 0) (i := 0) (r := []) (s := []) trivial) hT) (c_imageX hS.1 hr.2.2.1.2)) (fun v M' z => ⟨z.2.1, cPost_same z.1 rfl, z.2.2⟩) (fun _ _ z => z.2)
theorem c_back {nS : Nat} {M : aM} (hT : z_MT (zTb, [], []) M) (hr : RX M) : aC nS 60 176 [vR 0 0] M (fun v M' => cPost (z_b (M.1 1 0 1)) M M' ∧ ((M.1 0 0 5 = 0 ∧ v = some (vI 0) ∧ M = M') ∨ (M.1 0 0 5 = 1 ∧ v = some (vI 1) ∧ ∃ e, rB 38 M e ∧ M.1 4 2 4 = M.1 38 0 0 ∧ fr PK0 M M' ∧ cB 0 M' e ∧ M'.1 4 0 4 = M.1 4 2 4 ∧ M'.1 20 0 4 = 0 ∧ M'.1 20 0 5 = 0))) (fun _ _ => False) := by
  have hb := h_any (nS := nS) hct_X10_back_0 rfl (show (11 : Nat) ≤ 60 by decide) (h_R (k := 0) (i := 0) (r := []) (s := []) trivial) hT
  rcases hr.2.2.2.2 with ⟨k1, k2⟩ | ⟨k1, k2, e, e1, e2, e3⟩
  · exact aC_post (aC_and hb (c_back0 k1)) (fun v M' z => ⟨cPost_same z.1 rfl, Or.inl ⟨k1, z.2⟩⟩) (fun _ _ z => z.2)
  · obtain ⟨e0, b0, -⟩ := hr.2.1
    exact aC_post (aC_and hb (c_back1 k1 (cB_G b0) e1)) (fun v M' z => ⟨cPost_same z.1 rfl, Or.inr ⟨k1, z.2.1, e, e2, e3, z.2.2⟩⟩) (fun _ _ z => z.2)
theorem i_sameX {c : zCt} (hc : z_ctH zTb c) (b : Nat) (hk : (i_vs b c.2.2.2.2.1 && (iWm c.2.2.2.1 && (iFr c.2.2.2.1 && !(z_w c.2.2.2.1 36 6 6)))) = true) (hs : mS1 c.2.2.2.1 = true) {nS d : Nat} {as : List aV} {M : aM} (hd : c.2.2.2.2.2 ≤ d) (hS : z_S c.2.1 as) (hT : z_MT (zTb, [], []) M) (hG : z_MG c.2.2.1 M) (hi : iM M) : aC nS d c.1 as M (fun v M' => i_vT b v ∧ mPost (z_b (M.1 36 0 6)) M M' ∧ mSm M M') (fun _ _ => False) := by
  rw [Bool.and_eq_true] at hk
  refine aC_post (hc nS d as M hd hS hT hG) (fun v M' hv => ?_) (fun x M' hx => ?_)
  · obtain ⟨v', g', h4, h5, h6⟩ := hv
    exact ⟨i_vs_ok hk.1 v' g' h4 v h5, mPost_same h6 hi hk.2, mSm_ok hs h6.2.1⟩
  · obtain ⟨g', h4, h6⟩ := hx
    exact i_vs_x hk.1 _ h4
theorem i_zeroX {c : zCt} (hc : z_ctH zTb c) (b : Nat) (hk : ((i_vs b c.2.2.2.2.1 && i_oZ c.2.2.2.2.1) && (iWm c.2.2.2.1 && iFr c.2.2.2.1)) = true) (hs : mS1 c.2.2.2.1 = true) {nS d : Nat} {as : List aV} {M : aM} (hd : c.2.2.2.2.2 ≤ d) (hS : z_S c.2.1 as) (hT : z_MT (zTb, [], []) M) (hG : z_MG c.2.2.1 M) (hi : iM M) : aC nS d c.1 as M (fun v M' => i_vT b v ∧ mPost 2147483648 M M' ∧ mSm M M') (fun _ _ => False) := by
  rw [Bool.and_eq_true, Bool.and_eq_true] at hk
  refine aC_post (hc nS d as M hd hS hT hG) (fun v M' hv => ?_) (fun x M' hx => ?_)
  · obtain ⟨v', g', h4, h5, h6⟩ := hv
    exact ⟨i_vs_ok hk.1.1 v' g' h4 v h5, mPost_zero h6 hi hk.2 (i_oZ_ok hk.1.2 v' g' h4), mSm_ok hs h6.2.1⟩
  · obtain ⟨g', h4, h6⟩ := hx
    exact i_vs_x hk.1.1 _ h4
theorem m_fault {nS : Nat} {M : aM}  (hT : z_MT (zTb, [], []) M) (hi : iM M)  : aC nS 60 212 [vR 36 0] M (fun v M' => i_vT 1 v ∧ mPost (z_b (M.1 36 0 6)) M M' ∧ mSm M M') (fun _ _ => False) := i_sameX hct_fault 1 rfl rfl (show (1 : Nat) ≤ 60 by decide) (h_R trivial) hT h_MG0 hi
theorem m_line {nS : Nat} {M : aM} {a1 : Int32} {a2 : Int32} {a3 : Int32} (hT : z_MT (zTb, [], []) M) (hi : iM M) (b3 : a3 = 0 ∨ a3 = 1) : aC nS 60 215 [vR 36 0, vI a1, vI a2, vI a3] M (fun v M' => i_vT 1 v ∧ mPost (z_b (M.1 36 0 6)) M M' ∧ mSm M M') (fun _ _ => False) := i_sameX hct_line 1 rfl rfl (show (5 : Nat) ≤ 60 by decide) (h_R (h_I (h_I (h_Iv (h_bo b3) trivial)))) hT h_MG0 hi
theorem m_round {nS : Nat} {M : aM} {a1 : Int32} {a2 : Int32} (hT : z_MT (zTb, [], []) M) (hi : iM M)  : aC nS 60 219 [vR 36 0, vI a1, vI a2] M (fun v M' => i_vT 1 v ∧ mPost (z_b (M.1 36 0 6)) M M' ∧ mSm M M') (fun _ _ => False) := i_sameX hct_round 1 rfl rfl (show (8 : Nat) ≤ 60 by decide) (h_R (h_I (h_I trivial))) hT h_MG0 hi
theorem m_walk {nS : Nat} {M : aM} {a1 : Int32} (hT : z_MT (zTb, [], []) M) (hi : iM M)  : aC nS 60 226 [vR 36 0, vI a1] M (fun v M' => i_vT 1 v ∧ mPost 2147483648 M M' ∧ mSm M M') (fun _ _ => False) := i_zeroX hct_walk 1 rfl rfl (show (12 : Nat) ≤ 60 by decide) (h_R (h_I trivial)) hT h_MG0 hi
theorem m_worth {nS : Nat} {M : aM}  (hT : z_MT (zTb, [], []) M) (hi : iM M)  : aC nS 60 228 [vR 36 0] M (fun v M' => i_vT 2 v ∧ mPost (z_b (M.1 36 0 6)) M M' ∧ mSm M M') (fun _ _ => False) := i_sameX hct_worth 2 rfl rfl (show (7 : Nat) ≤ 60 by decide) (h_R trivial) hT h_MG0 hi
theorem m_turned {nS : Nat} {M : aM}  (hT : z_MT (zTb, [], []) M) (hi : iM M)  : aC nS 60 230 [vR 36 0] M (fun v M' => i_vT 1 v ∧ mPost (z_b (M.1 36 0 6)) M M' ∧ mSm M M') (fun _ _ => False) := i_sameX hct_turned 1 rfl rfl (show (7 : Nat) ≤ 60 by decide) (h_R trivial) hT h_MG0 hi
theorem m_alike {nS : Nat} {M : aM}  (hT : z_MT (zTb, [], []) M) (hi : iM M)  : aC nS 60 231 [vR 36 0] M (fun v M' => i_vT 1 v ∧ mPost (z_b (M.1 36 0 6)) M M' ∧ mSm M M') (fun _ _ => False) := i_sameX hct_alike 1 rfl rfl (show (5 : Nat) ≤ 60 by decide) (h_R trivial) hT h_MG0 hi
theorem m_sum {nS : Nat} {M : aM}  (hT : z_MT (zTb, [], []) M) (hi : iM M)  : aC nS 60 238 [vR 36 0] M (fun v M' => i_vT 2 v ∧ mPost (z_b (M.1 36 0 6)) M M' ∧ mSm M M') (fun _ _ => False) := i_sameX hct_sum 2 rfl rfl (show (6 : Nat) ≤ 60 by decide) (h_R trivial) hT h_MG0 hi
theorem m_listed {nS : Nat} {M : aM}  (hT : z_MT (zTb, [], []) M) (hi : iM M)  : aC nS 60 242 [vR 36 0] M (fun v M' => i_vT 2 v ∧ mPost (z_b (M.1 36 0 6)) M M' ∧ mSm M M') (fun _ _ => False) := by
  have w1 : 2147483649 ≤ z_b (M.1 37 0 3) := (h_TR (T := zTb) (k := 37) (i := 0) (j := 3) hT).1
  have w2 : z_b (M.1 37 0 3) ≤ 2147483651 := (h_TR (T := zTb) (k := 37) (i := 0) (j := 3) hT).2
  have w3 : z_b (M.1 37 0 3) = 2147483649 ∨ z_b (M.1 37 0 3) = 2147483650 ∨ z_b (M.1 37 0 3) = 2147483651 := by omega
  have h1 : 2147483649 ≤ z_b (M.1 37 0 4) := (h_TR (T := zTb) (k := 37) (i := 0) (j := 4) hT).1
  have h2 : z_b (M.1 37 0 4) ≤ 2147483651 := (h_TR (T := zTb) (k := 37) (i := 0) (j := 4) hT).2
  have h3 : z_b (M.1 37 0 4) = 2147483649 ∨ z_b (M.1 37 0 4) = 2147483650 ∨ z_b (M.1 37 0 4) = 2147483651 := by omega
  have s1 : 2147483648 ≤ z_b (M.1 37 0 5) := (h_TR (T := zTb) (k := 37) (i := 0) (j := 5) hT).1
  have s2 : z_b (M.1 37 0 5) ≤ 2147483650 := (h_TR (T := zTb) (k := 37) (i := 0) (j := 5) hT).2
  have s3 : z_b (M.1 37 0 5) = 2147483648 ∨ z_b (M.1 37 0 5) = 2147483649 ∨ z_b (M.1 37 0 5) = 2147483650 := by omega
  rcases w3 with w | w | w <;> rcases h3 with h | h | h <;> rcases s3 with s | s | s
  · exact i_sameX hct_listed_1_1_0 2 rfl rfl (show (9 : Nat) ≤ 60 by decide) (h_R trivial) hT (h_MG1 (k := 37) (j := 3) (by decide) rfl (h_eqI w) (h_MG1 (k := 37) (j := 4) (by decide) rfl (h_eqI h) (h_MG1 (k := 37) (j := 5) (by decide) rfl (h_eqI s) h_MG0))) hi
  · exact i_sameX hct_listed_1_1_1 2 rfl rfl (show (10 : Nat) ≤ 60 by decide) (h_R trivial) hT (h_MG1 (k := 37) (j := 3) (by decide) rfl (h_eqI w) (h_MG1 (k := 37) (j := 4) (by decide) rfl (h_eqI h) (h_MG1 (k := 37) (j := 5) (by decide) rfl (h_eqI s) h_MG0))) hi
  · exact i_sameX hct_listed_1_1_2 2 rfl rfl (show (10 : Nat) ≤ 60 by decide) (h_R trivial) hT (h_MG1 (k := 37) (j := 3) (by decide) rfl (h_eqI w) (h_MG1 (k := 37) (j := 4) (by decide) rfl (h_eqI h) (h_MG1 (k := 37) (j := 5) (by decide) rfl (h_eqI s) h_MG0))) hi
  · exact i_sameX hct_listed_1_2_0 2 rfl rfl (show (10 : Nat) ≤ 60 by decide) (h_R trivial) hT (h_MG1 (k := 37) (j := 3) (by decide) rfl (h_eqI w) (h_MG1 (k := 37) (j := 4) (by decide) rfl (h_eqI h) (h_MG1 (k := 37) (j := 5) (by decide) rfl (h_eqI s) h_MG0))) hi
  · exact i_sameX hct_listed_1_2_1 2 rfl rfl (show (11 : Nat) ≤ 60 by decide) (h_R trivial) hT (h_MG1 (k := 37) (j := 3) (by decide) rfl (h_eqI w) (h_MG1 (k := 37) (j := 4) (by decide) rfl (h_eqI h) (h_MG1 (k := 37) (j := 5) (by decide) rfl (h_eqI s) h_MG0))) hi
  · exact i_sameX hct_listed_1_2_2 2 rfl rfl (show (11 : Nat) ≤ 60 by decide) (h_R trivial) hT (h_MG1 (k := 37) (j := 3) (by decide) rfl (h_eqI w) (h_MG1 (k := 37) (j := 4) (by decide) rfl (h_eqI h) (h_MG1 (k := 37) (j := 5) (by decide) rfl (h_eqI s) h_MG0))) hi
  · exact i_sameX hct_listed_1_3_0 2 rfl rfl (show (11 : Nat) ≤ 60 by decide) (h_R trivial) hT (h_MG1 (k := 37) (j := 3) (by decide) rfl (h_eqI w) (h_MG1 (k := 37) (j := 4) (by decide) rfl (h_eqI h) (h_MG1 (k := 37) (j := 5) (by decide) rfl (h_eqI s) h_MG0))) hi
  · exact i_sameX hct_listed_1_3_1 2 rfl rfl (show (12 : Nat) ≤ 60 by decide) (h_R trivial) hT (h_MG1 (k := 37) (j := 3) (by decide) rfl (h_eqI w) (h_MG1 (k := 37) (j := 4) (by decide) rfl (h_eqI h) (h_MG1 (k := 37) (j := 5) (by decide) rfl (h_eqI s) h_MG0))) hi
  · exact i_sameX hct_listed_1_3_2 2 rfl rfl (show (12 : Nat) ≤ 60 by decide) (h_R trivial) hT (h_MG1 (k := 37) (j := 3) (by decide) rfl (h_eqI w) (h_MG1 (k := 37) (j := 4) (by decide) rfl (h_eqI h) (h_MG1 (k := 37) (j := 5) (by decide) rfl (h_eqI s) h_MG0))) hi
  · exact i_sameX hct_listed_2_1_0 2 rfl rfl (show (10 : Nat) ≤ 60 by decide) (h_R trivial) hT (h_MG1 (k := 37) (j := 3) (by decide) rfl (h_eqI w) (h_MG1 (k := 37) (j := 4) (by decide) rfl (h_eqI h) (h_MG1 (k := 37) (j := 5) (by decide) rfl (h_eqI s) h_MG0))) hi
  · exact i_sameX hct_listed_2_1_1 2 rfl rfl (show (11 : Nat) ≤ 60 by decide) (h_R trivial) hT (h_MG1 (k := 37) (j := 3) (by decide) rfl (h_eqI w) (h_MG1 (k := 37) (j := 4) (by decide) rfl (h_eqI h) (h_MG1 (k := 37) (j := 5) (by decide) rfl (h_eqI s) h_MG0))) hi
  · exact i_sameX hct_listed_2_1_2 2 rfl rfl (show (11 : Nat) ≤ 60 by decide) (h_R trivial) hT (h_MG1 (k := 37) (j := 3) (by decide) rfl (h_eqI w) (h_MG1 (k := 37) (j := 4) (by decide) rfl (h_eqI h) (h_MG1 (k := 37) (j := 5) (by decide) rfl (h_eqI s) h_MG0))) hi
  · exact i_sameX hct_listed_2_2_0 2 rfl rfl (show (12 : Nat) ≤ 60 by decide) (h_R trivial) hT (h_MG1 (k := 37) (j := 3) (by decide) rfl (h_eqI w) (h_MG1 (k := 37) (j := 4) (by decide) rfl (h_eqI h) (h_MG1 (k := 37) (j := 5) (by decide) rfl (h_eqI s) h_MG0))) hi
  · exact i_sameX hct_listed_2_2_1 2 rfl rfl (show (13 : Nat) ≤ 60 by decide) (h_R trivial) hT (h_MG1 (k := 37) (j := 3) (by decide) rfl (h_eqI w) (h_MG1 (k := 37) (j := 4) (by decide) rfl (h_eqI h) (h_MG1 (k := 37) (j := 5) (by decide) rfl (h_eqI s) h_MG0))) hi
  · exact i_sameX hct_listed_2_2_2 2 rfl rfl (show (13 : Nat) ≤ 60 by decide) (h_R trivial) hT (h_MG1 (k := 37) (j := 3) (by decide) rfl (h_eqI w) (h_MG1 (k := 37) (j := 4) (by decide) rfl (h_eqI h) (h_MG1 (k := 37) (j := 5) (by decide) rfl (h_eqI s) h_MG0))) hi
  · exact i_sameX hct_listed_2_3_0 2 rfl rfl (show (1 : Nat) ≤ 60 by decide) (h_R trivial) hT (h_MG1 (k := 37) (j := 3) (by decide) rfl (h_eqI w) (h_MG1 (k := 37) (j := 4) (by decide) rfl (h_eqI h) (h_MG1 (k := 37) (j := 5) (by decide) rfl (h_eqI s) h_MG0))) hi
  · exact i_sameX hct_listed_2_3_1 2 rfl rfl (show (1 : Nat) ≤ 60 by decide) (h_R trivial) hT (h_MG1 (k := 37) (j := 3) (by decide) rfl (h_eqI w) (h_MG1 (k := 37) (j := 4) (by decide) rfl (h_eqI h) (h_MG1 (k := 37) (j := 5) (by decide) rfl (h_eqI s) h_MG0))) hi
  · exact i_sameX hct_listed_2_3_2 2 rfl rfl (show (1 : Nat) ≤ 60 by decide) (h_R trivial) hT (h_MG1 (k := 37) (j := 3) (by decide) rfl (h_eqI w) (h_MG1 (k := 37) (j := 4) (by decide) rfl (h_eqI h) (h_MG1 (k := 37) (j := 5) (by decide) rfl (h_eqI s) h_MG0))) hi
  · exact i_sameX hct_listed_3_1_0 2 rfl rfl (show (11 : Nat) ≤ 60 by decide) (h_R trivial) hT (h_MG1 (k := 37) (j := 3) (by decide) rfl (h_eqI w) (h_MG1 (k := 37) (j := 4) (by decide) rfl (h_eqI h) (h_MG1 (k := 37) (j := 5) (by decide) rfl (h_eqI s) h_MG0))) hi
  · exact i_sameX hct_listed_3_1_1 2 rfl rfl (show (12 : Nat) ≤ 60 by decide) (h_R trivial) hT (h_MG1 (k := 37) (j := 3) (by decide) rfl (h_eqI w) (h_MG1 (k := 37) (j := 4) (by decide) rfl (h_eqI h) (h_MG1 (k := 37) (j := 5) (by decide) rfl (h_eqI s) h_MG0))) hi
  · exact i_sameX hct_listed_3_1_2 2 rfl rfl (show (12 : Nat) ≤ 60 by decide) (h_R trivial) hT (h_MG1 (k := 37) (j := 3) (by decide) rfl (h_eqI w) (h_MG1 (k := 37) (j := 4) (by decide) rfl (h_eqI h) (h_MG1 (k := 37) (j := 5) (by decide) rfl (h_eqI s) h_MG0))) hi
  · exact i_sameX hct_listed_3_2_0 2 rfl rfl (show (1 : Nat) ≤ 60 by decide) (h_R trivial) hT (h_MG1 (k := 37) (j := 3) (by decide) rfl (h_eqI w) (h_MG1 (k := 37) (j := 4) (by decide) rfl (h_eqI h) (h_MG1 (k := 37) (j := 5) (by decide) rfl (h_eqI s) h_MG0))) hi
  · exact i_sameX hct_listed_3_2_1 2 rfl rfl (show (1 : Nat) ≤ 60 by decide) (h_R trivial) hT (h_MG1 (k := 37) (j := 3) (by decide) rfl (h_eqI w) (h_MG1 (k := 37) (j := 4) (by decide) rfl (h_eqI h) (h_MG1 (k := 37) (j := 5) (by decide) rfl (h_eqI s) h_MG0))) hi
  · exact i_sameX hct_listed_3_2_2 2 rfl rfl (show (1 : Nat) ≤ 60 by decide) (h_R trivial) hT (h_MG1 (k := 37) (j := 3) (by decide) rfl (h_eqI w) (h_MG1 (k := 37) (j := 4) (by decide) rfl (h_eqI h) (h_MG1 (k := 37) (j := 5) (by decide) rfl (h_eqI s) h_MG0))) hi
  · exact i_sameX hct_listed_3_3_0 2 rfl rfl (show (1 : Nat) ≤ 60 by decide) (h_R trivial) hT (h_MG1 (k := 37) (j := 3) (by decide) rfl (h_eqI w) (h_MG1 (k := 37) (j := 4) (by decide) rfl (h_eqI h) (h_MG1 (k := 37) (j := 5) (by decide) rfl (h_eqI s) h_MG0))) hi
  · exact i_sameX hct_listed_3_3_1 2 rfl rfl (show (1 : Nat) ≤ 60 by decide) (h_R trivial) hT (h_MG1 (k := 37) (j := 3) (by decide) rfl (h_eqI w) (h_MG1 (k := 37) (j := 4) (by decide) rfl (h_eqI h) (h_MG1 (k := 37) (j := 5) (by decide) rfl (h_eqI s) h_MG0))) hi
  · exact i_sameX hct_listed_3_3_2 2 rfl rfl (show (1 : Nat) ≤ 60 by decide) (h_R trivial) hT (h_MG1 (k := 37) (j := 3) (by decide) rfl (h_eqI w) (h_MG1 (k := 37) (j := 4) (by decide) rfl (h_eqI h) (h_MG1 (k := 37) (j := 5) (by decide) rfl (h_eqI s) h_MG0))) hi
theorem m_states {nS : Nat} {M : aM} {a1 : Int32} (hT : z_MT (zTb, [], []) M) (hi : iM M)  : aC nS 60 239 [vR 36 0, vI a1] M (fun v M' => i_vT 2 v ∧ mPost (z_b (M.1 36 0 6)) M M' ∧ mSm M M') (fun _ _ => False) := i_sameX hct_states 2 rfl rfl (show (7 : Nat) ≤ 60 by decide) (h_R (h_I trivial)) hT h_MG0 hi
theorem m_mean {nS : Nat} {M : aM} {a1 : Int32} (hT : z_MT (zTb, [], []) M) (hi : iM M)  : aC nS 60 246 [vR 36 0, vI a1] M (fun v M' => i_vT 2 v ∧ mPost 2147483648 M M' ∧ mSm M M') (fun _ _ => False) := (by
    obtain ⟨q, hq, q1, q2⟩ := hi.1
    revert q1 q2
    exact i_pairs (P := fun a b => z_b (M.1 37 0 1) = a → z_b (M.1 37 0 2) = b → aC nS 60 246 [vR 36 0, vI a1] M (fun v M' => i_vT 2 v ∧ mPost 2147483648 M M' ∧ mSm M M') (fun _ _ => False)) (fun q1 q2 => i_zeroX hct_mean_0_2 2 rfl rfl (show (12 : Nat) ≤ 60 by decide) (h_R (h_I trivial)) hT (h_MG1 (k := 37) (j := 1) (by decide) rfl (h_eqI q1) (h_MG1 (k := 37) (j := 2) (by decide) rfl (h_eqI q2) h_MG0)) hi) (fun q1 q2 => i_zeroX hct_mean_0_3 2 rfl rfl (show (12 : Nat) ≤ 60 by decide) (h_R (h_I trivial)) hT (h_MG1 (k := 37) (j := 1) (by decide) rfl (h_eqI q1) (h_MG1 (k := 37) (j := 2) (by decide) rfl (h_eqI q2) h_MG0)) hi) (fun q1 q2 => i_zeroX hct_mean_0_4 2 rfl rfl (show (12 : Nat) ≤ 60 by decide) (h_R (h_I trivial)) hT (h_MG1 (k := 37) (j := 1) (by decide) rfl (h_eqI q1) (h_MG1 (k := 37) (j := 2) (by decide) rfl (h_eqI q2) h_MG0)) hi) (fun q1 q2 => i_zeroX hct_mean_0_5 2 rfl rfl (show (12 : Nat) ≤ 60 by decide) (h_R (h_I trivial)) hT (h_MG1 (k := 37) (j := 1) (by decide) rfl (h_eqI q1) (h_MG1 (k := 37) (j := 2) (by decide) rfl (h_eqI q2) h_MG0)) hi) (fun q1 q2 => i_zeroX hct_mean_0_6 2 rfl rfl (show (12 : Nat) ≤ 60 by decide) (h_R (h_I trivial)) hT (h_MG1 (k := 37) (j := 1) (by decide) rfl (h_eqI q1) (h_MG1 (k := 37) (j := 2) (by decide) rfl (h_eqI q2) h_MG0)) hi) (fun q1 q2 => i_zeroX hct_mean_0_7 2 rfl rfl (show (12 : Nat) ≤ 60 by decide) (h_R (h_I trivial)) hT (h_MG1 (k := 37) (j := 1) (by decide) rfl (h_eqI q1) (h_MG1 (k := 37) (j := 2) (by decide) rfl (h_eqI q2) h_MG0)) hi) (fun q1 q2 => i_zeroX hct_mean_0_8 2 rfl rfl (show (12 : Nat) ≤ 60 by decide) (h_R (h_I trivial)) hT (h_MG1 (k := 37) (j := 1) (by decide) rfl (h_eqI q1) (h_MG1 (k := 37) (j := 2) (by decide) rfl (h_eqI q2) h_MG0)) hi) (fun q1 q2 => i_zeroX hct_mean_1_4 2 rfl rfl (show (12 : Nat) ≤ 60 by decide) (h_R (h_I trivial)) hT (h_MG1 (k := 37) (j := 1) (by decide) rfl (h_eqI q1) (h_MG1 (k := 37) (j := 2) (by decide) rfl (h_eqI q2) h_MG0)) hi) (fun q1 q2 => i_zeroX hct_mean_1_6 2 rfl rfl (show (12 : Nat) ≤ 60 by decide) (h_R (h_I trivial)) hT (h_MG1 (k := 37) (j := 1) (by decide) rfl (h_eqI q1) (h_MG1 (k := 37) (j := 2) (by decide) rfl (h_eqI q2) h_MG0)) hi) (fun q1 q2 => i_zeroX hct_mean_1_8 2 rfl rfl (show (12 : Nat) ≤ 60 by decide) (h_R (h_I trivial)) hT (h_MG1 (k := 37) (j := 1) (by decide) rfl (h_eqI q1) (h_MG1 (k := 37) (j := 2) (by decide) rfl (h_eqI q2) h_MG0)) hi) (fun q1 q2 => i_zeroX hct_mean_2_8 2 rfl rfl (show (12 : Nat) ≤ 60 by decide) (h_R (h_I trivial)) hT (h_MG1 (k := 37) (j := 1) (by decide) rfl (h_eqI q1) (h_MG1 (k := 37) (j := 2) (by decide) rfl (h_eqI q2) h_MG0)) hi) (fun q1 q2 => i_zeroX hct_mean_3_2 2 rfl rfl (show (12 : Nat) ≤ 60 by decide) (h_R (h_I trivial)) hT (h_MG1 (k := 37) (j := 1) (by decide) rfl (h_eqI q1) (h_MG1 (k := 37) (j := 2) (by decide) rfl (h_eqI q2) h_MG0)) hi) (fun q1 q2 => i_zeroX hct_mean_3_4 2 rfl rfl (show (12 : Nat) ≤ 60 by decide) (h_R (h_I trivial)) hT (h_MG1 (k := 37) (j := 1) (by decide) rfl (h_eqI q1) (h_MG1 (k := 37) (j := 2) (by decide) rfl (h_eqI q2) h_MG0)) hi) (fun q1 q2 => i_zeroX hct_mean_3_8 2 rfl rfl (show (12 : Nat) ≤ 60 by decide) (h_R (h_I trivial)) hT (h_MG1 (k := 37) (j := 1) (by decide) rfl (h_eqI q1) (h_MG1 (k := 37) (j := 2) (by decide) rfl (h_eqI q2) h_MG0)) hi) q hq)
theorem m_body {nS : Nat} {M : aM} {a1 : Int32} {a2 : Int32} {a3 : Int32} (hT : z_MT (zTb, [], []) M) (hi : iM M)  : aC nS 60 250 [vR 36 0, vI a1, vI a2, vI a3] M (fun v M' => i_vT 2 v ∧ mPost (z_b (M.1 36 0 6)) M M' ∧ mSm M M') (fun _ _ => False) := i_sameX hct_body 2 rfl rfl (show (6 : Nat) ≤ 60 by decide) (h_R (h_I (h_I (h_I trivial)))) hT h_MG0 hi
theorem mPost_c {W : zW} {M M' : aM} (h : z_M (zTb, W, []) M [] M') (hi : iM M) (hw : (iWm W && (iFd W && !(z_w W 36 6 6))) = true) {d k : Nat} (hd : d ≤ k) (hk : k ≤ 20) (h8 : M'.1 37 0 8 = Int32.ofNat d) (h7 : M'.1 37 0 7 = Int32.ofNat k) : mPost (z_b (M.1 36 0 6)) M M' := by
  rw [Bool.and_eq_true, Bool.and_eq_true] at hw
  obtain ⟨k3, k4, k5⟩ := hw
  unfold iFd at k4
  rw [Bool.and_eq_true, Bool.and_eq_true, Bool.and_eq_true, Bool.and_eq_true, Bool.and_eq_true, Bool.and_eq_true] at k4
  obtain ⟨f1, f2, f3, f4, f5, f6, f7⟩ := k4
  have hq := h.2.1
  exact ⟨h.1, ⟨iP_eq (i_nw hq f1) (i_nw hq f2) hi.1, ⟨d, by omega, by rw [h8]; exact z_b_ofNat (by omega), by rw [h7, z_b_ofNat (by omega)]; omega⟩, iK_eq (i_nw hq f3) (i_nw hq f4) (i_nw hq f5) (i_nw hq f6) (i_nw hq f7) hi.2.2⟩, m_fr h k3, by rw [i_nw hq k5]⟩
theorem x_rd {n k : Nat} (h : n ≤ k) : (if n = k then n else n + 1) ≤ k := by
  by_cases e : n = k
  · rw [if_pos e]
    exact h
  · rw [if_neg e]
    omega
theorem hN_le (n : Nat) : hN n ≤ 20 := by
  unfold hN
  omega
theorem m_set {nS n k : Nat} {e : xB} {M : aM} {a1 a2 a3 a4 : Int32} {m : Nat} (hT : z_MT (zTb, [], []) M) (hi : iM M) (hS : SM e n k M) (b3 : a3 = 0 ∨ a3 = 1) (hm : m ≤ 1) (hz : a3 = Int32.ofNat m) : aC nS 60 218 [vR 36 0, vI a1, vI a2, vI a3, vI a4] M (fun v M' => (∃ x, v = some (vI x)) ∧ mPost (z_b (M.1 36 0 6)) M M' ∧ mHx (okL e.2.1.1 e.2.1.2.1 e.2.1.2.2 a1 a2 m ∧ okT e.1.2 a4) (Int32.ofNat (hN n)) M M') (fun _ _ => False) := by
  refine aC_post (m_setX hT hS.1 hm hz (Nat.le_trans hS.2.1 hS.2.2.1) hS.2.2.2.1) (fun v M' z => ?_) (fun _ _ z => z)
  obtain ⟨r, z⟩ := z
  rcases z with ⟨ok, -, hM, h8, h7⟩ | ⟨no, -, hM⟩
  · exact ⟨r, mPost_c hM hi rfl (Nat.le_refl _) (hN_le n) h8 h7, mHs_ok (W := [(36, 0, 0), (37, 7, 8), (37, 18, 43), (37, 50, 1009)]) rfl hM.2.1, Or.inl ⟨ok, h8, h7⟩⟩
  · exact ⟨r, mPost_same hM hi rfl, mHs_ok (W := [(36, 0, 0)]) rfl hM.2.1, Or.inr ⟨no, h_un hM rfl, h_un hM rfl⟩⟩
theorem m_frame {nS n k : Nat} {e : xB} {M : aM} {a1 a2 a3 : Int32} (hT : z_MT (zTb, [], []) M) (hi : iM M) (hS : SM e n k M)  : aC nS 60 220 [vR 36 0, vI a1, vI a2, vI a3] M (fun v M' => (∃ x, v = some (vI x)) ∧ mPost (z_b (M.1 36 0 6)) M M' ∧ mHx (xP a1 a2 e.2.1.1 e.2.1.2.1 ∧ okT e.1.2 a3) (Int32.ofNat (hN n)) M M') (fun _ _ => False) := by
  refine aC_post (m_frameX hT hS.1 (Nat.le_trans hS.2.1 hS.2.2.1) hS.2.2.2.1) (fun v M' z => ?_) (fun _ _ z => z)
  obtain ⟨r, z⟩ := z
  rcases z with ⟨ok, -, hM, h8, h7⟩ | ⟨no, -, hM⟩
  · exact ⟨r, mPost_c hM hi rfl (Nat.le_refl _) (hN_le n) h8 h7, mHs_ok (W := [(36, 0, 0), (37, 7, 8), (37, 18, 43), (37, 50, 1009)]) rfl hM.2.1, Or.inl ⟨ok, h8, h7⟩⟩
  · exact ⟨r, mPost_same hM hi rfl, mHs_ok (W := [(36, 0, 0)]) rfl hM.2.1, Or.inr ⟨no, h_un hM rfl, h_un hM rfl⟩⟩
theorem m_undo {nS n k : Nat} {e : xB} {M : aM} (hT : z_MT (zTb, [], []) M) (hi : iM M) (hS : SM e n k M) : aC nS 60 221 [vR 36 0] M (fun v M' => v = some (vI (Int32.ofNat (if n = 0 then 0 else 1))) ∧ mPost (z_b (M.1 36 0 6)) M M' ∧ mHs M M' ∧ M'.1 37 0 8 = Int32.ofNat (n - 1) ∧ M'.1 37 0 7 = Int32.ofNat k) (fun _ _ => False) := aC_post (m_undoX hT (Nat.le_trans hS.2.1 hS.2.2.1) hS.2.2.2.1) (fun v M' z => ⟨z.1, mPost_c z.2.1 hi rfl (Nat.le_trans (Nat.sub_le n 1) hS.2.1) hS.2.2.1 z.2.2 ((h_un z.2.1 rfl).trans hS.2.2.2.2), mHs_ok (W := [(36, 0, 0), (37, 18, 43), (37, 8, 8)]) rfl z.2.1.2.1, z.2.2, (h_un z.2.1 rfl).trans hS.2.2.2.2⟩) (fun _ _ z => z)
theorem m_redo {nS n k : Nat} {e : xB} {M : aM} (hT : z_MT (zTb, [], []) M) (hi : iM M) (hS : SM e n k M) : aC nS 60 222 [vR 36 0] M (fun v M' => v = some (vI (Int32.ofNat (if n = k then 0 else 1))) ∧ mPost (z_b (M.1 36 0 6)) M M' ∧ mHs M M' ∧ M'.1 37 0 8 = Int32.ofNat (if n = k then n else n + 1) ∧ M'.1 37 0 7 = Int32.ofNat k) (fun _ _ => False) := aC_post (m_redoX hT hS.2.1 hS.2.2.1 hS.2.2.2.1 hS.2.2.2.2) (fun v M' z => ⟨z.1, mPost_c z.2.1 hi rfl (x_rd hS.2.1) hS.2.2.1 z.2.2 ((h_un z.2.1 rfl).trans hS.2.2.2.2), mHs_ok (W := [(36, 0, 0), (37, 18, 43), (37, 8, 8)]) rfl z.2.1.2.1, z.2.2, (h_un z.2.1 rfl).trans hS.2.2.2.2⟩) (fun _ _ z => z)
theorem m_draw {nS n k : Nat} {e : xB} {M : aM} {a1 : Int32} (hT : z_MT (zTb, [], []) M) (hi : iM M) (hS : SM e n k M) : aC nS 60 254 [vR 36 0, vI a1] M (fun v M' => (∃ x, v = some (vL x)) ∧ mPost (z_b (M.1 36 0 6)) M M' ∧ mHx (e.2.1.2.2 = 0 ∧ 0 < e_sm M (e_w M) e.1.2) 0 M M') (fun _ _ => False) := by
  obtain ⟨ho, o2, o8, hq, -, -, -, -, s2⟩ := rB_h hS.1
  refine aC_post (e_draw hT hi) (fun v M' z => ?_) (fun _ _ z => z)
  obtain ⟨r, p, -, N, hN, eN, z⟩ := z
  have e9 : N = e.1.2 := x_inj (by omega) (by omega) (eN.symm.trans ho)
  subst e9
  have i5 : M.1 37 0 5 = 0 ↔ e.2.1.2.2 = 0 := by
    rw [hq.2.2]
    exact ⟨fun h => x_inj (y := 0) (by omega) (by decide) h, fun h => by rw [h]; rfl⟩
  rcases z with ⟨-, ⟨h5, hp⟩, hM, h7, h8⟩ | ⟨-, hno, hM⟩
  · exact ⟨r, p, mHs_ok (W := [(36, 0, 0), (37, 7, 8), (37, 18, 43)]) rfl hM.2.1, Or.inl ⟨⟨i5.mp h5, hp⟩, h8, h7⟩⟩
  · exact ⟨r, p, mHs_ok (W := [(36, 0, 0)]) rfl hM.2.1, Or.inr ⟨fun z => hno ⟨i5.mpr z.1, z.2⟩, h_un hM rfl, h_un hM rfl⟩⟩
/-- what a text of the board comes to, of the reference -/
def mBo (e : xB) (t : Nat) (v : Option aV) (M M' : aM) : Prop := (∀ j, M'.1 40 0 j = M.1 40 0 j) ∧ (∀ j, M'.1 38 0 j = M.1 38 0 j) ∧ M'.1 36 0 3 = M.1 36 0 3 ∧ ((t_read (M.1 40 0) t e = none ∧ M'.1 36 0 0 = 1 ∧ (∀ u, u < 50 → M'.1 37 0 u = M.1 37 0 u)) ∨ ((∃ e', t_read (M.1 40 0) t e = some e') ∧ M.1 37 0 0 = 12 ∧ M'.1 36 0 0 = 2 ∧ (∀ u, u < 50 → M'.1 37 0 u = M.1 37 0 u)) ∨ (∃ e', t_read (M.1 40 0) t e = some e' ∧ M.1 37 0 0 ≠ 12 ∧ M'.1 36 0 0 = 0 ∧ rB 37 M' e' ∧ M'.1 37 0 0 = M.1 37 0 0 + 1 ∧ M'.1 37 0 7 = 0 ∧ M'.1 37 0 8 = 0 ∧ v = some (vI (M.1 37 0 0 + 1))))
theorem PM_no {k i j : Nat} (h36 : ¬ (k = 36 ∧ (j = 0 ∨ (6 ≤ j ∧ j ≤ 10)))) (h37 : ¬ (k = 37 ∧ j < 50)) (h39 : ¬ k = 39) : PM k i j = false := by
  cases hq : PM k i j with
  | false => rfl
  | true =>
    exfalso
    have z : ((Nat.beq k 36 && (Nat.beq j 0 || (Nat.ble 6 j && Nat.ble j 10))) || ((Nat.beq k 37 && Nat.blt j 50) || Nat.beq k 39)) = true := hq
    simp only [Bool.or_eq_true, Bool.and_eq_true] at z
    rcases z with ⟨z1, z2⟩ | (⟨z1, z2⟩ | z1)
    · refine h36 ⟨Nat.eq_of_beq_eq_true z1, ?_⟩
      rcases z2 with z2 | ⟨z2, z3⟩
      · exact Or.inl (Nat.eq_of_beq_eq_true z2)
      · exact Or.inr ⟨Nat.le_of_ble_eq_true z2, Nat.le_of_ble_eq_true z3⟩
    · exact h37 ⟨Nat.eq_of_beq_eq_true z1, z_blt z2⟩
    · exact h39 (Nat.eq_of_beq_eq_true z1)
theorem m_board {nS n k t : Nat} {e : xB} {M : aM} (hT : z_MT (zTb, [], []) M) (hi : iM M) (hS : SM e n k M) (ht : t ≤ 400) (hs : M.1 36 0 6 = Int32.ofNat t) : aC nS 60 211 [vR 36 0] M (fun v M' => (∃ x, v = some (vI x)) ∧ mPost 2147483648 M M' ∧ mBo e t v M M') (fun _ _ => False) := by
  refine aC_post (aC_and (e_board hT hi) (r_board (nS := nS) (d := 50) hs ht hS.1)) (fun v M' z => ?_) (fun _ _ z => z.1)
  obtain ⟨⟨r, p, -⟩, hf, -, z⟩ := z
  refine ⟨r, p, fun j => hf.1 40 0 j (PM_no (by omega) (by omega) (by omega)), fun j => hf.1 38 0 j (PM_no (by omega) (by omega) (by omega)), hf.1 36 0 3 (PM_no (by omega) (by omega) (by omega)), ?_⟩
  rcases z with ⟨z1, z2, z3, -⟩ | ⟨z1, z2, z3, z4, -⟩ | z
  · exact Or.inl ⟨z1, z2, z3⟩
  · exact Or.inr (Or.inl ⟨z1, z2, z3, z4⟩)
  · exact Or.inr (Or.inr z)
theorem RX_board {t : Nat} {e : xB} {n k : Nat} {v w : Option aV} {M N1 N2 : aM} (hr : RX M) (hS : SX e n k M) (h1 : cPost 2147483648 M N1) (c : cBo e t v M N1) (h2 : mPost 2147483648 N1 N2) (m : mBo e t w N1 N2) : RX N2 ∧ ((v = some (vI 0) ∧ N2.1 36 0 0 = 0 ∧ ∃ x, w = some (vI x) ∧ N2.2 98 0 0 = x.toInt64) ∨ (v = some (vI 1) ∧ N2.1 36 0 0 = 1) ∨ (v = some (vI 2) ∧ N2.1 36 0 0 = 2)) := by
  obtain ⟨c2, cg, ck, cf, c⟩ := c
  obtain ⟨m40, m38, m3, m⟩ := m
  have row : N1.1 40 0 = M.1 2 0 := by
    funext j
    exact (R_f h1 40 j (by decide) (by decide)).trans (hr.1 j).symm
  rw [row] at m
  have g2 : cG 2 N1 := cG_fr hr.2.2.1.2 (fun q j a b => ck q j (by omega) (by omega))
  have kk : (N1.1 0 0 5 = 0 ∧ N2.1 36 0 3 = 0) ∨ (N1.1 0 0 5 = 1 ∧ N2.1 36 0 3 = 1 ∧ ∃ e, cB 2 N1 e ∧ rB 38 N2 e ∧ N1.1 4 2 4 = N2.1 38 0 0) := by
    have f3 : N2.1 36 0 3 = M.1 36 0 3 := m3.trans (R_f h1 36 3 (by decide) (by decide))
    rcases hr.2.2.2.2 with ⟨k1, k2⟩ | ⟨k1, k2, e9, e1, e2, e3⟩
    · exact Or.inl ⟨cf.trans k1, f3.trans k2⟩
    · exact Or.inr ⟨cf.trans k1, f3.trans k2, e9, cB_fr e1 (fun q j a b _ => ck q j a b), rB_fr e2 (fun j _ _ _ _ => (m38 j).trans (R_f h1 38 j (by decide) (by decide))), (ck 4 4 (by decide) (by decide)).trans (e3.trans ((R_f h1 38 0 (by decide) (by decide)).symm.trans (m38 0).symm))⟩
  have aa : ∀ j, N1.1 2 0 j = N2.1 40 0 j := fun j => (c2 j).trans ((congrFun row j).symm.trans (m40 j).symm)
  have t37 : N1.1 37 0 0 = M.1 4 0 4 := (R_f h1 37 0 (by decide) (by decide)).trans hS.2.2.1.symm
  -- nothing stays
  have same : (∀ u, u < 50 → N2.1 37 0 u = N1.1 37 0 u) → cB 0 N1 e → N1.1 4 0 4 = M.1 4 0 4 → N1.1 20 0 4 = M.1 20 0 4 → N1.1 20 0 5 = M.1 20 0 5 → RX N2 := fun hu b1 b2 b3 b4 => RX_mk h2 aa ⟨e, b1, rB_fr hS.2.1 (fun j _ hj _ _ => (hu j (by omega)).trans (R_f h1 37 j (by decide) (by decide))), b2.trans (t37.symm.trans (hu 0 (by decide)).symm)⟩ ⟨cg, g2⟩ (RX_d hr h1 b3 b4 (hu 8 (by decide)) (hu 7 (by decide))) kk
  rcases c with ⟨v0, vo, c12, e', ce, cb, ct, c4, c5⟩ | ⟨cc, cb, ct, c4, c5⟩
  · rcases m with ⟨me, -⟩ | ⟨-, m12, -⟩ | ⟨e2, me, m12, mt0, mb, mt, m7, m8, mv⟩
    · rw [ce] at me
      cases me
    · exact absurd (t37.symm.trans m12) c12
    · have ee : e' = e2 := Option.some.inj (ce.symm.trans me)
      subst ee
      refine ⟨RX_mk h2 aa ⟨e', cb, mb, ct.trans (by rw [mt, t37])⟩ ⟨cg, g2⟩ ⟨c4.trans m8.symm, c5.trans m7.symm⟩ kk, Or.inl ⟨v0, mt0, _, mv, ?_⟩⟩
      rw [(h2.2.2.1 98 0 0 (Or.inr (by decide))).2, vo, t37]
  · rcases m with ⟨me, mt0, hu⟩ | ⟨⟨e2, me⟩, m12, mt0, hu⟩ | ⟨e2, me, m12, mt0, mb, mt, m7, m8, mv⟩
    · refine ⟨same hu cb ct c4 c5, Or.inr (Or.inl ⟨?_, mt0⟩)⟩
      rcases cc with ⟨cv, -⟩ | ⟨-, -, e3, ce⟩
      · exact cv
      · rw [me] at ce
        cases ce
    · refine ⟨same hu cb ct c4 c5, Or.inr (Or.inr ⟨?_, mt0⟩)⟩
      rcases cc with ⟨-, ce⟩ | ⟨cv, -⟩
      · rw [me] at ce
        cases ce
      · exact cv
    · exfalso
      rcases cc with ⟨-, ce⟩ | ⟨-, c12, -⟩
      · rw [me] at ce
        cases ce
      · exact m12 (t37.trans c12)
theorem RX_image {t t2 : Nat} {e : xB} {n k : Nat} {M N1 N2 : aM} (hr : RX M) (hS : SX e n k M) (h1 : cPost t M N1) (hf : fr PI2 M N1) (h5 : N1.1 0 0 5 = 1) (hB : cB 2 N1 e) (ht : N1.1 4 2 4 = M.1 4 0 4) (h2 : mPost t2 N1 N2) (h3 : N2.1 36 0 3 = 1) (hM : z_M (zTb, [(36, 0, 0), (36, 3, 3), (38, 0, 1009)], []) N1 [] N2) (hu : ∀ u, u < 1010 → N2.1 38 0 u = N1.1 37 0 u) : RX N2 := by
  have f37 : ∀ j, N2.1 37 0 j = M.1 37 0 j := fun j => (hM.2.1 37 0 j rfl).1.trans (R_f h1 37 j (by decide) (by decide))
  have f38 : ∀ j, j < 1010 → N2.1 38 0 j = M.1 37 0 j := fun j hj => (hu j hj).trans (R_f h1 37 j (by decide) (by decide))
  refine RX_mk h2 (RX_a hr h1 (fun j => hf.1 2 0 j (PI2_no (by omega) (by omega))) (fun j => (hM.2.1 40 0 j rfl).1)) ⟨e, cB_fr hS.1 (fun q j a b _ => hf.1 q 0 j (PI2_no (by omega) (by omega))), rB_fr hS.2.1 (fun j _ _ _ _ => f37 j), (hf.1 4 0 4 (PI2_no (by omega) (by omega))).trans (hS.2.2.1.trans (f37 0).symm)⟩ ⟨cG_fr hr.2.2.1.1 (fun q j a b => hf.1 q 1 j (PI2_no (by omega) (by omega))), cB_G hB⟩ (RX_d hr h1 (hf.1 20 0 4 (PI2_no (by omega) (by omega))) (hf.1 20 0 5 (PI2_no (by omega) (by omega))) (hM.2.1 37 0 8 rfl).1 (hM.2.1 37 0 7 rfl).1) (Or.inr ⟨h5, h3, e, hB, ?_, ?_⟩)
  · obtain ⟨r1, r2, ⟨q1, q2, q3, q4, q5⟩, r4, r5⟩ := hS.2.1
    exact ⟨r1, r2, ⟨(f38 1 (by decide)).trans q1, (f38 2 (by decide)).trans q2, (f38 3 (by decide)).trans q3, (f38 4 (by decide)).trans q4, (f38 5 (by decide)).trans q5⟩, fun u hu8 => (f38 (10 + u) (by omega)).trans (r4 u hu8), by rw [f38 6 (by decide)]; exact r5⟩
  · exact ht.trans (hS.2.2.1.trans (f38 0 (by decide)).symm)
theorem RX_back {t t2 : Nat} {v w : Option aV} {M N1 N2 : aM} (hr : RX M) (h1 : cPost t M N1) (c : (M.1 0 0 5 = 0 ∧ v = some (vI 0) ∧ M = N1) ∨ (M.1 0 0 5 = 1 ∧ v = some (vI 1) ∧ ∃ e, rB 38 M e ∧ M.1 4 2 4 = M.1 38 0 0 ∧ fr PK0 M N1 ∧ cB 0 N1 e ∧ N1.1 4 0 4 = M.1 4 2 4 ∧ N1.1 20 0 4 = 0 ∧ N1.1 20 0 5 = 0)) (h2 : mPost t2 N1 N2) (q : N1.1 36 0 3 = 0 ∧ w = some (vI 0) ∨ ¬ N1.1 36 0 3 = 0 ∧ w = some (vI 1)) (m : (N1.1 36 0 3 = 0 ∧ z_M (zTb, [(36, 0, 0)], []) N1 [] N2) ∨ (¬ N1.1 36 0 3 = 0 ∧ z_M (zTb, [(36, 0, 0), (37, 0, 1009)], []) N1 [] N2 ∧ (∀ u, u < 1010 → u ≠ 7 → u ≠ 8 → N2.1 37 0 u = N1.1 38 0 u) ∧ N2.1 37 0 7 = 0 ∧ N2.1 37 0 8 = 0)) : RX N2 ∧ ∃ x y, v = some (vI x) ∧ w = some (vI y) ∧ x = y := by
  have k3 : N1.1 36 0 3 = M.1 36 0 3 := R_f h1 36 3 (by decide) (by decide)
  have ke : (M.1 0 0 5 = 0 ∧ M.1 36 0 3 = 0) ∨ (M.1 0 0 5 = 1 ∧ M.1 36 0 3 = 1) := by
    rcases hr.2.2.2.2 with ⟨k1, k2⟩ | ⟨k1, k2, -⟩
    · exact Or.inl ⟨k1, k2⟩
    · exact Or.inr ⟨k1, k2⟩
  rw [k3] at q m
  rcases c with ⟨c0, cv, cM⟩ | ⟨c1, cv, e, ce, ct, hf, cb, ct2, c4, c5⟩
  · have z0 : M.1 36 0 3 = 0 := by
      rcases ke with ⟨-, z⟩ | ⟨z, -⟩
      · exact z
      · exact absurd (c0.symm.trans z) (by decide)
    subst cM
    rcases m with ⟨-, hM⟩ | ⟨m, -⟩
    · rcases q with ⟨-, qv⟩ | ⟨q, -⟩
      · exact ⟨RX_same hr h1 ⟨⟨fun _ => rfl, fun _ _ _ _ _ _ => rfl, rfl⟩, rfl, rfl⟩ h2 (mSm_ok (W := [(36, 0, 0)]) rfl hM.2.1), _, _, cv, qv, rfl⟩
      · exact absurd z0 q
    · exact absurd z0 m
  · have z1 : ¬ M.1 36 0 3 = 0 := by
      rcases ke with ⟨z, -⟩ | ⟨-, z⟩
      · exact absurd (z.symm.trans c1) (by decide)
      · rw [z]
        decide
    rcases m with ⟨m, -⟩ | ⟨-, hM, hu, m7, m8⟩
    · exact absurd m z1
    · rcases q with ⟨q, -⟩ | ⟨-, qv⟩
      · exact absurd q z1
      · have f : ∀ j, j < 1010 → j ≠ 7 → j ≠ 8 → N2.1 37 0 j = M.1 38 0 j := fun j a b c => (hu j a b c).trans (R_f h1 38 j (by decide) (by decide))
        refine ⟨RX_mk h2 (RX_a hr h1 (fun j => hf.1 2 0 j (PK0_no (by omega) (by omega))) (fun j => (hM.2.1 40 0 j rfl).1)) ⟨e, cb, ?_, ct2.trans (ct.trans (f 0 (by decide) (by decide) (by decide)).symm)⟩ ⟨cG_fr hr.2.2.1.1 (fun q j a b => hf.1 q 1 j (PK0_no (by omega) (by omega))), cG_fr hr.2.2.1.2 (fun q j a b => hf.1 q 2 j (PK0_no (by omega) (by omega)))⟩ ⟨c4.trans m8.symm, c5.trans m7.symm⟩ ?_, _, _, cv, qv, rfl⟩
        · obtain ⟨r1, r2, ⟨q1, q2, q3, q4, q5⟩, r4, r5⟩ := ce
          exact ⟨r1, r2, ⟨(f 1 (by decide) (by decide) (by decide)).trans q1, (f 2 (by decide) (by decide) (by decide)).trans q2, (f 3 (by decide) (by decide) (by decide)).trans q3, (f 4 (by decide) (by decide) (by decide)).trans q4, (f 5 (by decide) (by decide) (by decide)).trans q5⟩, fun u hu8 => (f (10 + u) (by omega) (by omega) (by omega)).trans (r4 u hu8), by rw [f 6 (by decide) (by decide) (by decide)]; exact r5⟩
        · have cc5 : N1.1 0 0 5 = M.1 0 0 5 := hf.1 0 0 5 (PK0_no (by omega) (by omega))
          have m33 : N2.1 36 0 3 = N1.1 36 0 3 := (hM.2.1 36 0 3 rfl).1
          have m38 : ∀ j, N2.1 38 0 j = M.1 38 0 j := fun j => (hM.2.1 38 0 j rfl).1.trans (R_f h1 38 j (by decide) (by decide))
          rcases hr.2.2.2.2 with ⟨k1, k2⟩ | ⟨k1, k2, e9, e1, e2, e3⟩
          · exact absurd k2 z1
          · exact Or.inr ⟨cc5.trans k1, m33.trans (k3.trans k2), e9, cB_fr e1 (fun q j a b _ => hf.1 q 2 j (PK0_no (by omega) (by omega))), rB_fr e2 (fun j _ _ _ _ => m38 j), (hf.1 4 2 4 (PK0_no (by omega) (by omega))).trans (e3.trans (m38 0).symm)⟩
theorem RX_tape {t t2 : Nat} {M N1 N2 : aM} (hr : RX M) (h1 : cPost t M N1) (hC : z_M (zTb, [(1, 1, 1), (2, 0, 399)], []) M [] N1) (h2 : mPost t2 N1 N2) (m : mB N1 N2) (m8 : N2.1 37 0 8 = N1.1 37 0 8) (m7 : N2.1 37 0 7 = N1.1 37 0 7) (m3 : N2.1 36 0 3 = N1.1 36 0 3) (m38 : ∀ j, N2.1 38 0 j = N1.1 38 0 j) (a : ∀ j, N1.1 2 0 j = N2.1 40 0 j) : RX N2 := by
  have cb : cBd M N1 := uB_ok (W := [(1, 1, 1), (2, 0, 399)]) rfl hC.2.1
  exact RX_mk h2 a (RX_b hr h1 cb m) (RX_c hr cb) (RX_d hr h1 (h_un hC rfl) (h_un hC rfl) m8 m7) (RX_k hr h1 cb (h_un hC rfl) m3 m38)
/-- what holds at the begin of each round of the law's loop -/
def iN0 (M : aM) : Prop := z_MT (zTb, [], []) M ∧ iM M ∧ z_b (M.1 1 0 1) = z_b (M.1 36 0 6)
def iN (M : aM) : Prop := iN0 M ∧ RX M
theorem iM_c {t : Nat} {M M1 : aM} (h : cPost t M M1) (hi : iM M) : iM M1 := by
  have e : ∀ k j, 35 < k → k ≠ 98 → M1.1 k 0 j = M.1 k 0 j := fun k j h1 h2 => (h.2.1 k 0 j h1 h2).1
  obtain ⟨a, ⟨d, b1, b2, b3⟩, c⟩ := hi
  exact ⟨iP_eq (e 37 1 (by decide) (by decide)) (e 37 2 (by decide) (by decide)) a, ⟨d, b1, by rw [e 37 8 (by decide) (by decide)]; exact b2, by rw [e 37 7 (by decide) (by decide)]; exact b3⟩, iK_eq (e 36 3 (by decide) (by decide)) (e 38 1 (by decide) (by decide)) (e 38 2 (by decide) (by decide)) (e 38 3 (by decide) (by decide)) (e 38 4 (by decide) (by decide)) c⟩
theorem iN_2 {t t2 : Nat} {M M1 M2 : aM} (h1 : cPost t M M1) (h2 : mPost t2 M1 M2) (h : t = t2) : iN0 M2 := ⟨h2.1, h2.2.1, by rw [(h2.2.2.1 1 0 1 (Or.inl (by decide))).1, h1.2.2, h2.2.2.2, h]⟩
theorem iN_s {M M1 M2 : aM} (hn : iN0 M) (h1 : cPost (z_b (M.1 1 0 1)) M M1) (h2 : mPost (z_b (M1.1 36 0 6)) M1 M2) : iN0 M2 := iN_2 h1 h2 (by rw [(h1.2.1 36 0 6 (by decide) (by decide)).1]; exact hn.2.2)
theorem i_sc {a k nS : Nat} (h : a + 6 ≤ nS) (hn : nS ≤ 3072) (hk : k < 6) : vp_in (Int32.ofNat a + Int32.ofNat k) nS := by
  rw [hI_ad]
  exact i_vp (by omega) (by omega)
theorem i_le {L : aL} {x y z : Option aV} {q : aV} {r0 r1 r2 r3 : aV} : a_le [some r0, some r1, some r2, some r3, some q, none, none, none] [some r0, some r1, some r2, some r3, some q, x, y, z] := a_le_s (a_le_s (a_le_s (a_le_s (a_le_s (a_le_n (a_le_n (a_le_n a_le_z)))))))
theorem e_fd_eq {s : Nat} {v w : Option aV} {s1 s2 : Nat} (h1 : e_fd s v s1) (h2 : e_fd s w s2) : s1 = s2 ∧ ∃ x y, v = some (vI x) ∧ w = some (vI y) ∧ x = y := by
  rcases h1 with ⟨a, b, c⟩ | ⟨a, ⟨x, b, e⟩, c⟩
  · rcases h2 with ⟨a2, b2, c2⟩ | ⟨a2, b2, c2⟩
    · exact ⟨by omega, _, _, b, b2, rfl⟩
    · omega
  · rcases h2 with ⟨a2, b2, c2⟩ | ⟨a2, ⟨y, b2, e2⟩, c2⟩
    · omega
    · exact ⟨by omega, x, y, b, b2, z_b_inj (by omega)⟩
theorem e_ed_eq {n : Int32} {s : Nat} {v w : Option aV} {s1 s2 : Nat} (h1 : e_ed n s v s1) (h2 : e_ed n s w s2) : s1 = s2 ∧ ∃ x y, v = some (vI x) ∧ w = some (vI y) ∧ x = y := by
  rcases h1 with ⟨a, a1, b, c⟩ | ⟨a, b, c⟩
  · rcases h2 with ⟨a2, a3, b2, c2⟩ | ⟨a2, b2, c2⟩
    · exact ⟨by omega, _, _, b, b2, rfl⟩
    · exact absurd ⟨a, a1⟩ a2
  · rcases h2 with ⟨a2, a3, b2, c2⟩ | ⟨a2, b2, c2⟩
    · exact absurd ⟨a2, a3⟩ a
    · exact ⟨by omega, _, _, b, b2, rfl⟩
theorem i_tp {M : aM} (h : iN0 M) : ∃ t : Nat, t ≤ 400 ∧ M.1 1 0 1 = Int32.ofNat t ∧ M.1 36 0 6 = Int32.ofNat t := by
  obtain ⟨t, ht, e⟩ := x_rng (m := 400) (by decide) (h_TR (T := zTb) (k := 1) (i := 0) (j := 1) h.1)
  exact ⟨t, ht, e, (z_b_inj h.2.2).symm.trans e⟩
theorem e_fd_i {s : Nat} {v : Option aV} {s1 : Nat} (h : e_fd s v s1) : ∃ x, v = some (vI x) := by
  unfold e_fd at h
  rcases h with h | ⟨-, ⟨x, h, -⟩, -⟩
  · exact ⟨_, h.2.1⟩
  · exact ⟨_, h⟩
theorem e_ed_i {n : Int32} {s : Nat} {v : Option aV} {s1 : Nat} (h : e_ed n s v s1) : ∃ x, v = some (vI x) := by
  unfold e_ed at h
  rcases h with h | h
  · exact ⟨_, h.2.2.1⟩
  · exact ⟨_, h.2.1⟩
theorem x_lgc (x : Int64) : lg_cmp x x = 0 := by
  first
    | simp [lg_cmp]
    | (unfold lg_cmp; rw [if_neg (fun h => Int64.lt_irrefl h), if_pos rfl])
theorem x_rows {n : Nat} {w : Nat → Int32} {r r2 a b : Nat → Int32} (h1 : (n + 20 ≤ 400 ∧ ∀ j, a j = fdr r n 20 w j) ∨ (400 < n + 20 ∧ ∀ j, a j = r j)) (h2 : (n + 20 ≤ 400 ∧ ∀ j, b j = fdr r2 n 20 w j) ∨ (400 < n + 20 ∧ ∀ j, b j = r2 j)) (h : ∀ j, r j = r2 j) : ∀ j, a j = b j := by
  have e : r = r2 := funext h
  subst e
  intro j
  rcases h1 with ⟨a1, a2⟩ | ⟨a1, a2⟩
  · rcases h2 with ⟨b1, b2⟩ | ⟨b1, b2⟩
    · exact (a2 j).trans (b2 j).symm
    · omega
  · rcases h2 with ⟨b1, b2⟩ | ⟨b1, b2⟩
    · omega
    · exact (a2 j).trans (b2 j).symm
theorem x_dr {t : Nat} {e : xB} {n k : Nat} {M N : aM} (h : cPost t M N) (hS : SM e n k N) : e_sm N (e_w N) e.1.2 = e_sm M (e_w M) e.1.2 := by
  have o8 := (rB_h hS.1).2.2.1
  have key : ∀ q, q ≤ 8 → e_sm N (e_w N) q = e_sm M (e_w M) q := by
    intro q
    induction q with
    | zero =>
      intro _
      rw [show e_sm N (e_w N) 0 = 0 from rfl, show e_sm M (e_w M) 0 = 0 from rfl]
    | succ q ih =>
      intro hq
      have ew : e_w N q = e_w M q := by
        unfold e_w
        rw [if_pos (show q < 8 by omega), if_pos (show q < 8 by omega), R_f h 37 (10 + q) (by decide) (by decide)]
      rw [show e_sm N (e_w N) (q + 1) = e_sm N (e_w N) q + e_w N q from rfl, show e_sm M (e_w M) (q + 1) = e_sm M (e_w M) q + e_w M q from rfl, ih (by omega), ew]
  exact key _ o8
