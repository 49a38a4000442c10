theorem aCW_post {nS d w : Nat} {as : List aV} {M : aM} {post post' : Option aV → aM → Prop} (h : aCW nS d w as M post) (hp : ∀ v M, post v M → post' v M) : aCW nS d w as M post' := by
  unfold aCW at h ⊢
  cases hm : a_wt[w]? with
  | none => rw [hm] at h; exact False.elim h
  | some mm =>
    obtain ⟨nm, b, nL, hh, na, ps, cd⟩ := mm
    rw [hm] at h
    exact ⟨h.1, fun K1 K2 h1 h2 h3 => h.2 K1 K2 (fun pc L S M z => h1 pc L S M (a_wp_post hp (fun _ _ z => z) z)) (fun pc L S M z => h2 pc L S M (a_wp_post hp (fun _ _ z => z) z)) h3⟩
theorem w_use {c : zCt} (hc : z_wtH zTb 60 c) {g : zG} (h1 : c.2.2.1 = []) (h3 : c.2.2.2.2.1 = [.inl (some (.inl (2147483648, 2147483651)), g)]) {nS : Nat} {as : List aV} {M : aM} (hS : z_S c.2.1 as) (hT : z_MT (zTb, [], []) M) : aCW nS 60 c.1 as M (fun v M' => (∃ x, v = some (vI x)) ∧ z_M (zTb, c.2.2.2.1, []) M g M') := by
  refine aCW_post (hc nS as M hS hT (by rw [h1]; exact h_MG0)) (fun v M' hv => ?_)
  rw [h3] at hv
  obtain ⟨v', g', h4, h5, h6⟩ := hv
  have h4 := List.mem_singleton.mp h4
  cases h4
  obtain ⟨x, hx, -⟩ := h_ovI h5
  exact ⟨⟨x, hx⟩, h6⟩
theorem w_useX {c : zCt} (hc : z_wtH zTb 60 c) {g : zG} (h1 : c.2.2.1 = []) (h3 : c.2.2.2.2.1 = [.inl (some (.inl (2147483648, 2147483651)), g)]) (hs : cS1 c.2.2.2.1 = true) {nS : Nat} {as : List aV} {M : aM} (hS : z_S c.2.1 as) (hT : z_MT (zTb, [], []) M) : aCW nS 60 c.1 as M (fun v M' => (∃ x, v = some (vI x)) ∧ z_M (zTb, c.2.2.2.1, []) M g M' ∧ cSm M M') := aCW_post (w_use hc h1 h3 hS hT) (fun v M' z => ⟨z.1, z.2, cSm_ok hs z.2.2.1⟩)
def cw_by : zCt := (1, [.inr (.inr (0, 0)), .inl (0, 4294967295), .inl (0, 4294967295), .inr (.inr (98, 0))], [], [(98, 0, 0)], [.inl (some (.inl (2147483648, 2147483651)), [])], 60)
theorem hcw_by : z_wtH zTb 60 cw_by := z_wt_ok [] [ct_X10_by_0] 60 (List.forall_mem_cons.mpr ⟨hct_X10_by_0, fun _ h => absurd h List.not_mem_nil⟩) (by decide +kernel)
theorem w_by {nS : Nat} {M : aM} {a1 : Int32} {a2 : Int32} (hT : z_MT (zTb, [], []) M)  : aCW nS 60 1 [vR 0 0, vI a1, vI a2, vR 98 0] M (fun v M' => (∃ x, v = some (vI x)) ∧ cPost (z_b (M.1 1 0 1)) M M' ∧ cSm M M') := aCW_post (w_useX hcw_by rfl rfl rfl (h_R (h_I (h_I (h_R trivial)))) hT) (fun v M' z => ⟨z.1, cPost_same z.2.1 rfl, z.2.2⟩)
def cw_turn : zCt := (2, [.inr (.inr (0, 0)), .inl (0, 4294967295), .inl (0, 4294967295), .inr (.inr (98, 0))], [], [(98, 0, 0)], [.inl (some (.inl (2147483648, 2147483651)), [])], 60)
theorem hcw_turn : z_wtH zTb 60 cw_turn := z_wt_ok [] [ct_X10_turn_0] 60 (List.forall_mem_cons.mpr ⟨hct_X10_turn_0, fun _ h => absurd h List.not_mem_nil⟩) (by decide +kernel)
theorem w_turn {nS : Nat} {M : aM} {a1 : Int32} {a2 : Int32} (hT : z_MT (zTb, [], []) M)  : aCW nS 60 2 [vR 0 0, vI a1, vI a2, vR 98 0] M (fun v M' => (∃ x, v = some (vI x)) ∧ cPost (z_b (M.1 1 0 1)) M M' ∧ cSm M M') := aCW_post (w_useX hcw_turn rfl rfl rfl (h_R (h_I (h_I (h_R trivial)))) hT) (fun v M' z => ⟨z.1, cPost_same z.2.1 rfl, z.2.2⟩)
def cw_line : zCt := (3, [.inr (.inr (0, 0)), .inl (0, 4294967295), .inl (0, 4294967295), .inl (2147483648, 2147483649), .inr (.inr (98, 0))], [], [(98, 0, 0)], [.inl (some (.inl (2147483648, 2147483651)), [])], 60)
theorem hcw_line : z_wtH zTb 60 cw_line := z_wt_ok [] [ct_X10_line_0] 60 (List.forall_mem_cons.mpr ⟨hct_X10_line_0, fun _ h => absurd h List.not_mem_nil⟩) (by decide +kernel)
theorem w_line {nS : Nat} {M : aM} {a1 : Int32} {a2 : Int32} {a3 : Int32} (hT : z_MT (zTb, [], []) M) (b3 : a3 = 0 ∨ a3 = 1) : aCW nS 60 3 [vR 0 0, vI a1, vI a2, vI a3, vR 98 0] M (fun v M' => (∃ x, v = some (vI x)) ∧ cPost (z_b (M.1 1 0 1)) M M' ∧ cSm M M') := aCW_post (w_useX hcw_line rfl rfl rfl (h_R (h_I (h_I (h_Iv (h_bo b3) (h_R trivial))))) hT) (fun v M' z => ⟨z.1, cPost_same z.2.1 rfl, z.2.2⟩)
def cw_round : zCt := (5, [.inr (.inr (0, 0)), .inl (0, 4294967295), .inl (0, 4294967295), .inr (.inr (98, 0))], [], [(98, 0, 0)], [.inl (some (.inl (2147483648, 2147483651)), [])], 60)
theorem hcw_round : z_wtH zTb 60 cw_round := z_wt_ok [] [ct_X10_round_0] 60 (List.forall_mem_cons.mpr ⟨hct_X10_round_0, fun _ h => absurd h List.not_mem_nil⟩) (by decide +kernel)
theorem w_round {nS : Nat} {M : aM} {a1 : Int32} {a2 : Int32} (hT : z_MT (zTb, [], []) M)  : aCW nS 60 5 [vR 0 0, vI a1, vI a2, vR 98 0] M (fun v M' => (∃ x, v = some (vI x)) ∧ cPost (z_b (M.1 1 0 1)) M M' ∧ cSm M M') := aCW_post (w_useX hcw_round rfl rfl rfl (h_R (h_I (h_I (h_R trivial)))) hT) (fun v M' z => ⟨z.1, cPost_same z.2.1 rfl, z.2.2⟩)
def cw_walk : zCt := (7, [.inr (.inr (0, 0)), .inl (0, 4294967295), .inr (.inr (98, 0))], [], [(1, 1, 1), (3, 1, 5), (17, 2, 6), (18, 0, 15), (19, 0, 15), (98, 0, 0)], [.inl (some (.inl (2147483648, 2147483651)), [(16385, (2147483648, 2147483648))])], 60)
theorem hcw_walk : z_wtH zTb 60 cw_walk := z_wt_ok [] [ct_X10_walk_0] 60 (List.forall_mem_cons.mpr ⟨hct_X10_walk_0, fun _ h => absurd h List.not_mem_nil⟩) (by decide +kernel)
theorem w_walk {nS : Nat} {M : aM} {a1 : Int32} (hT : z_MT (zTb, [], []) M)  : aCW nS 60 7 [vR 0 0, vI a1, vR 98 0] M (fun v M' => (∃ x, v = some (vI x)) ∧ cPost 2147483648 M M' ∧ cSm M M') := aCW_post (w_useX hcw_walk rfl rfl rfl (h_R (h_I (h_R trivial))) hT) (fun v M' z => ⟨z.1, cPost_zero z.2.1 rfl rfl, z.2.2⟩)
def cw_alike : zCt := (8, [.inr (.inr (0, 0)), .inr (.inr (98, 0))], [], [(15, 0, 15), (98, 0, 0)], [.inl (some (.inl (2147483648, 2147483651)), [])], 60)
theorem hcw_alike : z_wtH zTb 60 cw_alike := z_wt_ok [] [ct_X10_alike_0] 60 (List.forall_mem_cons.mpr ⟨hct_X10_alike_0, fun _ h => absurd h List.not_mem_nil⟩) (by decide +kernel)
theorem w_alike {nS : Nat} {M : aM}  (hT : z_MT (zTb, [], []) M)  : aCW nS 60 8 [vR 0 0, vR 98 0] M (fun v M' => (∃ x, v = some (vI x)) ∧ cPost (z_b (M.1 1 0 1)) M M' ∧ cSm M M') := aCW_post (w_useX hcw_alike rfl rfl rfl (h_R (h_R trivial)) hT) (fun v M' z => ⟨z.1, cPost_same z.2.1 rfl, z.2.2⟩)
def cw_listed : zCt := (9, [.inr (.inr (0, 0)), .inr (.inr (98, 0))], [], [(28, 2, 3), (29, 0, 31), (30, 0, 31), (31, 0, 31), (32, 0, 15), (33, 0, 3), (34, 0, 31), (35, 0, 32), (98, 0, 0)], [.inl (some (.inl (2147483648, 2147483651)), [])], 60)
theorem hcw_listed : z_wtH zTb 60 cw_listed := z_wt_ok [] [ct_X10_listed_0] 60 (List.forall_mem_cons.mpr ⟨hct_X10_listed_0, fun _ h => absurd h List.not_mem_nil⟩) (by decide +kernel)
theorem w_listed {nS : Nat} {M : aM}  (hT : z_MT (zTb, [], []) M)  : aCW nS 60 9 [vR 0 0, vR 98 0] M (fun v M' => (∃ x, v = some (vI x)) ∧ cPost (z_b (M.1 1 0 1)) M M' ∧ cSm M M') := aCW_post (w_useX hcw_listed rfl rfl rfl (h_R (h_R trivial)) hT) (fun v M' z => ⟨z.1, cPost_same z.2.1 rfl, z.2.2⟩)
def cw_mean : zCt := (10, [.inr (.inr (0, 0)), .inl (0, 4294967295), .inr (.inr (98, 0))], [], [(1, 1, 1), (3, 1, 5), (17, 2, 6), (18, 0, 15), (19, 0, 15), (25, 0, 7), (26, 0, 7), (27, 0, 7), (98, 0, 0)], [.inl (some (.inl (2147483648, 2147483651)), [(16385, (2147483648, 2147483648))])], 60)
theorem hcw_mean : z_wtH zTb 60 cw_mean := z_wt_ok [] [ct_X10_mean_0] 60 (List.forall_mem_cons.mpr ⟨hct_X10_mean_0, fun _ h => absurd h List.not_mem_nil⟩) (by decide +kernel)
theorem w_mean {nS : Nat} {M : aM} {a1 : Int32} (hT : z_MT (zTb, [], []) M)  : aCW nS 60 10 [vR 0 0, vI a1, vR 98 0] M (fun v M' => (∃ x, v = some (vI x)) ∧ cPost 2147483648 M M' ∧ cSm M M') := aCW_post (w_useX hcw_mean rfl rfl rfl (h_R (h_I (h_R trivial))) hT) (fun v M' z => ⟨z.1, cPost_zero z.2.1 rfl rfl, z.2.2⟩)
def cw_body : zCt := (11, [.inr (.inr (0, 0)), .inl (0, 4294967295), .inl (0, 4294967295), .inl (0, 4294967295), .inr (.inr (98, 0))], [], [(25, 0, 7), (26, 0, 7), (27, 0, 7), (98, 0, 0)], [.inl (some (.inl (2147483648, 2147483651)), [])], 60)
theorem hcw_body : z_wtH zTb 60 cw_body := z_wt_ok [] [ct_X10_body_0] 60 (List.forall_mem_cons.mpr ⟨hct_X10_body_0, fun _ h => absurd h List.not_mem_nil⟩) (by decide +kernel)
theorem w_body {nS : Nat} {M : aM} {a1 : Int32} {a2 : Int32} {a3 : Int32} (hT : z_MT (zTb, [], []) M)  : aCW nS 60 11 [vR 0 0, vI a1, vI a2, vI a3, vR 98 0] M (fun v M' => (∃ x, v = some (vI x)) ∧ cPost (z_b (M.1 1 0 1)) M M' ∧ cSm M M') := aCW_post (w_useX hcw_body rfl rfl rfl (h_R (h_I (h_I (h_I (h_R trivial))))) hT) (fun v M' z => ⟨z.1, cPost_same z.2.1 rfl, z.2.2⟩)
def cw_dual : zCt := (12, [.inr (.inr (0, 0)), .inl (0, 4294967295), .inr (.inr (98, 0))], [], [(98, 0, 0)], [.inl (some (.inl (2147483648, 2147483651)), [])], 60)
theorem hcw_dual : z_wtH zTb 60 cw_dual := z_wt_ok [] [ct_X10_dual_0] 60 (List.forall_mem_cons.mpr ⟨hct_X10_dual_0, fun _ h => absurd h List.not_mem_nil⟩) (by decide +kernel)
theorem w_dual {nS : Nat} {M : aM} {a1 : Int32} (hT : z_MT (zTb, [], []) M)  : aCW nS 60 12 [vR 0 0, vI a1, vR 98 0] M (fun v M' => (∃ x, v = some (vI x)) ∧ cPost (z_b (M.1 1 0 1)) M M' ∧ cSm M M') := aCW_post (w_useX hcw_dual rfl rfl rfl (h_R (h_I (h_R trivial))) hT) (fun v M' z => ⟨z.1, cPost_same z.2.1 rfl, z.2.2⟩)
def cw_dualSum : zCt := (13, [.inr (.inr (0, 0)), .inr (.inr (98, 0))], [], [(98, 0, 0)], [.inl (some (.inl (2147483648, 2147483651)), [])], 60)
theorem hcw_dualSum : z_wtH zTb 60 cw_dualSum := z_wt_ok [] [ct_X10_dualSum_0] 60 (List.forall_mem_cons.mpr ⟨hct_X10_dualSum_0, fun _ h => absurd h List.not_mem_nil⟩) (by decide +kernel)
theorem w_dualSum {nS : Nat} {M : aM}  (hT : z_MT (zTb, [], []) M)  : aCW nS 60 13 [vR 0 0, vR 98 0] M (fun v M' => (∃ x, v = some (vI x)) ∧ cPost (z_b (M.1 1 0 1)) M M' ∧ cSm M M') := aCW_post (w_useX hcw_dualSum rfl rfl rfl (h_R (h_R trivial)) hT) (fun v M' z => ⟨z.1, cPost_same z.2.1 rfl, z.2.2⟩)
theorem cHs_L {M M1 : aM} {x : Int64} (h : cHs M M1) : cHs M (a_pL M1 98 0 0 x) := h
theorem a_pLs {M : aM} {k i j : Nat} {x : Int64} : (a_pL M k i j x).2 k i j = x := if_pos ⟨rfl, rfl, rfl⟩
/-- P: the call goes through; v: how many changes can be undone then -/
def cHx (P : Prop) (v : Int32) (M M' : aM) : Prop := cHs M M' ∧ ((P ∧ M'.1 20 0 4 = v ∧ M'.1 20 0 5 = v) ∨ (¬ P ∧ M'.1 20 0 4 = M.1 20 0 4 ∧ M'.1 20 0 5 = M.1 20 0 5))
def mHx (P : Prop) (v : Int32) (M M' : aM) : Prop := mHs M M' ∧ ((P ∧ M'.1 37 0 8 = v ∧ M'.1 37 0 7 = v) ∨ (¬ P ∧ M'.1 37 0 8 = M.1 37 0 8 ∧ M'.1 37 0 7 = M.1 37 0 7))
theorem RX_hx {t t2 : Nat} {M N1 N2 : aM} {P : Prop} {v : Int32} (hr : RX M) (h1 : cPost t M N1) (c : cHx P v M N1) (h2 : mPost t2 N1 N2) (m : mHx P v N1 N2) : RX N2 := by
  refine RX_hist hr h1 c.1 h2 m.1 ?_
  rcases c.2 with ⟨p, c4, c5⟩ | ⟨p, c4, c5⟩
  · rcases m.2 with ⟨p2, m8, m7⟩ | ⟨p2, m8, m7⟩
    · exact ⟨c4.trans m8.symm, c5.trans m7.symm⟩
    · exact absurd p p2
  · rcases m.2 with ⟨p2, m8, m7⟩ | ⟨p2, m8, m7⟩
    · exact absurd p2 p
    · exact RX_d hr h1 c4 c5 m8 m7
/-- what both sides hold between calls, by name -/
def SX (e : xB) (n k : Nat) (M : aM) : Prop := cB 0 M e ∧ rB 37 M e ∧ M.1 4 0 4 = M.1 37 0 0 ∧ n ≤ k ∧ k ≤ 20 ∧ M.1 20 0 4 = Int32.ofNat n ∧ M.1 20 0 5 = Int32.ofNat k ∧ M.1 37 0 8 = Int32.ofNat n ∧ M.1 37 0 7 = Int32.ofNat k
theorem RX_S {M : aM} (hr : RX M) (hi : iM M) (hT : z_MT (zTb, [], []) M) : ∃ e n k, SX e n k M := by
  obtain ⟨e, e1, e2, e3⟩ := hr.2.1
  obtain ⟨n, k, h1, h2, h3, h4, h5, h6⟩ := RX_n hr hi hT
  exact ⟨e, n, k, e1, e2, e3, h1, h2, h3, h4, h5, h6⟩
def SM (e : xB) (n k : Nat) (M : aM) : Prop := rB 37 M e ∧ n ≤ k ∧ k ≤ 20 ∧ M.1 37 0 8 = Int32.ofNat n ∧ M.1 37 0 7 = Int32.ofNat k
theorem SX_m {t n k : Nat} {e : xB} {M N : aM} (h : SX e n k M) (h1 : cPost t M N) : SM e n k N := ⟨rB_fr h.2.1 (fun j _ _ _ _ => R_f h1 37 j (by decide) (by decide)), h.2.2.2.1, h.2.2.2.2.1, (R_f h1 37 8 (by decide) (by decide)).trans h.2.2.2.2.2.2.2.1, (R_f h1 37 7 (by decide) (by decide)).trans h.2.2.2.2.2.2.2.2⟩
theorem SX_w {n k : Nat} {e : xB} {M : aM} (h : SX e n k M) : ∀ t, t < 8 → M.1 13 0 t = M.1 37 0 (10 + t) := fun t ht => (h.1.2.2.2.1 t ht).trans (h.2.1.2.2.2.1 t ht).symm
theorem x_bn {a : Int32} (h : a = 0 ∨ a = 1) : ∃ m : Nat, m ≤ 1 ∧ a = Int32.ofNat m := by
  rcases h with h | h
  · exact ⟨0, by decide, h⟩
  · exact ⟨1, by decide, h⟩
/-- what weights are -/
theorem SX_wOK {e : xB} {n k : Nat} {M : aM} (hT : z_MT (zTb, [], []) M) (h : SX e n k M) : wOK e := fun t ht => by
  obtain ⟨u, hu, eu⟩ := x_rng (m := 9) (by decide) (show z_i (2147483648, 2147483657) (M.1 37 0 (10 + t)) from hT (37, 10, 17, (2147483648, 2147483657)) (by decide +kernel) 0 (10 + t) (by decide) (Nat.le_add_right 10 t) (show 10 + t ≤ 17 by omega))
  have e9 : e.2.2.1 t = Int32.ofNat u := (h.2.1.2.2.2.1 t ht).symm.trans eu
  have e8 : dV e t = u := by
    show xn (e.2.2.1 t) = u
    rw [e9]
    exact x_cl rfl (by omega)
  rw [e8]
  exact ⟨e9, hu⟩
theorem SX_lO {e : xB} {n k : Nat} {S : Nat → Nat → Int32} {M : aM} (h : SX e n k M) (hh : hH e.1.1 e.1.2 e.2.1.1 e.2.1.2.1 e.2.1.2.2 n k S M) : lO e.2.1.1 e.2.1.2.1 e.2.1.2.2 e.1.2 e.2.2.2.2 ∧ LL 37 M e := by
  have ee : ∀ l, l < 32 → hl e.2.1.1 e.2.1.2.1 e.2.1.2.2 l = true → e.2.2.2.2 l = S n l := fun l p q => (h.1.2.2.2.2.2 l p).symm.trans (hh.2.1 l p q)
  have o9 : lO e.2.1.1 e.2.1.2.1 e.2.1.2.2 e.1.2 e.2.2.2.2 := fun l p q => by
    rw [ee l p q]
    exact hh.1 n h.2.2.2.1 l p q
  exact ⟨o9, fun l p q => (hh.2.2.1 l p q).trans (ee l p q).symm, o9⟩
theorem SX_ll {t n k : Nat} {e : xB} {S : Nat → Nat → Int32} {M N : aM} (h : SX e n k M) (hh : hH e.1.1 e.1.2 e.2.1.1 e.2.1.2.1 e.2.1.2.2 n k S M) (h1 : cPost t M N) : LL 37 N e := LL_f h.2.1.2.1 (SX_lO h hh).2 (fun u _ => R_f h1 37 (20 + u) (by decide) (by decide))
/-- the image with its lines -/
def RI (M : aM) : Prop := M.1 0 0 5 = 1 → ∃ e, cB 2 M e ∧ rB 38 M e ∧ LL 38 M e ∧ xE e
def yC_set (e : xB) (n : Nat) (a1 a2 : Int32) (m : Nat) (t : Int32) (v : Option aV) (M M' : aM) : Prop := (∃ a b u, a ≤ e.2.1.1 ∧ b ≤ e.2.1.2.1 ∧ u < e.1.2 ∧ a1 = Int32.ofNat a ∧ a2 = Int32.ofNat b ∧ t = Int32.ofNat u ∧ xlv e.2.1.1 e.2.1.2.1 e.2.1.2.2 a b m = true ∧ v = some (vI 0) ∧ M'.2 98 0 0 = (e.2.2.2.2 (xln e.2.1.1 e.2.1.2.1 e.2.1.2.2 a b m)).toInt64 ∧ (∀ q i j, PHh q i j = false → M'.1 q i j = (a_pI M 12 0 (xln e.2.1.1 e.2.1.2.1 e.2.1.2.2 a b m) t).1 q i j) ∧ NT (a_pI M 12 0 (xln e.2.1.1 e.2.1.2.1 e.2.1.2.2 a b m) t) M' n (Int32.ofNat (xln e.2.1.1 e.2.1.2.1 e.2.1.2.2 a b m)) (e.2.2.2.2 (xln e.2.1.1 e.2.1.2.1 e.2.1.2.2 a b m)) t) ∨ (¬ (okL e.2.1.1 e.2.1.2.1 e.2.1.2.2 a1 a2 m ∧ okT e.1.2 t) ∧ v = some (vI 1) ∧ M'.1 = M.1)
def yM_set (e : xB) (n : Nat) (x y : Int32) (m : Nat) (t : Int32) (v : Option aV) (M M' : aM) : Prop := (¬ (okL e.2.1.1 e.2.1.2.1 e.2.1.2.2 x y m ∧ okT e.1.2 t) ∧ v = some (vI 0) ∧ M' = a_pI M 36 0 0 1) ∨ (∃ a b u, a ≤ e.2.1.1 ∧ b ≤ e.2.1.2.1 ∧ u < e.1.2 ∧ x = Int32.ofNat a ∧ y = Int32.ofNat b ∧ t = Int32.ofNat u ∧ xlv e.2.1.1 e.2.1.2.1 e.2.1.2.2 a b m = true ∧ v = some (vI (e.2.2.2.2 (xln e.2.1.1 e.2.1.2.1 e.2.1.2.2 a b m))) ∧ RU M M' n ∧ fr PX M M' ∧ M'.1 36 0 0 = 0 ∧ ∀ c, c < 24 → M'.1 37 0 (20 + c) = if c = rln e.2.1.1 e.2.1.2.1 e.2.1.2.2 a b m then t else M.1 37 0 (20 + c))
def yC_frame (e : xB) (n : Nat) (a1 a2 : Int32) (t : Int32) (v : Option aV) (M M' : aM) : Prop := (∃ a b u, a ≤ e.2.1.1 ∧ b ≤ e.2.1.2.1 ∧ u < e.1.2 ∧ a1 = Int32.ofNat a ∧ a2 = Int32.ofNat b ∧ t = Int32.ofNat u ∧ v = some (vI 0) ∧ M'.2 98 0 0 = (Int32.ofNat (cnt (rfd e.1.1 e.1.2 e.2.1.1 e.2.1.2.1 e.2.1.2.2 (xco e.2.1.1 e.2.1.2.1 e.2.1.2.2 a b) u e.2.2.2.2) 32)).toInt64 ∧ ∃ N, fr PHh M N ∧ NT M N n (Int32.ofNat (32 + (xco e.2.1.1 e.2.1.2.1 e.2.1.2.2 a b))) (Int32.ofNat (ag e.1.1 e.1.2 u)) t ∧ (∀ q i j, PR 12 0 q i j = false → M'.1 q i j = N.1 q i j) ∧ ∀ l, l < 32 → M'.1 12 0 l = if hl e.2.1.1 e.2.1.2.1 e.2.1.2.2 l = true then rfv e.1.1 e.1.2 e.2.1.1 e.2.1.2.1 e.2.1.2.2 (xco e.2.1.1 e.2.1.2.1 e.2.1.2.2 a b) u l (e.2.2.2.2 l) else e.2.2.2.2 l) ∨ (¬ (xP a1 a2 e.2.1.1 e.2.1.2.1 ∧ okT e.1.2 t) ∧ v = some (vI 1) ∧ M'.1 = M.1)
def yM_frame (e : xB) (n : Nat) (x y : Int32) (t : Int32) (v : Option aV) (M M' : aM) : Prop := (¬ (xP x y e.2.1.1 e.2.1.2.1 ∧ okT e.1.2 t) ∧ v = some (vI 0) ∧ M' = a_pI M 36 0 0 1) ∨ (∃ a b u, a ≤ e.2.1.1 ∧ b ≤ e.2.1.2.1 ∧ u < e.1.2 ∧ x = Int32.ofNat a ∧ y = Int32.ofNat b ∧ t = Int32.ofNat u ∧ v = some (vI (Int32.ofNat (cnt (rfd e.1.1 e.1.2 e.2.1.1 e.2.1.2.1 e.2.1.2.2 (xco e.2.1.1 e.2.1.2.1 e.2.1.2.2 a b) u e.2.2.2.2) 32))) ∧ RU M M' n ∧ fr PX M M' ∧ M'.1 36 0 0 = 0 ∧ ∀ l, l < 32 → hl e.2.1.1 e.2.1.2.1 e.2.1.2.2 l = true → M'.1 37 0 (20 + lm e.2.1.1 e.2.1.2.1 e.2.1.2.2 l) = rfv e.1.1 e.1.2 e.2.1.1 e.2.1.2.1 e.2.1.2.2 (xco e.2.1.1 e.2.1.2.1 e.2.1.2.2 a b) u l (e.2.2.2.2 l))
def yC_draw (e : xB) (_n : Nat) (seed : Int32) (v : Option aV) (M M' : aM) : Prop := ((e.2.1.2.2 = 0 ∧ 0 < sw (dV e) e.1.2) ∧ v = some (vI 0) ∧ M'.2 98 0 0 = woy (dE e seed) e.2.1.2.1 ∧ (∀ q i j, PDc q i j = false → M'.1 q i j = M.1 q i j) ∧ M'.1 20 0 4 = 0 ∧ M'.1 20 0 5 = 0 ∧ ∀ l, l < 32 → M'.1 12 0 l = (dE e seed).2.2.2.2 l) ∨ (¬ (e.2.1.2.2 = 0 ∧ 0 < sw (dV e) e.1.2) ∧ v = some (vI 1) ∧ M'.1 = M.1)
def yM_draw (e : xB) (_n : Nat) (seed : Int32) (v : Option aV) (M M' : aM) : Prop := ((e.2.1.2.2 = 0 ∧ 0 < sw (dV e) e.1.2) ∧ v = some (vL (woy (dE e seed) e.2.1.2.1)) ∧ fr PDm M M' ∧ M'.1 36 0 0 = 0 ∧ M'.1 37 0 7 = 0 ∧ M'.1 37 0 8 = 0 ∧ lR 37 20 M' e.2.1.1 e.2.1.2.1 e.2.1.2.2 (dE e seed).2.2.2.2) ∨ (¬ (e.2.1.2.2 = 0 ∧ 0 < sw (dV e) e.1.2) ∧ v = some (vL 0) ∧ M' = a_pI M 36 0 0 1)
def yC_undo (e : xB) (n : Nat) (S : Nat → Nat → Int32) (M M' : aM) : Prop := (n = 0 ∧ M = M') ∨ (¬ n = 0 ∧ fr PHd M M' ∧ M'.1 20 0 4 = Int32.ofNat (n - 1) ∧ ∀ l, l < 32 → hl e.2.1.1 e.2.1.2.1 e.2.1.2.2 l = true → M'.1 12 0 l = S (n - 1) l)
def yC_redo (e : xB) (n k : Nat) (S : Nat → Nat → Int32) (M M' : aM) : Prop := (n = k ∧ M = M') ∨ (¬ n = k ∧ fr PHd M M' ∧ M'.1 20 0 4 = Int32.ofNat (n + 1) ∧ ∀ l, l < 32 → hl e.2.1.1 e.2.1.2.1 e.2.1.2.2 l = true → M'.1 12 0 l = S (n + 1) l)
def yM_undo (n : Nat) (M M' : aM) : Prop := (n = 0 ∧ M' = a_pI M 36 0 0 0) ∨ (¬ n = 0 ∧ fr PD M M' ∧ M'.1 37 0 8 = Int32.ofNat (n - 1) ∧ ∀ c, c < 24 → M'.1 37 0 (20 + c) = M.1 37 0 (50 + 48 * (n - 1) + c))
def yM_redo (n k : Nat) (M M' : aM) : Prop := (n = k ∧ M' = a_pI M 36 0 0 0) ∨ (¬ n = k ∧ fr PD M M' ∧ M'.1 37 0 8 = Int32.ofNat (n + 1) ∧ ∀ c, c < 24 → M'.1 37 0 (20 + c) = M.1 37 0 (74 + 48 * n + c))
theorem w_set {nS n k : Nat} {e : xB} {M : aM} {a1 a2 a3 a4 : Int32} {m : Nat} (hT : z_MT (zTb, [], []) M) (hS : SX e n k M) (hm : m ≤ 1) (hz : a3 = Int32.ofNat m) : aCW nS 60 4 [vR 0 0, vI a1, vI a2, vI a3, vI a4, vR 98 0] M (fun v M' => (∃ x, v = some (vI x)) ∧ cPost (z_b (M.1 1 0 1)) M M' ∧ cHx (okL e.2.1.1 e.2.1.2.1 e.2.1.2.2 a1 a2 m ∧ okT e.1.2 a4) (Int32.ofNat (hN n)) M M' ∧ yC_set e n a1 a2 m a4 v M M') := by
  refine aCW_post (wX_set (aC_and (c_setX hT hS.1 hm hz (Nat.le_trans hS.2.2.2.1 hS.2.2.2.2.1) hS.2.2.2.2.2.1) (c_setL hS.1 hm hz (Nat.le_trans hS.2.2.2.1 hS.2.2.2.2.1) hS.2.2.2.2.2.1)) (fun v M' z => z.1.1) (fun q M' z => z.1.1)) (fun v M' z => ?_)
  rcases z with ⟨rfl, x, M1, ⟨⟨-, p, hM, h4, h5⟩, zL⟩, rfl⟩ | ⟨rfl, ⟨-, p, rfl⟩, -⟩
  · obtain ⟨a, b, u, ha, hb, hu, ea, eb, ht, hv, ev, hf, hT9⟩ := zL
    cases ev
    exact ⟨⟨_, rfl⟩, cPost_L (cPost_same hM rfl), ⟨cHs_L (cHs_ok (W := [(12, 0, 31), (20, 4, 5), (21, 0, 19), (22, 0, 19), (23, 0, 19)]) rfl hM.2.1), Or.inl ⟨p, h4, h5⟩⟩, Or.inl ⟨a, b, u, ha, hb, hu, ea, eb, ht, hv, rfl, a_pLs, fun q i j h => hf.1 q i j h, hT9⟩⟩
  · exact ⟨⟨_, rfl⟩, cPost_same (h_M0 (W := []) hT) rfl, ⟨⟨fun _ => rfl, fun _ _ _ _ _ _ => rfl, rfl⟩, Or.inr ⟨p, rfl, rfl⟩⟩, Or.inr ⟨p, rfl, rfl⟩⟩
theorem w_frame {nS n k : Nat} {e : xB} {M : aM} {a1 a2 a3 : Int32} (hT : z_MT (zTb, [], []) M) (hS : SX e n k M) (hO : lO e.2.1.1 e.2.1.2.1 e.2.1.2.2 e.1.2 e.2.2.2.2) : aCW nS 60 6 [vR 0 0, vI a1, vI a2, vI a3, vR 98 0] M (fun v M' => (∃ x, v = some (vI x)) ∧ cPost (z_b (M.1 1 0 1)) M M' ∧ cHx (xP a1 a2 e.2.1.1 e.2.1.2.1 ∧ okT e.1.2 a3) (Int32.ofNat (hN n)) M M' ∧ yC_frame e n a1 a2 a3 v M M') := by
  refine aCW_post (wX_frame (aC_and (c_frameX hT hS.1 (Nat.le_trans hS.2.2.2.1 hS.2.2.2.2.1) hS.2.2.2.2.2.1) (c_frameL hS.1 hO (Nat.le_trans hS.2.2.2.1 hS.2.2.2.2.1) hS.2.2.2.2.2.1)) (fun v M' z => z.1.1) (fun q M' z => z.1.1)) (fun v M' z => ?_)
  rcases z with ⟨rfl, x, M1, ⟨⟨-, p, hM, h4, h5⟩, zL⟩, rfl⟩ | ⟨rfl, ⟨-, p, rfl⟩, -⟩
  · obtain ⟨a, b, u, ha, hb, hu, ea, eb, ht, ev, N, hf, hT9, hf2, hL2⟩ := zL
    cases ev
    exact ⟨⟨_, rfl⟩, cPost_L (cPost_same hM rfl), ⟨cHs_L (cHs_ok (W := [(12, 0, 31), (20, 4, 5), (21, 0, 19), (22, 0, 19), (23, 0, 19)]) rfl hM.2.1), Or.inl ⟨p, h4, h5⟩⟩, Or.inl ⟨a, b, u, ha, hb, hu, ea, eb, ht, rfl, a_pLs, N, hf, hT9, fun q i j h => hf2.1 q i j h, hL2⟩⟩
  · exact ⟨⟨_, rfl⟩, cPost_same (h_M0 (W := []) hT) rfl, ⟨⟨fun _ => rfl, fun _ _ _ _ _ _ => rfl, rfl⟩, Or.inr ⟨p, rfl, rfl⟩⟩, Or.inr ⟨p, rfl, rfl⟩⟩
theorem w_draw {nS n k : Nat} {e : xB} {M : aM} {a1 : Int32} (hT : z_MT (zTb, [], []) M) (hS : SX e n k M)  : aCW nS 60 14 [vR 0 0, vI a1, vR 98 0] M (fun v M' => (∃ x, v = some (vI x)) ∧ cPost (z_b (M.1 1 0 1)) M M' ∧ cHx (e.2.1.2.2 = 0 ∧ 0 < e_sm M (e_w M) e.1.2) (0) M M' ∧ yC_draw e n a1 v M M') := by
  refine aCW_post (wX_draw (aC_and (c_drawX hT hS.1 (SX_w hS)) (c_drawL hS.1 (SX_wOK hT hS))) (fun v M' z => z.1.1) (fun q M' z => z.1.1)) (fun v M' z => ?_)
  rcases z with ⟨rfl, x, M1, ⟨⟨-, p, hM, h4, h5⟩, zL⟩, rfl⟩ | ⟨rfl, ⟨-, p, rfl⟩, -, pL, -⟩
  · obtain ⟨yes, ev, hf, d4, d5, hL2⟩ := zL
    cases ev
    exact ⟨⟨_, rfl⟩, cPost_L (cPost_same hM rfl), ⟨cHs_L (cHs_ok (W := [(12, 0, 31), (20, 4, 5)]) rfl hM.2.1), Or.inl ⟨p, h4, h5⟩⟩, Or.inl ⟨yes, rfl, a_pLs, fun q i j h => hf.1 q i j h, d4, d5, hL2⟩⟩
  · exact ⟨⟨_, rfl⟩, cPost_same (h_M0 (W := []) hT) rfl, ⟨⟨fun _ => rfl, fun _ _ _ _ _ _ => rfl, rfl⟩, Or.inr ⟨p, rfl, rfl⟩⟩, Or.inr ⟨pL, rfl, rfl⟩⟩
/-- what a text of the board comes to, of the class: t bytes, the board e; v: what the law's method answers -/
def cBo (e : xB) (t : Nat) (v : Option aV) (M M' : aM) : Prop := (∀ j, M'.1 2 0 j = M.1 2 0 j) ∧ cG 1 M' ∧ (∀ k j, 4 ≤ k → k ≤ 14 → M'.1 k 2 j = M.1 k 2 j) ∧ M'.1 0 0 5 = M.1 0 0 5 ∧ ((v = some (vI 0) ∧ M'.2 98 0 0 = (M.1 4 0 4 + 1).toInt64 ∧ M.1 4 0 4 ≠ 12 ∧ ∃ e', t_read (M.1 2 0) t e = some e' ∧ cB 0 M' e' ∧ M'.1 4 0 4 = M.1 4 0 4 + 1 ∧ M'.1 20 0 4 = 0 ∧ M'.1 20 0 5 = 0) ∨ (((v = some (vI 1) ∧ t_read (M.1 2 0) t e = none) ∨ (v = some (vI 2) ∧ M.1 4 0 4 = 12 ∧ ∃ e', t_read (M.1 2 0) t e = some e')) ∧ cB 0 M' e ∧ M'.1 4 0 4 = M.1 4 0 4 ∧ M'.1 20 0 4 = M.1 20 0 4 ∧ M'.1 20 0 5 = M.1 20 0 5))
/-- rows of changes that stay -/
def cH3 (M M' : aM) : Prop := ∀ q j, 21 ≤ q → q ≤ 23 → M'.1 q 0 j = M.1 q 0 j
theorem x_t12 {M : aM} (hT : z_MT (zTb, [], []) M) (h : M.1 4 0 4 = M.1 37 0 0) : ∃ t, t ≤ 12 ∧ M.1 4 0 4 = Int32.ofNat t := by
  obtain ⟨t, ht, e⟩ := x_rng (m := 12) (by decide) (h_TR (T := zTb) (k := 37) (i := 0) (j := 0) hT)
  exact ⟨t, ht, h.trans e⟩
theorem PTb_no {k i j : Nat} (h3 : ¬ k = 3) (h1 : ¬ (k = 1 ∧ j = 1)) (h20 : ¬ (k = 20 ∧ (j = 4 ∨ j = 5))) (hb : ¬ (4 ≤ k ∧ k ≤ 14 ∧ (i = 0 ∨ i = 1))) : PTb k i j = false := by
  cases hq : PTb k i j with
  | false => rfl
  | true =>
    exfalso
    have z : ((Nat.beq k 3 || ((Nat.ble 4 k && Nat.ble k 14) && (Nat.beq i 1 || Nat.beq i 0))) || ((Nat.beq k 1 && Nat.beq j 1) || (Nat.beq k 20 && (Nat.beq j 4 || Nat.beq j 5)))) = true := hq
    simp only [Bool.or_eq_true, Bool.and_eq_true] at z
    rcases z with (z | ⟨⟨z1, z2⟩, z3⟩) | (⟨z1, z2⟩ | ⟨z1, z2⟩)
    · exact h3 (Nat.eq_of_beq_eq_true z)
    · refine hb ⟨Nat.le_of_ble_eq_true z1, Nat.le_of_ble_eq_true z2, ?_⟩
      rcases z3 with z3 | z3
      · exact Or.inr (Nat.eq_of_beq_eq_true z3)
      · exact Or.inl (Nat.eq_of_beq_eq_true z3)
    · exact h1 ⟨Nat.eq_of_beq_eq_true z1, Nat.eq_of_beq_eq_true z2⟩
    · refine h20 ⟨Nat.eq_of_beq_eq_true z1, ?_⟩
      rcases z2 with z2 | z2
      · exact Or.inl (Nat.eq_of_beq_eq_true z2)
      · exact Or.inr (Nat.eq_of_beq_eq_true z2)
theorem w_board {nS n k t : Nat} {e : xB} {M : aM} (hT : z_MT (zTb, [], []) M) (hr : RX M) (hS : SX e n k M) (ht : t ≤ 400) (hs : M.1 1 0 1 = Int32.ofNat t) : aCW nS 60 0 [vR 0 0, vR 98 0] M (fun v M' => (∃ x, v = some (vI x)) ∧ cPost 2147483648 M M' ∧ cBo e t v M M' ∧ cH3 M M') := by
  have hc := aC_and (h_any hct_X10_board_0 rfl (show (16 : Nat) ≤ 60 by decide) (h_R (k := 0) (i := 0) (r := []) (s := []) trivial) hT) (c_board (nS := nS) (d := 49) hs ht hS.1 hr.2.2.1.1 (x_t12 hT hS.2.2.1))
  have fr1 : ∀ {M1 : aM} {x : Int64}, fr PTb M M1 → (∀ j, (a_pL M1 98 0 0 x).1 2 0 j = M.1 2 0 j) ∧ (∀ k j, 4 ≤ k → k ≤ 14 → (a_pL M1 98 0 0 x).1 k 2 j = M.1 k 2 j) ∧ (a_pL M1 98 0 0 x).1 0 0 5 = M.1 0 0 5 := fun h => ⟨fun j => h.1 2 0 j (PTb_no (by omega) (by omega) (by omega) (by omega)), fun k j h1 h2 => h.1 k 2 j (PTb_no (by omega) (by omega) (by omega) (by omega)), h.1 0 0 5 (PTb_no (by omega) (by omega) (by omega) (by omega))⟩
  have fr2 : ∀ {M1 : aM}, fr PTb M M1 → (∀ j, M1.1 2 0 j = M.1 2 0 j) ∧ (∀ k j, 4 ≤ k → k ≤ 14 → M1.1 k 2 j = M.1 k 2 j) ∧ M1.1 0 0 5 = M.1 0 0 5 := fun h => fr1 (x := 0) h
  have cp : ∀ {M1 : aM}, z_M (zTb, [(1, 1, 1), (3, 1, 5), (4, 1, 6), (5, 0, 2), (6, 0, 63), (7, 0, 7), (8, 0, 7), (9, 0, 7), (10, 0, 7), (11, 0, 7), (12, 0, 31), (13, 0, 7), (14, 0, 15), (20, 4, 5)], []) M [] M1 → M1.1 1 0 1 = 0 → cPost 2147483648 M M1 := fun h h0 => ⟨h.1, c_fr h rfl, by rw [h0]; exact z_b0⟩
  refine aCW_post (wX_board hc (fun v M' z => ?_) (fun q M' z => ?_)) (fun v M' z => ?_)
  · obtain ⟨-, -, -, -, -, e', -, -, hv, -⟩ := z
    exact ⟨_, hv⟩
  · obtain ⟨-, -, z⟩ := z
    rcases z with ⟨z, -⟩ | ⟨z, -⟩
    · exact Or.inl z
    · exact Or.inr z
  · rcases z with ⟨rfl, x, M1, ⟨hM, hf, h0, hG, h12, e', r1, r2, r3, r4, r5, r6⟩, rfl⟩ | ⟨rfl, hM, ⟨hf, h0, hG, r2, r4, r5, r6⟩, r⟩ | ⟨rfl, hM, ⟨hf, h0, hG, r2, r4, r5, r6⟩, r⟩
    · obtain ⟨f1, f2, f3⟩ := fr1 (x := x.toInt64) hf
      have ex : x = M.1 4 0 4 + 1 := by
        cases r3
        rfl
      exact ⟨⟨_, rfl⟩, cPost_L (cp hM h0), ⟨f1, hG, f2, f3, Or.inl ⟨rfl, a_pLs.trans (by rw [ex]), h12, e', r1, r2, r4, r5, r6⟩⟩, fun q j p1 p2 => hf.1 q 0 j (PTb_no (by omega) (by omega) (by omega) (by omega))⟩
    · obtain ⟨f1, f2, f3⟩ := fr2 hf
      rcases r with ⟨-, r⟩ | ⟨r, -⟩
      · exact ⟨⟨_, rfl⟩, cp hM h0, ⟨f1, hG, f2, f3, Or.inr ⟨Or.inl ⟨rfl, r⟩, r2, r4, r5, r6⟩⟩, fun q j p1 p2 => hf.1 q 0 j (PTb_no (by omega) (by omega) (by omega) (by omega))⟩
      · exact absurd r (by decide)
    · obtain ⟨f1, f2, f3⟩ := fr2 hf
      rcases r with ⟨r, -⟩ | ⟨-, r⟩
      · exact absurd r (by decide)
      · exact ⟨⟨_, rfl⟩, cp hM h0, ⟨f1, hG, f2, f3, Or.inr ⟨Or.inr ⟨rfl, r⟩, r2, r4, r5, r6⟩⟩, fun q j p1 p2 => hf.1 q 0 j (PTb_no (by omega) (by omega) (by omega) (by omega))⟩
theorem c_use {c : zCt} (hc : z_ctH zTb c) (b : Nat) (h1 : c.2.2.1 = []) (hk : (i_vs b c.2.2.2.2.1 && (iWc c.2.2.2.1 && !(z_w c.2.2.2.1 1 1 1))) = true) (hs : cS1 c.2.2.2.1 = true) {nS d : Nat} {as : List aV} {M : aM} (hd : c.2.2.2.2.2 ≤ d) (hS : z_S c.2.1 as) (hT : z_MT (zTb, [], []) M) : aC nS d c.1 as M (fun v M' => i_vT b v ∧ cPost (z_b (M.1 1 0 1)) M M' ∧ cSm M M') (fun _ _ => False) := by
  rw [Bool.and_eq_true] at hk
  refine aC_post (hc nS d as M hd hS hT (by rw [h1]; exact h_MG0)) (fun v M' hv => ?_) (fun x M' hx => ?_)
  · obtain ⟨v', g', h4, h5, h6⟩ := hv
    exact ⟨i_vs_ok hk.1 v' g' h4 v h5, cPost_same h6 hk.2, cSm_ok hs h6.2.1⟩
  · obtain ⟨g', h4, h6⟩ := hx
    exact False.elim (i_vs_x hk.1 _ h4)
theorem i_v0 {v : Option aV} (h : i_vT 0 v) : v = none := by
  rcases h with h | h | h
  · exact h.2
  · exact absurd h.1 (by decide)
  · exact absurd h.1 (by decide)
theorem i_v1 {v : Option aV} (h : i_vT 1 v) : ∃ x, v = some (vI x) := by
  rcases h with h | h | h
  · exact absurd h.1 (by decide)
  · exact h.2
  · exact absurd h.1 (by decide)
theorem i_v2 {v : Option aV} (h : i_vT 2 v) : ∃ x, v = some (vL x) := by
  rcases h with h | h | h
  · exact absurd h.1 (by decide)
  · exact absurd h.1 (by decide)
  · exact h.2
theorem c_fault {nS : Nat} {M : aM}  (hT : z_MT (zTb, [], []) M)  : aC nS 60 153 [vR 0 0] M (fun v M' => i_vT 1 v ∧ cPost (z_b (M.1 1 0 1)) M M' ∧ cSm M M') (fun _ _ => False) := c_use hct_X10_fault_0 1 rfl rfl rfl (show (4 : Nat) ≤ 60 by decide) (h_R trivial) hT
theorem c_worth {nS : Nat} {M : aM}  (hT : z_MT (zTb, [], []) M)  : aC nS 60 163 [vR 0 0] M (fun v M' => i_vT 2 v ∧ cPost (z_b (M.1 1 0 1)) M M' ∧ cSm M M') (fun _ _ => False) := c_use hct_X10_worth_0 2 rfl rfl rfl (show (13 : Nat) ≤ 60 by decide) (h_R trivial) hT
theorem c_turned {nS : Nat} {M : aM}  (hT : z_MT (zTb, [], []) M)  : aC nS 60 164 [vR 0 0] M (fun v M' => i_vT 1 v ∧ cPost (z_b (M.1 1 0 1)) M M' ∧ cSm M M') (fun _ _ => False) := c_use hct_X10_turned_0 1 rfl rfl rfl (show (13 : Nat) ≤ 60 by decide) (h_R trivial) hT
theorem c_sum {nS : Nat} {M : aM}  (hT : z_MT (zTb, [], []) M)  : aC nS 60 166 [vR 0 0] M (fun v M' => i_vT 2 v ∧ cPost (z_b (M.1 1 0 1)) M M' ∧ cSm M M') (fun _ _ => False) := c_use hct_X10_sum_0 2 rfl rfl rfl (show (11 : Nat) ≤ 60 by decide) (h_R trivial) hT
theorem c_states {nS : Nat} {M : aM} {a1 : Int32} (hT : z_MT (zTb, [], []) M)  : aC nS 60 168 [vR 0 0, vI a1] M (fun v M' => i_vT 2 v ∧ cPost (z_b (M.1 1 0 1)) M M' ∧ cSm M M') (fun _ _ => False) := c_use hct_X10_states_0 2 rfl rfl rfl (show (11 : Nat) ≤ 60 by decide) (h_R (h_I trivial)) hT
theorem c_rests {nS : Nat} {M : aM} {a1 : Int32} (hT : z_MT (zTb, [], []) M) (b1 : a1 = 0 ∨ a1 = 1) : aC nS 60 170 [vR 0 0, vI a1] M (fun v M' => i_vT 1 v ∧ cPost (z_b (M.1 1 0 1)) M M' ∧ cSm M M') (fun _ _ => False) := c_use hct_X10_rests_0 1 rfl rfl rfl (show (12 : Nat) ≤ 60 by decide) (h_R (h_Iv (h_bo b1) trivial)) hT
theorem c_count {nS : Nat} {M : aM} {a1 : Int32} (hT : z_MT (zTb, [], []) M)  : aC nS 60 177 [vR 0 0, vI a1] M (fun v M' => i_vT 1 v ∧ cPost (z_b (M.1 1 0 1)) M M' ∧ cSm M M') (fun _ _ => False) := c_use hct_X10_count_0 1 rfl rfl rfl (show (6 : Nat) ≤ 60 by decide) (h_R (h_I trivial)) hT
theorem c_undo {nS n k : Nat} {e : xB} {S : Nat → Nat → Int32} {M : aM} (hT : z_MT (zTb, [], []) M) (hS : SX e n k M) (hh : hH e.1.1 e.1.2 e.2.1.1 e.2.1.2.1 e.2.1.2.2 n k S M) : aC nS 60 160 [vR 0 0] M (fun v M' => v = some (vI (Int32.ofNat (if n = 0 then 0 else 1))) ∧ cPost (z_b (M.1 1 0 1)) M M' ∧ cHs M M' ∧ (M'.1 20 0 4 = Int32.ofNat (n - 1) ∧ M'.1 20 0 5 = Int32.ofNat k) ∧ yC_undo e n S M M') (fun _ _ => False) := aC_post (aC_and (c_undoX hT (Nat.le_trans hS.2.2.2.1 hS.2.2.2.2.1) hS.2.2.2.2.2.1) (c_undoL hS.1 hS.2.2.2.1 hS.2.2.2.2.1 hS.2.2.2.2.2.1 hS.2.2.2.2.2.2.1 hh)) (fun v M' z => ⟨z.1.1, cPost_same z.1.2.1 rfl, cHs_ok (W := [(12, 0, 31), (20, 4, 4)]) rfl z.1.2.1.2.1, ⟨z.1.2.2, (h_un z.1.2.1 rfl).trans hS.2.2.2.2.2.2.1⟩, by
    rcases z.2 with ⟨q1, -, q2⟩ | ⟨q1, -, q2, q3, q4⟩
    · exact Or.inl ⟨q1, q2⟩
    · exact Or.inr ⟨q1, q2, q3, q4⟩⟩) (fun _ _ z => z.1)
theorem c_redo {nS n k : Nat} {e : xB} {S : Nat → Nat → Int32} {M : aM} (hT : z_MT (zTb, [], []) M) (hS : SX e n k M) (hh : hH e.1.1 e.1.2 e.2.1.1 e.2.1.2.1 e.2.1.2.2 n k S M) : aC nS 60 161 [vR 0 0] M (fun v M' => v = some (vI (Int32.ofNat (if n = k then 0 else 1))) ∧ cPost (z_b (M.1 1 0 1)) M M' ∧ cHs M M' ∧ (M'.1 20 0 4 = Int32.ofNat (if n = k then n else n + 1) ∧ M'.1 20 0 5 = Int32.ofNat k) ∧ yC_redo e n k S M M') (fun _ _ => False) := aC_post (aC_and (c_redoX hT hS.2.2.2.1 hS.2.2.2.2.1 hS.2.2.2.2.2.1 hS.2.2.2.2.2.2.1) (c_redoL hS.1 hS.2.2.2.1 hS.2.2.2.2.1 hS.2.2.2.2.2.1 hS.2.2.2.2.2.2.1 hh)) (fun v M' z => ⟨z.1.1, cPost_same z.1.2.1 rfl, cHs_ok (W := [(12, 0, 31), (20, 4, 4)]) rfl z.1.2.1.2.1, ⟨z.1.2.2, (h_un z.1.2.1 rfl).trans hS.2.2.2.2.2.2.1⟩, by
    rcases z.2 with ⟨q1, -, q2⟩ | ⟨q1, -, q2, q3, q4⟩
    · exact Or.inl ⟨q1, q2⟩
    · exact Or.inr ⟨q1, q2, q3, q4⟩⟩) (fun _ _ z => z.1)
theorem PI2_no {k i j : Nat} (hb : ¬ (4 ≤ k ∧ k ≤ 14 ∧ i = 2)) (h0 : ¬ (k = 0 ∧ j = 5)) : PI2 k i j = false := by
  cases hq : PI2 k i j with
  | false => rfl
  | true =>
    exfalso
    have z : (((Nat.ble 4 k && Nat.ble k 14) && Nat.beq i 2) || (Nat.beq k 0 && Nat.beq j 5)) = true := hq
    simp only [Bool.or_eq_true, Bool.and_eq_true] at z
    rcases z with ⟨⟨z1, z2⟩, z3⟩ | ⟨z1, z2⟩
    · exact hb ⟨Nat.le_of_ble_eq_true z1, Nat.le_of_ble_eq_true z2, Nat.eq_of_beq_eq_true z3⟩
    · exact h0 ⟨Nat.eq_of_beq_eq_true z1, Nat.eq_of_beq_eq_true z2⟩
theorem PK0_no {k i j : Nat} (hb : ¬ (4 ≤ k ∧ k ≤ 14 ∧ i = 0)) (h0 : ¬ (k = 20 ∧ (j = 4 ∨ j = 5))) : PK0 k i j = false := by
  cases hq : PK0 k i j with
  | false => rfl
  | true =>
    exfalso
    have z : (((Nat.ble 4 k && Nat.ble k 14) && Nat.beq i 0) || (Nat.beq k 20 && (Nat.beq j 4 || Nat.beq j 5))) = true := hq
    simp only [Bool.or_eq_true, Bool.and_eq_true] at z
    rcases z with ⟨⟨z1, z2⟩, z3⟩ | ⟨z1, z2⟩
    · exact hb ⟨Nat.le_of_ble_eq_true z1, Nat.le_of_ble_eq_true z2, Nat.eq_of_beq_eq_true z3⟩
    · refine h0 ⟨Nat.eq_of_beq_eq_true z1, ?_⟩
      rcases z2 with z2 | z2
      · exact Or.inl (Nat.eq_of_beq_eq_true z2)
      · exact Or.inr (Nat.eq_of_beq_eq_true z2)
theorem c_image {nS n k : Nat} {e : xB} {M : aM} (hT : z_MT (zTb, [], []) M) (hr : RX M) (hS : SX e n k M) : aC nS 60 175 [vR 0 0] M (fun v M' => v = none ∧ cPost (z_b (M.1 1 0 1)) M M' ∧ fr PI2 M M' ∧ M'.1 0 0 5 = 1 ∧ cB 2 M' e ∧ M'.1 4 2 4 = M.1 4 0 4) (fun _ _ => False) := aC_post (aC_and (h_any hct_X10_image_0 rfl (show (11 : Nat) ≤ 60 by decide) (h_R (k := 0) (i := 0) (r := []) (s := []) trivial) hT) (c_imageX hS.1 hr.2.2.1.2)) (fun v M' z => ⟨z.2.1, cPost_same z.1 rfl, z.2.2⟩) (fun _ _ z => z.2)
theorem c_back {nS : Nat} {M : aM} (hT : z_MT (zTb, [], []) M) (hr : RX M) (hI : RI M) : aC nS 60 176 [vR 0 0] M (fun v M' => cPost (z_b (M.1 1 0 1)) M M' ∧ ((M.1 0 0 5 = 0 ∧ v = some (vI 0) ∧ M = M') ∨ (M.1 0 0 5 = 1 ∧ v = some (vI 1) ∧ ∃ e, (rBL 38 M e ∧ xE e) ∧ M.1 4 2 4 = M.1 38 0 0 ∧ fr PK0 M M' ∧ cB 0 M' e ∧ M'.1 4 0 4 = M.1 4 2 4 ∧ M'.1 20 0 4 = 0 ∧ M'.1 20 0 5 = 0))) (fun _ _ => False) := by
  have hb := h_any (nS := nS) hct_X10_back_0 rfl (show (11 : Nat) ≤ 60 by decide) (h_R (k := 0) (i := 0) (r := []) (s := []) trivial) hT
  rcases hr.2.2.2.2 with ⟨k1, k2⟩ | ⟨k1, k2, -, -, -, e3⟩
  · exact aC_post (aC_and hb (c_back0 k1)) (fun v M' z => ⟨cPost_same z.1 rfl, Or.inl ⟨k1, z.2⟩⟩) (fun _ _ z => z.2)
  · obtain ⟨e0, b0, -⟩ := hr.2.1
    obtain ⟨e, e1, e2, eL, eX⟩ := hI k1
    exact aC_post (aC_and hb (c_back1 k1 (cB_G b0) e1)) (fun v M' z => ⟨cPost_same z.1 rfl, Or.inr ⟨k1, z.2.1, e, ⟨⟨e2, eL⟩, eX⟩, e3, z.2.2⟩⟩) (fun _ _ z => z.2)
theorem i_sameX {c : zCt} (hc : z_ctH zTb c) (b : Nat) (hk : (i_vs b c.2.2.2.2.1 && (iWm c.2.2.2.1 && (iFr c.2.2.2.1 && !(z_w c.2.2.2.1 36 6 6)))) = true) (hs : mS1 c.2.2.2.1 = true) {nS d : Nat} {as : List aV} {M : aM} (hd : c.2.2.2.2.2 ≤ d) (hS : z_S c.2.1 as) (hT : z_MT (zTb, [], []) M) (hG : z_MG c.2.2.1 M) (hi : iM M) : aC nS d c.1 as M (fun v M' => i_vT b v ∧ mPost (z_b (M.1 36 0 6)) M M' ∧ mSm M M') (fun _ _ => False) := by
  rw [Bool.and_eq_true] at hk
  refine aC_post (hc nS d as M hd hS hT hG) (fun v M' hv => ?_) (fun x M' hx => ?_)
  · obtain ⟨v', g', h4, h5, h6⟩ := hv
    exact ⟨i_vs_ok hk.1 v' g' h4 v h5, mPost_same h6 hi hk.2, mSm_ok hs h6.2.1⟩
  · obtain ⟨g', h4, h6⟩ := hx
    exact i_vs_x hk.1 _ h4
theorem i_sameB {c : zCt} (hc : z_ctH zTb c) (b : Nat) (hk : (i_vs b c.2.2.2.2.1 && (iWm c.2.2.2.1 && (iFr c.2.2.2.1 && !(z_w c.2.2.2.1 36 6 6)))) = true) (hs : mSb1 c.2.2.2.1 = true) {nS d : Nat} {as : List aV} {M : aM} (hd : c.2.2.2.2.2 ≤ d) (hS : z_S c.2.1 as) (hT : z_MT (zTb, [], []) M) (hG : z_MG c.2.2.1 M) (hi : iM M) : aC nS d c.1 as M (fun v M' => i_vT b v ∧ mPost (z_b (M.1 36 0 6)) M M' ∧ mSb M M') (fun _ _ => False) := by
  rw [Bool.and_eq_true] at hk
  refine aC_post (hc nS d as M hd hS hT hG) (fun v M' hv => ?_) (fun x M' hx => ?_)
  · obtain ⟨v', g', h4, h5, h6⟩ := hv
    exact ⟨i_vs_ok hk.1 v' g' h4 v h5, mPost_same h6 hi hk.2, mSb_ok hs h6.2.1⟩
  · obtain ⟨g', h4, h6⟩ := hx
    exact i_vs_x hk.1 _ h4
theorem i_zeroX {c : zCt} (hc : z_ctH zTb c) (b : Nat) (hk : ((i_vs b c.2.2.2.2.1 && i_oZ c.2.2.2.2.1) && (iWm c.2.2.2.1 && iFr c.2.2.2.1)) = true) (hs : mS1 c.2.2.2.1 = true) {nS d : Nat} {as : List aV} {M : aM} (hd : c.2.2.2.2.2 ≤ d) (hS : z_S c.2.1 as) (hT : z_MT (zTb, [], []) M) (hG : z_MG c.2.2.1 M) (hi : iM M) : aC nS d c.1 as M (fun v M' => i_vT b v ∧ mPost 2147483648 M M' ∧ mSm M M') (fun _ _ => False) := by
  rw [Bool.and_eq_true, Bool.and_eq_true] at hk
  refine aC_post (hc nS d as M hd hS hT hG) (fun v M' hv => ?_) (fun x M' hx => ?_)
  · obtain ⟨v', g', h4, h5, h6⟩ := hv
    exact ⟨i_vs_ok hk.1.1 v' g' h4 v h5, mPost_zero h6 hi hk.2 (i_oZ_ok hk.1.2 v' g' h4), mSm_ok hs h6.2.1⟩
  · obtain ⟨g', h4, h6⟩ := hx
    exact i_vs_x hk.1.1 _ h4
theorem m_fault {nS : Nat} {M : aM}  (hT : z_MT (zTb, [], []) M) (hi : iM M)  : aC nS 60 212 [vR 36 0] M (fun v M' => i_vT 1 v ∧ mPost (z_b (M.1 36 0 6)) M M' ∧ mSm M M') (fun _ _ => False) := i_sameX hct_fault 1 rfl rfl (show (1 : Nat) ≤ 60 by decide) (h_R trivial) hT h_MG0 hi
theorem m_line {nS : Nat} {M : aM} {a1 : Int32} {a2 : Int32} {a3 : Int32} (hT : z_MT (zTb, [], []) M) (hi : iM M) (b3 : a3 = 0 ∨ a3 = 1) : aC nS 60 215 [vR 36 0, vI a1, vI a2, vI a3] M (fun v M' => i_vT 1 v ∧ mPost (z_b (M.1 36 0 6)) M M' ∧ mSm M M') (fun _ _ => False) := i_sameX hct_line 1 rfl rfl (show (5 : Nat) ≤ 60 by decide) (h_R (h_I (h_I (h_Iv (h_bo b3) trivial)))) hT h_MG0 hi
theorem m_round {nS : Nat} {M : aM} {a1 : Int32} {a2 : Int32} (hT : z_MT (zTb, [], []) M) (hi : iM M)  : aC nS 60 219 [vR 36 0, vI a1, vI a2] M (fun v M' => i_vT 1 v ∧ mPost (z_b (M.1 36 0 6)) M M' ∧ mSm M M') (fun _ _ => False) := i_sameX hct_round 1 rfl rfl (show (8 : Nat) ≤ 60 by decide) (h_R (h_I (h_I trivial))) hT h_MG0 hi
theorem m_walk {nS : Nat} {M : aM} {a1 : Int32} (hT : z_MT (zTb, [], []) M) (hi : iM M)  : aC nS 60 226 [vR 36 0, vI a1] M (fun v M' => i_vT 1 v ∧ mPost 2147483648 M M' ∧ mSm M M') (fun _ _ => False) := i_zeroX hct_walk 1 rfl rfl (show (12 : Nat) ≤ 60 by decide) (h_R (h_I trivial)) hT h_MG0 hi
theorem m_worth {nS : Nat} {M : aM}  (hT : z_MT (zTb, [], []) M) (hi : iM M)  : aC nS 60 228 [vR 36 0] M (fun v M' => i_vT 2 v ∧ mPost (z_b (M.1 36 0 6)) M M' ∧ mSm M M') (fun _ _ => False) := i_sameX hct_worth 2 rfl rfl (show (7 : Nat) ≤ 60 by decide) (h_R trivial) hT h_MG0 hi
theorem m_turned {nS : Nat} {M : aM}  (hT : z_MT (zTb, [], []) M) (hi : iM M)  : aC nS 60 230 [vR 36 0] M (fun v M' => i_vT 1 v ∧ mPost (z_b (M.1 36 0 6)) M M' ∧ mSm M M') (fun _ _ => False) := i_sameX hct_turned 1 rfl rfl (show (7 : Nat) ≤ 60 by decide) (h_R trivial) hT h_MG0 hi
theorem m_alike {nS : Nat} {M : aM}  (hT : z_MT (zTb, [], []) M) (hi : iM M)  : aC nS 60 231 [vR 36 0] M (fun v M' => i_vT 1 v ∧ mPost (z_b (M.1 36 0 6)) M M' ∧ mSm M M') (fun _ _ => False) := i_sameX hct_alike 1 rfl rfl (show (5 : Nat) ≤ 60 by decide) (h_R trivial) hT h_MG0 hi
theorem m_sum {nS : Nat} {M : aM}  (hT : z_MT (zTb, [], []) M) (hi : iM M)  : aC nS 60 238 [vR 36 0] M (fun v M' => i_vT 2 v ∧ mPost (z_b (M.1 36 0 6)) M M' ∧ mSm M M') (fun _ _ => False) := i_sameX hct_sum 2 rfl rfl (show (6 : Nat) ≤ 60 by decide) (h_R trivial) hT h_MG0 hi
theorem m_listed0 {nS : Nat} {M : aM}  (hT : z_MT (zTb, [], []) M) (hi : iM M)  : aC nS 60 242 [vR 36 0] M (fun v M' => i_vT 2 v ∧ mPost (z_b (M.1 36 0 6)) M M' ∧ mSb M M') (fun _ _ => False) := by
  have w1 : 2147483649 ≤ z_b (M.1 37 0 3) := (h_TR (T := zTb) (k := 37) (i := 0) (j := 3) hT).1
  have w2 : z_b (M.1 37 0 3) ≤ 2147483651 := (h_TR (T := zTb) (k := 37) (i := 0) (j := 3) hT).2
  have w3 : z_b (M.1 37 0 3) = 2147483649 ∨ z_b (M.1 37 0 3) = 2147483650 ∨ z_b (M.1 37 0 3) = 2147483651 := by omega
  have h1 : 2147483649 ≤ z_b (M.1 37 0 4) := (h_TR (T := zTb) (k := 37) (i := 0) (j := 4) hT).1
  have h2 : z_b (M.1 37 0 4) ≤ 2147483651 := (h_TR (T := zTb) (k := 37) (i := 0) (j := 4) hT).2
  have h3 : z_b (M.1 37 0 4) = 2147483649 ∨ z_b (M.1 37 0 4) = 2147483650 ∨ z_b (M.1 37 0 4) = 2147483651 := by omega
  have s1 : 2147483648 ≤ z_b (M.1 37 0 5) := (h_TR (T := zTb) (k := 37) (i := 0) (j := 5) hT).1
  have s2 : z_b (M.1 37 0 5) ≤ 2147483650 := (h_TR (T := zTb) (k := 37) (i := 0) (j := 5) hT).2
  have s3 : z_b (M.1 37 0 5) = 2147483648 ∨ z_b (M.1 37 0 5) = 2147483649 ∨ z_b (M.1 37 0 5) = 2147483650 := by omega
  rcases w3 with w | w | w <;> rcases h3 with h | h | h <;> rcases s3 with s | s | s
  · exact i_sameB hct_listed_1_1_0 2 rfl rfl (show (9 : Nat) ≤ 60 by decide) (h_R trivial) hT (h_MG1 (k := 37) (j := 3) (by decide) rfl (h_eqI w) (h_MG1 (k := 37) (j := 4) (by decide) rfl (h_eqI h) (h_MG1 (k := 37) (j := 5) (by decide) rfl (h_eqI s) h_MG0))) hi
  · exact i_sameB hct_listed_1_1_1 2 rfl rfl (show (10 : Nat) ≤ 60 by decide) (h_R trivial) hT (h_MG1 (k := 37) (j := 3) (by decide) rfl (h_eqI w) (h_MG1 (k := 37) (j := 4) (by decide) rfl (h_eqI h) (h_MG1 (k := 37) (j := 5) (by decide) rfl (h_eqI s) h_MG0))) hi
  · exact i_sameB hct_listed_1_1_2 2 rfl rfl (show (10 : Nat) ≤ 60 by decide) (h_R trivial) hT (h_MG1 (k := 37) (j := 3) (by decide) rfl (h_eqI w) (h_MG1 (k := 37) (j := 4) (by decide) rfl (h_eqI h) (h_MG1 (k := 37) (j := 5) (by decide) rfl (h_eqI s) h_MG0))) hi
  · exact i_sameB hct_listed_1_2_0 2 rfl rfl (show (10 : Nat) ≤ 60 by decide) (h_R trivial) hT (h_MG1 (k := 37) (j := 3) (by decide) rfl (h_eqI w) (h_MG1 (k := 37) (j := 4) (by decide) rfl (h_eqI h) (h_MG1 (k := 37) (j := 5) (by decide) rfl (h_eqI s) h_MG0))) hi
  · exact i_sameB hct_listed_1_2_1 2 rfl rfl (show (11 : Nat) ≤ 60 by decide) (h_R trivial) hT (h_MG1 (k := 37) (j := 3) (by decide) rfl (h_eqI w) (h_MG1 (k := 37) (j := 4) (by decide) rfl (h_eqI h) (h_MG1 (k := 37) (j := 5) (by decide) rfl (h_eqI s) h_MG0))) hi
  · exact i_sameB hct_listed_1_2_2 2 rfl rfl (show (11 : Nat) ≤ 60 by decide) (h_R trivial) hT (h_MG1 (k := 37) (j := 3) (by decide) rfl (h_eqI w) (h_MG1 (k := 37) (j := 4) (by decide) rfl (h_eqI h) (h_MG1 (k := 37) (j := 5) (by decide) rfl (h_eqI s) h_MG0))) hi
  · exact i_sameB hct_listed_1_3_0 2 rfl rfl (show (11 : Nat) ≤ 60 by decide) (h_R trivial) hT (h_MG1 (k := 37) (j := 3) (by decide) rfl (h_eqI w) (h_MG1 (k := 37) (j := 4) (by decide) rfl (h_eqI h) (h_MG1 (k := 37) (j := 5) (by decide) rfl (h_eqI s) h_MG0))) hi
  · exact i_sameB hct_listed_1_3_1 2 rfl rfl (show (12 : Nat) ≤ 60 by decide) (h_R trivial) hT (h_MG1 (k := 37) (j := 3) (by decide) rfl (h_eqI w) (h_MG1 (k := 37) (j := 4) (by decide) rfl (h_eqI h) (h_MG1 (k := 37) (j := 5) (by decide) rfl (h_eqI s) h_MG0))) hi
  · exact i_sameB hct_listed_1_3_2 2 rfl rfl (show (12 : Nat) ≤ 60 by decide) (h_R trivial) hT (h_MG1 (k := 37) (j := 3) (by decide) rfl (h_eqI w) (h_MG1 (k := 37) (j := 4) (by decide) rfl (h_eqI h) (h_MG1 (k := 37) (j := 5) (by decide) rfl (h_eqI s) h_MG0))) hi
  · exact i_sameB hct_listed_2_1_0 2 rfl rfl (show (10 : Nat) ≤ 60 by decide) (h_R trivial) hT (h_MG1 (k := 37) (j := 3) (by decide) rfl (h_eqI w) (h_MG1 (k := 37) (j := 4) (by decide) rfl (h_eqI h) (h_MG1 (k := 37) (j := 5) (by decide) rfl (h_eqI s) h_MG0))) hi
  · exact i_sameB hct_listed_2_1_1 2 rfl rfl (show (11 : Nat) ≤ 60 by decide) (h_R trivial) hT (h_MG1 (k := 37) (j := 3) (by decide) rfl (h_eqI w) (h_MG1 (k := 37) (j := 4) (by decide) rfl (h_eqI h) (h_MG1 (k := 37) (j := 5) (by decide) rfl (h_eqI s) h_MG0))) hi
  · exact i_sameB hct_listed_2_1_2 2 rfl rfl (show (11 : Nat) ≤ 60 by decide) (h_R trivial) hT (h_MG1 (k := 37) (j := 3) (by decide) rfl (h_eqI w) (h_MG1 (k := 37) (j := 4) (by decide) rfl (h_eqI h) (h_MG1 (k := 37) (j := 5) (by decide) rfl (h_eqI s) h_MG0))) hi
  · exact i_sameB hct_listed_2_2_0 2 rfl rfl (show (12 : Nat) ≤ 60 by decide) (h_R trivial) hT (h_MG1 (k := 37) (j := 3) (by decide) rfl (h_eqI w) (h_MG1 (k := 37) (j := 4) (by decide) rfl (h_eqI h) (h_MG1 (k := 37) (j := 5) (by decide) rfl (h_eqI s) h_MG0))) hi
  · exact i_sameB hct_listed_2_2_1 2 rfl rfl (show (13 : Nat) ≤ 60 by decide) (h_R trivial) hT (h_MG1 (k := 37) (j := 3) (by decide) rfl (h_eqI w) (h_MG1 (k := 37) (j := 4) (by decide) rfl (h_eqI h) (h_MG1 (k := 37) (j := 5) (by decide) rfl (h_eqI s) h_MG0))) hi
  · exact i_sameB hct_listed_2_2_2 2 rfl rfl (show (13 : Nat) ≤ 60 by decide) (h_R trivial) hT (h_MG1 (k := 37) (j := 3) (by decide) rfl (h_eqI w) (h_MG1 (k := 37) (j := 4) (by decide) rfl (h_eqI h) (h_MG1 (k := 37) (j := 5) (by decide) rfl (h_eqI s) h_MG0))) hi
  · exact i_sameB hct_listed_2_3_0 2 rfl rfl (show (1 : Nat) ≤ 60 by decide) (h_R trivial) hT (h_MG1 (k := 37) (j := 3) (by decide) rfl (h_eqI w) (h_MG1 (k := 37) (j := 4) (by decide) rfl (h_eqI h) (h_MG1 (k := 37) (j := 5) (by decide) rfl (h_eqI s) h_MG0))) hi
  · exact i_sameB hct_listed_2_3_1 2 rfl rfl (show (1 : Nat) ≤ 60 by decide) (h_R trivial) hT (h_MG1 (k := 37) (j := 3) (by decide) rfl (h_eqI w) (h_MG1 (k := 37) (j := 4) (by decide) rfl (h_eqI h) (h_MG1 (k := 37) (j := 5) (by decide) rfl (h_eqI s) h_MG0))) hi
  · exact i_sameB hct_listed_2_3_2 2 rfl rfl (show (1 : Nat) ≤ 60 by decide) (h_R trivial) hT (h_MG1 (k := 37) (j := 3) (by decide) rfl (h_eqI w) (h_MG1 (k := 37) (j := 4) (by decide) rfl (h_eqI h) (h_MG1 (k := 37) (j := 5) (by decide) rfl (h_eqI s) h_MG0))) hi
  · exact i_sameB hct_listed_3_1_0 2 rfl rfl (show (11 : Nat) ≤ 60 by decide) (h_R trivial) hT (h_MG1 (k := 37) (j := 3) (by decide) rfl (h_eqI w) (h_MG1 (k := 37) (j := 4) (by decide) rfl (h_eqI h) (h_MG1 (k := 37) (j := 5) (by decide) rfl (h_eqI s) h_MG0))) hi
  · exact i_sameB hct_listed_3_1_1 2 rfl rfl (show (12 : Nat) ≤ 60 by decide) (h_R trivial) hT (h_MG1 (k := 37) (j := 3) (by decide) rfl (h_eqI w) (h_MG1 (k := 37) (j := 4) (by decide) rfl (h_eqI h) (h_MG1 (k := 37) (j := 5) (by decide) rfl (h_eqI s) h_MG0))) hi
  · exact i_sameB hct_listed_3_1_2 2 rfl rfl (show (12 : Nat) ≤ 60 by decide) (h_R trivial) hT (h_MG1 (k := 37) (j := 3) (by decide) rfl (h_eqI w) (h_MG1 (k := 37) (j := 4) (by decide) rfl (h_eqI h) (h_MG1 (k := 37) (j := 5) (by decide) rfl (h_eqI s) h_MG0))) hi
  · exact i_sameB hct_listed_3_2_0 2 rfl rfl (show (1 : Nat) ≤ 60 by decide) (h_R trivial) hT (h_MG1 (k := 37) (j := 3) (by decide) rfl (h_eqI w) (h_MG1 (k := 37) (j := 4) (by decide) rfl (h_eqI h) (h_MG1 (k := 37) (j := 5) (by decide) rfl (h_eqI s) h_MG0))) hi
  · exact i_sameB hct_listed_3_2_1 2 rfl rfl (show (1 : Nat) ≤ 60 by decide) (h_R trivial) hT (h_MG1 (k := 37) (j := 3) (by decide) rfl (h_eqI w) (h_MG1 (k := 37) (j := 4) (by decide) rfl (h_eqI h) (h_MG1 (k := 37) (j := 5) (by decide) rfl (h_eqI s) h_MG0))) hi
  · exact i_sameB hct_listed_3_2_2 2 rfl rfl (show (1 : Nat) ≤ 60 by decide) (h_R trivial) hT (h_MG1 (k := 37) (j := 3) (by decide) rfl (h_eqI w) (h_MG1 (k := 37) (j := 4) (by decide) rfl (h_eqI h) (h_MG1 (k := 37) (j := 5) (by decide) rfl (h_eqI s) h_MG0))) hi
  · exact i_sameB hct_listed_3_3_0 2 rfl rfl (show (1 : Nat) ≤ 60 by decide) (h_R trivial) hT (h_MG1 (k := 37) (j := 3) (by decide) rfl (h_eqI w) (h_MG1 (k := 37) (j := 4) (by decide) rfl (h_eqI h) (h_MG1 (k := 37) (j := 5) (by decide) rfl (h_eqI s) h_MG0))) hi
  · exact i_sameB hct_listed_3_3_1 2 rfl rfl (show (1 : Nat) ≤ 60 by decide) (h_R trivial) hT (h_MG1 (k := 37) (j := 3) (by decide) rfl (h_eqI w) (h_MG1 (k := 37) (j := 4) (by decide) rfl (h_eqI h) (h_MG1 (k := 37) (j := 5) (by decide) rfl (h_eqI s) h_MG0))) hi
  · exact i_sameB hct_listed_3_3_2 2 rfl rfl (show (1 : Nat) ≤ 60 by decide) (h_R trivial) hT (h_MG1 (k := 37) (j := 3) (by decide) rfl (h_eqI w) (h_MG1 (k := 37) (j := 4) (by decide) rfl (h_eqI h) (h_MG1 (k := 37) (j := 5) (by decide) rfl (h_eqI s) h_MG0))) hi
theorem m_listed {nS : Nat} {M : aM} (hT : z_MT (zTb, [], []) M) (hi : iM M) : aC nS 60 242 [vR 36 0] M (fun v M' => i_vT 2 v ∧ mPost (z_b (M.1 36 0 6)) M M' ∧ mSm M M') (fun _ _ => False) := aC_post (aC_and (m_listed0 hT hi) (r_listedL hT)) (fun v M' z => ⟨z.1.1, z.1.2.1, z.1.2.2.1, z.1.2.2.2 8 (Or.inl (by decide)), z.1.2.2.2 7 (Or.inl (by decide)), fun j a b => by
  by_cases h9 : 20 ≤ j ∧ j ≤ 43
  · have h8 := z.2 (j - 20) (by omega)
    rw [show 20 + (j - 20) = j by omega] at h8
    exact h8
  · exact z.1.2.2.2 j (by omega)⟩) (fun _ _ z => z.1)
theorem m_states {nS : Nat} {M : aM} {a1 : Int32} (hT : z_MT (zTb, [], []) M) (hi : iM M)  : aC nS 60 239 [vR 36 0, vI a1] M (fun v M' => i_vT 2 v ∧ mPost (z_b (M.1 36 0 6)) M M' ∧ mSm M M') (fun _ _ => False) := i_sameX hct_states 2 rfl rfl (show (7 : Nat) ≤ 60 by decide) (h_R (h_I trivial)) hT h_MG0 hi
theorem m_mean {nS : Nat} {M : aM} {a1 : Int32} (hT : z_MT (zTb, [], []) M) (hi : iM M)  : aC nS 60 246 [vR 36 0, vI a1] M (fun v M' => i_vT 2 v ∧ mPost 2147483648 M M' ∧ mSm M M') (fun _ _ => False) := (by
    obtain ⟨q, hq, q1, q2⟩ := hi.1
    revert q1 q2
    exact i_pairs (P := fun a b => z_b (M.1 37 0 1) = a → z_b (M.1 37 0 2) = b → aC nS 60 246 [vR 36 0, vI a1] M (fun v M' => i_vT 2 v ∧ mPost 2147483648 M M' ∧ mSm M M') (fun _ _ => False)) (fun q1 q2 => i_zeroX hct_mean_0_2 2 rfl rfl (show (12 : Nat) ≤ 60 by decide) (h_R (h_I trivial)) hT (h_MG1 (k := 37) (j := 1) (by decide) rfl (h_eqI q1) (h_MG1 (k := 37) (j := 2) (by decide) rfl (h_eqI q2) h_MG0)) hi) (fun q1 q2 => i_zeroX hct_mean_0_3 2 rfl rfl (show (12 : Nat) ≤ 60 by decide) (h_R (h_I trivial)) hT (h_MG1 (k := 37) (j := 1) (by decide) rfl (h_eqI q1) (h_MG1 (k := 37) (j := 2) (by decide) rfl (h_eqI q2) h_MG0)) hi) (fun q1 q2 => i_zeroX hct_mean_0_4 2 rfl rfl (show (12 : Nat) ≤ 60 by decide) (h_R (h_I trivial)) hT (h_MG1 (k := 37) (j := 1) (by decide) rfl (h_eqI q1) (h_MG1 (k := 37) (j := 2) (by decide) rfl (h_eqI q2) h_MG0)) hi) (fun q1 q2 => i_zeroX hct_mean_0_5 2 rfl rfl (show (12 : Nat) ≤ 60 by decide) (h_R (h_I trivial)) hT (h_MG1 (k := 37) (j := 1) (by decide) rfl (h_eqI q1) (h_MG1 (k := 37) (j := 2) (by decide) rfl (h_eqI q2) h_MG0)) hi) (fun q1 q2 => i_zeroX hct_mean_0_6 2 rfl rfl (show (12 : Nat) ≤ 60 by decide) (h_R (h_I trivial)) hT (h_MG1 (k := 37) (j := 1) (by decide) rfl (h_eqI q1) (h_MG1 (k := 37) (j := 2) (by decide) rfl (h_eqI q2) h_MG0)) hi) (fun q1 q2 => i_zeroX hct_mean_0_7 2 rfl rfl (show (12 : Nat) ≤ 60 by decide) (h_R (h_I trivial)) hT (h_MG1 (k := 37) (j := 1) (by decide) rfl (h_eqI q1) (h_MG1 (k := 37) (j := 2) (by decide) rfl (h_eqI q2) h_MG0)) hi) (fun q1 q2 => i_zeroX hct_mean_0_8 2 rfl rfl (show (12 : Nat) ≤ 60 by decide) (h_R (h_I trivial)) hT (h_MG1 (k := 37) (j := 1) (by decide) rfl (h_eqI q1) (h_MG1 (k := 37) (j := 2) (by decide) rfl (h_eqI q2) h_MG0)) hi) (fun q1 q2 => i_zeroX hct_mean_1_4 2 rfl rfl (show (12 : Nat) ≤ 60 by decide) (h_R (h_I trivial)) hT (h_MG1 (k := 37) (j := 1) (by decide) rfl (h_eqI q1) (h_MG1 (k := 37) (j := 2) (by decide) rfl (h_eqI q2) h_MG0)) hi) (fun q1 q2 => i_zeroX hct_mean_1_6 2 rfl rfl (show (12 : Nat) ≤ 60 by decide) (h_R (h_I trivial)) hT (h_MG1 (k := 37) (j := 1) (by decide) rfl (h_eqI q1) (h_MG1 (k := 37) (j := 2) (by decide) rfl (h_eqI q2) h_MG0)) hi) (fun q1 q2 => i_zeroX hct_mean_1_8 2 rfl rfl (show (12 : Nat) ≤ 60 by decide) (h_R (h_I trivial)) hT (h_MG1 (k := 37) (j := 1) (by decide) rfl (h_eqI q1) (h_MG1 (k := 37) (j := 2) (by decide) rfl (h_eqI q2) h_MG0)) hi) (fun q1 q2 => i_zeroX hct_mean_2_8 2 rfl rfl (show (12 : Nat) ≤ 60 by decide) (h_R (h_I trivial)) hT (h_MG1 (k := 37) (j := 1) (by decide) rfl (h_eqI q1) (h_MG1 (k := 37) (j := 2) (by decide) rfl (h_eqI q2) h_MG0)) hi) (fun q1 q2 => i_zeroX hct_mean_3_2 2 rfl rfl (show (12 : Nat) ≤ 60 by decide) (h_R (h_I trivial)) hT (h_MG1 (k := 37) (j := 1) (by decide) rfl (h_eqI q1) (h_MG1 (k := 37) (j := 2) (by decide) rfl (h_eqI q2) h_MG0)) hi) (fun q1 q2 => i_zeroX hct_mean_3_4 2 rfl rfl (show (12 : Nat) ≤ 60 by decide) (h_R (h_I trivial)) hT (h_MG1 (k := 37) (j := 1) (by decide) rfl (h_eqI q1) (h_MG1 (k := 37) (j := 2) (by decide) rfl (h_eqI q2) h_MG0)) hi) (fun q1 q2 => i_zeroX hct_mean_3_8 2 rfl rfl (show (12 : Nat) ≤ 60 by decide) (h_R (h_I trivial)) hT (h_MG1 (k := 37) (j := 1) (by decide) rfl (h_eqI q1) (h_MG1 (k := 37) (j := 2) (by decide) rfl (h_eqI q2) h_MG0)) hi) q hq)
theorem m_body {nS : Nat} {M : aM} {a1 : Int32} {a2 : Int32} {a3 : Int32} (hT : z_MT (zTb, [], []) M) (hi : iM M)  : aC nS 60 250 [vR 36 0, vI a1, vI a2, vI a3] M (fun v M' => i_vT 2 v ∧ mPost (z_b (M.1 36 0 6)) M M' ∧ mSm M M') (fun _ _ => False) := i_sameX hct_body 2 rfl rfl (show (6 : Nat) ≤ 60 by decide) (h_R (h_I (h_I (h_I trivial)))) hT h_MG0 hi
theorem mPost_c {W : zW} {M M' : aM} (h : z_M (zTb, W, []) M [] M') (hi : iM M) (hw : (iWm W && (iFd W && !(z_w W 36 6 6))) = true) {d k : Nat} (hd : d ≤ k) (hk : k ≤ 20) (h8 : M'.1 37 0 8 = Int32.ofNat d) (h7 : M'.1 37 0 7 = Int32.ofNat k) : mPost (z_b (M.1 36 0 6)) M M' := by
  rw [Bool.and_eq_true, Bool.and_eq_true] at hw
  obtain ⟨k3, k4, k5⟩ := hw
  unfold iFd at k4
  rw [Bool.and_eq_true, Bool.and_eq_true, Bool.and_eq_true, Bool.and_eq_true, Bool.and_eq_true, Bool.and_eq_true] at k4
  obtain ⟨f1, f2, f3, f4, f5, f6, f7⟩ := k4
  have hq := h.2.1
  exact ⟨h.1, ⟨iP_eq (i_nw hq f1) (i_nw hq f2) hi.1, ⟨d, by omega, by rw [h8]; exact z_b_ofNat (by omega), by rw [h7, z_b_ofNat (by omega)]; omega⟩, iK_eq (i_nw hq f3) (i_nw hq f4) (i_nw hq f5) (i_nw hq f6) (i_nw hq f7) hi.2.2⟩, m_fr h k3, by rw [i_nw hq k5]⟩
theorem x_rd {n k : Nat} (h : n ≤ k) : (if n = k then n else n + 1) ≤ k := by
  by_cases e : n = k
  · rw [if_pos e]
    exact h
  · rw [if_neg e]
    omega
theorem hN_le (n : Nat) : hN n ≤ 20 := by
  unfold hN
  omega
theorem m_set {nS n k : Nat} {e : xB} {M : aM} {a1 a2 a3 a4 : Int32} {m : Nat} (hT : z_MT (zTb, [], []) M) (hi : iM M) (hS : SM e n k M) (b3 : a3 = 0 ∨ a3 = 1) (hm : m ≤ 1) (hz : a3 = Int32.ofNat m) (hL : LL 37 M e) : aC nS 60 218 [vR 36 0, vI a1, vI a2, vI a3, vI a4] M (fun v M' => (∃ x, v = some (vI x)) ∧ mPost (z_b (M.1 36 0 6)) M M' ∧ mHx (okL e.2.1.1 e.2.1.2.1 e.2.1.2.2 a1 a2 m ∧ okT e.1.2 a4) (Int32.ofNat (hN n)) M M' ∧ yM_set e n a1 a2 m a4 v M M') (fun _ _ => False) := by
  refine aC_post (aC_and (m_setX hT hS.1 hm hz (Nat.le_trans hS.2.1 hS.2.2.1) hS.2.2.2.1) (r_setL hS.1 hL.1 hm hz (Nat.le_trans hS.2.1 hS.2.2.1) hS.2.2.2.1)) (fun v M' z => ?_) (fun _ _ z => z.1)
  obtain ⟨⟨r, z⟩, zL⟩ := z
  rcases z with ⟨ok, -, hM, h8, h7⟩ | ⟨no, -, hM⟩
  · exact ⟨r, mPost_c hM hi rfl (Nat.le_refl _) (hN_le n) h8 h7, ⟨mHs_ok (W := [(36, 0, 0), (37, 7, 8), (37, 18, 43), (37, 50, 1009)]) rfl hM.2.1, Or.inl ⟨ok, h8, h7⟩⟩, zL⟩
  · exact ⟨r, mPost_same hM hi rfl, ⟨mHs_ok (W := [(36, 0, 0)]) rfl hM.2.1, Or.inr ⟨no, h_un hM rfl, h_un hM rfl⟩⟩, zL⟩
theorem m_frame {nS n k : Nat} {e : xB} {M : aM} {a1 a2 a3 : Int32} (hT : z_MT (zTb, [], []) M) (hi : iM M) (hS : SM e n k M)  (hL : LL 37 M e) : aC nS 60 220 [vR 36 0, vI a1, vI a2, vI a3] M (fun v M' => (∃ x, v = some (vI x)) ∧ mPost (z_b (M.1 36 0 6)) M M' ∧ mHx (xP a1 a2 e.2.1.1 e.2.1.2.1 ∧ okT e.1.2 a3) (Int32.ofNat (hN n)) M M' ∧ yM_frame e n a1 a2 a3 v M M') (fun _ _ => False) := by
  refine aC_post (aC_and (m_frameX hT hS.1 (Nat.le_trans hS.2.1 hS.2.2.1) hS.2.2.2.1) (r_frameL hS.1 hL.2 hL.1 (Nat.le_trans hS.2.1 hS.2.2.1) hS.2.2.2.1)) (fun v M' z => ?_) (fun _ _ z => z.1)
  obtain ⟨⟨r, z⟩, zL⟩ := z
  rcases z with ⟨ok, -, hM, h8, h7⟩ | ⟨no, -, hM⟩
  · exact ⟨r, mPost_c hM hi rfl (Nat.le_refl _) (hN_le n) h8 h7, ⟨mHs_ok (W := [(36, 0, 0), (37, 7, 8), (37, 18, 43), (37, 50, 1009)]) rfl hM.2.1, Or.inl ⟨ok, h8, h7⟩⟩, zL⟩
  · exact ⟨r, mPost_same hM hi rfl, ⟨mHs_ok (W := [(36, 0, 0)]) rfl hM.2.1, Or.inr ⟨no, h_un hM rfl, h_un hM rfl⟩⟩, zL⟩
theorem m_undo {nS n k : Nat} {e : xB} {M : aM} (hT : z_MT (zTb, [], []) M) (hi : iM M) (hS : SM e n k M) : aC nS 60 221 [vR 36 0] M (fun v M' => v = some (vI (Int32.ofNat (if n = 0 then 0 else 1))) ∧ mPost (z_b (M.1 36 0 6)) M M' ∧ mHs M M' ∧ (M'.1 37 0 8 = Int32.ofNat (n - 1) ∧ M'.1 37 0 7 = Int32.ofNat k) ∧ yM_undo n M M') (fun _ _ => False) := aC_post (aC_and (m_undoX hT (Nat.le_trans hS.2.1 hS.2.2.1) hS.2.2.2.1) (r_undoL (Nat.le_trans hS.2.1 hS.2.2.1) hS.2.2.2.1)) (fun v M' z => ⟨z.1.1, mPost_c z.1.2.1 hi rfl (Nat.le_trans (Nat.sub_le n 1) hS.2.1) hS.2.2.1 z.1.2.2 ((h_un z.1.2.1 rfl).trans hS.2.2.2.2), mHs_ok (W := [(36, 0, 0), (37, 18, 43), (37, 8, 8)]) rfl z.1.2.1.2.1, ⟨z.1.2.2, (h_un z.1.2.1 rfl).trans hS.2.2.2.2⟩, by
    rcases z.2 with ⟨q1, -, q2⟩ | ⟨q1, -, q2, -, q3, q4⟩
    · exact Or.inl ⟨q1, q2⟩
    · exact Or.inr ⟨q1, q2, q3, q4⟩⟩) (fun _ _ z => z.1)
theorem m_redo {nS n k : Nat} {e : xB} {M : aM} (hT : z_MT (zTb, [], []) M) (hi : iM M) (hS : SM e n k M) : aC nS 60 222 [vR 36 0] M (fun v M' => v = some (vI (Int32.ofNat (if n = k then 0 else 1))) ∧ mPost (z_b (M.1 36 0 6)) M M' ∧ mHs M M' ∧ (M'.1 37 0 8 = Int32.ofNat (if n = k then n else n + 1) ∧ M'.1 37 0 7 = Int32.ofNat k) ∧ yM_redo n k M M') (fun _ _ => False) := aC_post (aC_and (m_redoX hT hS.2.1 hS.2.2.1 hS.2.2.2.1 hS.2.2.2.2) (r_redoL hS.2.1 hS.2.2.1 hS.2.2.2.1 hS.2.2.2.2)) (fun v M' z => ⟨z.1.1, mPost_c z.1.2.1 hi rfl (x_rd hS.2.1) hS.2.2.1 z.1.2.2 ((h_un z.1.2.1 rfl).trans hS.2.2.2.2), mHs_ok (W := [(36, 0, 0), (37, 18, 43), (37, 8, 8)]) rfl z.1.2.1.2.1, ⟨z.1.2.2, (h_un z.1.2.1 rfl).trans hS.2.2.2.2⟩, by
    rcases z.2 with ⟨q1, -, q2⟩ | ⟨q1, -, q2, -, q3, q4⟩
    · exact Or.inl ⟨q1, q2⟩
    · exact Or.inr ⟨q1, q2, q3, q4⟩⟩) (fun _ _ z => z.1)
theorem m_draw {nS n k : Nat} {e : xB} {M : aM} {a1 : Int32} (hT : z_MT (zTb, [], []) M) (hi : iM M) (hS : SM e n k M) (hw : wOK e) : aC nS 60 254 [vR 36 0, vI a1] M (fun v M' => (∃ x, v = some (vL x)) ∧ mPost (z_b (M.1 36 0 6)) M M' ∧ mHx (e.2.1.2.2 = 0 ∧ 0 < e_sm M (e_w M) e.1.2) 0 M M' ∧ yM_draw e n a1 v M M') (fun _ _ => False) := by
  obtain ⟨ho, o2, o8, hq, -, -, -, -, s2⟩ := rB_h hS.1
  refine aC_post (aC_and (e_draw hT hi) (r_drawL hS.1 hw)) (fun v M' z => ?_) (fun _ _ z => z.1)
  obtain ⟨⟨r, p, -, N, hN, eN, z⟩, zL⟩ := z
  have e9 : N = e.1.2 := x_inj (by omega) (by omega) (eN.symm.trans ho)
  subst e9
  have i5 : M.1 37 0 5 = 0 ↔ e.2.1.2.2 = 0 := by
    rw [hq.2.2]
    exact ⟨fun h => x_inj (y := 0) (by omega) (by decide) h, fun h => by rw [h]; rfl⟩
  rcases z with ⟨-, ⟨h5, hp⟩, hM, h7, h8⟩ | ⟨-, hno, hM⟩
  · exact ⟨r, p, ⟨mHs_ok (W := [(36, 0, 0), (37, 7, 8), (37, 18, 43)]) rfl hM.2.1, Or.inl ⟨⟨i5.mp h5, hp⟩, h8, h7⟩⟩, zL⟩
  · exact ⟨r, p, ⟨mHs_ok (W := [(36, 0, 0)]) rfl hM.2.1, Or.inr ⟨fun z => hno ⟨i5.mpr z.1, z.2⟩, h_un hM rfl, h_un hM rfl⟩⟩, zL⟩
/-- what a text of the board comes to, of the reference -/
def mBo (e : xB) (t : Nat) (v : Option aV) (M M' : aM) : Prop := (∀ j, M'.1 40 0 j = M.1 40 0 j) ∧ (∀ j, M'.1 38 0 j = M.1 38 0 j) ∧ M'.1 36 0 3 = M.1 36 0 3 ∧ ((t_read (M.1 40 0) t e = none ∧ M'.1 36 0 0 = 1 ∧ (∀ u, u < 50 → M'.1 37 0 u = M.1 37 0 u)) ∨ ((∃ e', t_read (M.1 40 0) t e = some e') ∧ M.1 37 0 0 = 12 ∧ M'.1 36 0 0 = 2 ∧ (∀ u, u < 50 → M'.1 37 0 u = M.1 37 0 u)) ∨ (∃ e', t_read (M.1 40 0) t e = some e' ∧ M.1 37 0 0 ≠ 12 ∧ M'.1 36 0 0 = 0 ∧ rBL 37 M' e' ∧ M'.1 37 0 0 = M.1 37 0 0 + 1 ∧ M'.1 37 0 7 = 0 ∧ M'.1 37 0 8 = 0 ∧ v = some (vI (M.1 37 0 0 + 1))))
theorem PM_no {k i j : Nat} (h36 : ¬ (k = 36 ∧ (j = 0 ∨ (6 ≤ j ∧ j ≤ 10)))) (h37 : ¬ (k = 37 ∧ j < 50)) (h39 : ¬ k = 39) : PM k i j = false := by
  cases hq : PM k i j with
  | false => rfl
  | true =>
    exfalso
    have z : ((Nat.beq k 36 && (Nat.beq j 0 || (Nat.ble 6 j && Nat.ble j 10))) || ((Nat.beq k 37 && Nat.blt j 50) || Nat.beq k 39)) = true := hq
    simp only [Bool.or_eq_true, Bool.and_eq_true] at z
    rcases z with ⟨z1, z2⟩ | (⟨z1, z2⟩ | z1)
    · refine h36 ⟨Nat.eq_of_beq_eq_true z1, ?_⟩
      rcases z2 with z2 | ⟨z2, z3⟩
      · exact Or.inl (Nat.eq_of_beq_eq_true z2)
      · exact Or.inr ⟨Nat.le_of_ble_eq_true z2, Nat.le_of_ble_eq_true z3⟩
    · exact h37 ⟨Nat.eq_of_beq_eq_true z1, z_blt z2⟩
    · exact h39 (Nat.eq_of_beq_eq_true z1)
theorem m_board {nS n k t : Nat} {e : xB} {M : aM} (hT : z_MT (zTb, [], []) M) (hi : iM M) (hS : SM e n k M) (ht : t ≤ 400) (hs : M.1 36 0 6 = Int32.ofNat t) (hL : LL 37 M e) : aC nS 60 211 [vR 36 0] M (fun v M' => (∃ x, v = some (vI x)) ∧ mPost 2147483648 M M' ∧ mBo e t v M M' ∧ ∀ j, 50 ≤ j → M'.1 37 0 j = M.1 37 0 j) (fun _ _ => False) := by
  refine aC_post (aC_and (e_board hT hi) (r_board (nS := nS) (d := 50) hs ht ⟨hS.1, hL⟩)) (fun v M' z => ?_) (fun _ _ z => z.1)
  obtain ⟨⟨r, p, -⟩, hf, -, z⟩ := z
  refine ⟨r, p, ⟨fun j => hf.1 40 0 j (PM_no (by omega) (by omega) (by omega)), fun j => hf.1 38 0 j (PM_no (by omega) (by omega) (by omega)), hf.1 36 0 3 (PM_no (by omega) (by omega) (by omega)), ?_⟩, fun j h9 => hf.1 37 0 j (PM_no (by omega) (by omega) (by omega))⟩
  rcases z with ⟨z1, z2, z3, -⟩ | ⟨z1, z2, z3, z4, -⟩ | z
  · exact Or.inl ⟨z1, z2, z3⟩
  · exact Or.inr (Or.inl ⟨z1, z2, z3, z4⟩)
  · exact Or.inr (Or.inr z)
theorem RX_board {t : Nat} {e : xB} {n k : Nat} {v w : Option aV} {M N1 N2 : aM} (hr : RX M) (hS : SX e n k M) (h1 : cPost 2147483648 M N1) (c : cBo e t v M N1) (h2 : mPost 2147483648 N1 N2) (m : mBo e t w N1 N2) : RX N2 ∧ ((v = some (vI 0) ∧ N2.1 36 0 0 = 0 ∧ ∃ x, w = some (vI x) ∧ N2.2 98 0 0 = x.toInt64) ∨ (v = some (vI 1) ∧ N2.1 36 0 0 = 1) ∨ (v = some (vI 2) ∧ N2.1 36 0 0 = 2)) := by
  obtain ⟨c2, cg, ck, cf, c⟩ := c
  obtain ⟨m40, m38, m3, m⟩ := m
  have row : N1.1 40 0 = M.1 2 0 := by
    funext j
    exact (R_f h1 40 j (by decide) (by decide)).trans (hr.1 j).symm
  rw [row] at m
  have g2 : cG 2 N1 := cG_fr hr.2.2.1.2 (fun q j a b => ck q j (by omega) (by omega))
  have kk : (N1.1 0 0 5 = 0 ∧ N2.1 36 0 3 = 0) ∨ (N1.1 0 0 5 = 1 ∧ N2.1 36 0 3 = 1 ∧ ∃ e, cB 2 N1 e ∧ rB 38 N2 e ∧ N1.1 4 2 4 = N2.1 38 0 0) := by
    have f3 : N2.1 36 0 3 = M.1 36 0 3 := m3.trans (R_f h1 36 3 (by decide) (by decide))
    rcases hr.2.2.2.2 with ⟨k1, k2⟩ | ⟨k1, k2, e9, e1, e2, e3⟩
    · exact Or.inl ⟨cf.trans k1, f3.trans k2⟩
    · exact Or.inr ⟨cf.trans k1, f3.trans k2, e9, cB_fr e1 (fun q j a b _ => ck q j a b), rB_fr e2 (fun j _ _ _ _ => (m38 j).trans (R_f h1 38 j (by decide) (by decide))), (ck 4 4 (by decide) (by decide)).trans (e3.trans ((R_f h1 38 0 (by decide) (by decide)).symm.trans (m38 0).symm))⟩
  have aa : ∀ j, N1.1 2 0 j = N2.1 40 0 j := fun j => (c2 j).trans ((congrFun row j).symm.trans (m40 j).symm)
  have t37 : N1.1 37 0 0 = M.1 4 0 4 := (R_f h1 37 0 (by decide) (by decide)).trans hS.2.2.1.symm
  -- nothing stays
  have same : (∀ u, u < 50 → N2.1 37 0 u = N1.1 37 0 u) → cB 0 N1 e → N1.1 4 0 4 = M.1 4 0 4 → N1.1 20 0 4 = M.1 20 0 4 → N1.1 20 0 5 = M.1 20 0 5 → RX N2 := fun hu b1 b2 b3 b4 => RX_mk h2 aa ⟨e, b1, rB_fr hS.2.1 (fun j _ hj _ _ => (hu j (by omega)).trans (R_f h1 37 j (by decide) (by decide))), b2.trans (t37.symm.trans (hu 0 (by decide)).symm)⟩ ⟨cg, g2⟩ (RX_d hr h1 b3 b4 (hu 8 (by decide)) (hu 7 (by decide))) kk
  rcases c with ⟨v0, vo, c12, e', ce, cb, ct, c4, c5⟩ | ⟨cc, cb, ct, c4, c5⟩
  · rcases m with ⟨me, -⟩ | ⟨-, m12, -⟩ | ⟨e2, me, m12, mt0, mb, mt, m7, m8, mv⟩
    · rw [ce] at me
      cases me
    · exact absurd (t37.symm.trans m12) c12
    · have ee : e' = e2 := Option.some.inj (ce.symm.trans me)
      subst ee
      refine ⟨RX_mk h2 aa ⟨e', cb, mb.1, ct.trans (by rw [mt, t37])⟩ ⟨cg, g2⟩ ⟨c4.trans m8.symm, c5.trans m7.symm⟩ kk, Or.inl ⟨v0, mt0, _, mv, ?_⟩⟩
      rw [(h2.2.2.1 98 0 0 (Or.inr (by decide))).2, vo, t37]
  · rcases m with ⟨me, mt0, hu⟩ | ⟨⟨e2, me⟩, m12, mt0, hu⟩ | ⟨e2, me, m12, mt0, mb, mt, m7, m8, mv⟩
    · refine ⟨same hu cb ct c4 c5, Or.inr (Or.inl ⟨?_, mt0⟩)⟩
      rcases cc with ⟨cv, -⟩ | ⟨-, -, e3, ce⟩
      · exact cv
      · rw [me] at ce
        cases ce
    · refine ⟨same hu cb ct c4 c5, Or.inr (Or.inr ⟨?_, mt0⟩)⟩
      rcases cc with ⟨-, ce⟩ | ⟨cv, -⟩
      · rw [me] at ce
        cases ce
      · exact cv
    · exfalso
      rcases cc with ⟨-, ce⟩ | ⟨-, c12, -⟩
      · rw [me] at ce
        cases ce
      · exact m12 (t37.trans c12)
theorem RX_image {t t2 : Nat} {e : xB} {n k : Nat} {M N1 N2 : aM} (hr : RX M) (hS : SX e n k M) (h1 : cPost t M N1) (hf : fr PI2 M N1) (h5 : N1.1 0 0 5 = 1) (hB : cB 2 N1 e) (ht : N1.1 4 2 4 = M.1 4 0 4) (h2 : mPost t2 N1 N2) (h3 : N2.1 36 0 3 = 1) (hM : z_M (zTb, [(36, 0, 0), (36, 3, 3), (38, 0, 1009)], []) N1 [] N2) (hu : ∀ u, u < 1010 → N2.1 38 0 u = N1.1 37 0 u) : RX N2 := by
  have f37 : ∀ j, N2.1 37 0 j = M.1 37 0 j := fun j => (hM.2.1 37 0 j rfl).1.trans (R_f h1 37 j (by decide) (by decide))
  have f38 : ∀ j, j < 1010 → N2.1 38 0 j = M.1 37 0 j := fun j hj => (hu j hj).trans (R_f h1 37 j (by decide) (by decide))
  refine RX_mk h2 (RX_a hr h1 (fun j => hf.1 2 0 j (PI2_no (by omega) (by omega))) (fun j => (hM.2.1 40 0 j rfl).1)) ⟨e, cB_fr hS.1 (fun q j a b _ => hf.1 q 0 j (PI2_no (by omega) (by omega))), rB_fr hS.2.1 (fun j _ _ _ _ => f37 j), (hf.1 4 0 4 (PI2_no (by omega) (by omega))).trans (hS.2.2.1.trans (f37 0).symm)⟩ ⟨cG_fr hr.2.2.1.1 (fun q j a b => hf.1 q 1 j (PI2_no (by omega) (by omega))), cB_G hB⟩ (RX_d hr h1 (hf.1 20 0 4 (PI2_no (by omega) (by omega))) (hf.1 20 0 5 (PI2_no (by omega) (by omega))) (hM.2.1 37 0 8 rfl).1 (hM.2.1 37 0 7 rfl).1) (Or.inr ⟨h5, h3, e, hB, ?_, ?_⟩)
  · obtain ⟨r1, r2, ⟨q1, q2, q3, q4, q5⟩, r4, r5⟩ := hS.2.1
    exact ⟨r1, r2, ⟨(f38 1 (by decide)).trans q1, (f38 2 (by decide)).trans q2, (f38 3 (by decide)).trans q3, (f38 4 (by decide)).trans q4, (f38 5 (by decide)).trans q5⟩, fun u hu8 => (f38 (10 + u) (by omega)).trans (r4 u hu8), by rw [f38 6 (by decide)]; exact r5⟩
  · exact ht.trans (hS.2.2.1.trans (f38 0 (by decide)).symm)
theorem RX_back {t t2 : Nat} {v w : Option aV} {M N1 N2 : aM} (hr : RX M) (h1 : cPost t M N1) (c : (M.1 0 0 5 = 0 ∧ v = some (vI 0) ∧ M = N1) ∨ (M.1 0 0 5 = 1 ∧ v = some (vI 1) ∧ ∃ e, rB 38 M e ∧ M.1 4 2 4 = M.1 38 0 0 ∧ fr PK0 M N1 ∧ cB 0 N1 e ∧ N1.1 4 0 4 = M.1 4 2 4 ∧ N1.1 20 0 4 = 0 ∧ N1.1 20 0 5 = 0)) (h2 : mPost t2 N1 N2) (q : N1.1 36 0 3 = 0 ∧ w = some (vI 0) ∨ ¬ N1.1 36 0 3 = 0 ∧ w = some (vI 1)) (m : (N1.1 36 0 3 = 0 ∧ z_M (zTb, [(36, 0, 0)], []) N1 [] N2) ∨ (¬ N1.1 36 0 3 = 0 ∧ z_M (zTb, [(36, 0, 0), (37, 0, 1009)], []) N1 [] N2 ∧ (∀ u, u < 1010 → u ≠ 7 → u ≠ 8 → N2.1 37 0 u = N1.1 38 0 u) ∧ N2.1 37 0 7 = 0 ∧ N2.1 37 0 8 = 0)) : RX N2 ∧ ∃ x y, v = some (vI x) ∧ w = some (vI y) ∧ x = y := by
  have k3 : N1.1 36 0 3 = M.1 36 0 3 := R_f h1 36 3 (by decide) (by decide)
  have ke : (M.1 0 0 5 = 0 ∧ M.1 36 0 3 = 0) ∨ (M.1 0 0 5 = 1 ∧ M.1 36 0 3 = 1) := by
    rcases hr.2.2.2.2 with ⟨k1, k2⟩ | ⟨k1, k2, -⟩
    · exact Or.inl ⟨k1, k2⟩
    · exact Or.inr ⟨k1, k2⟩
  rw [k3] at q m
  rcases c with ⟨c0, cv, cM⟩ | ⟨c1, cv, e, ce, ct, hf, cb, ct2, c4, c5⟩
  · have z0 : M.1 36 0 3 = 0 := by
      rcases ke with ⟨-, z⟩ | ⟨z, -⟩
      · exact z
      · exact absurd (c0.symm.trans z) (by decide)
    subst cM
    rcases m with ⟨-, hM⟩ | ⟨m, -⟩
    · rcases q with ⟨-, qv⟩ | ⟨q, -⟩
      · exact ⟨RX_same hr h1 ⟨⟨fun _ => rfl, fun _ _ _ _ _ _ => rfl, rfl⟩, rfl, rfl, fun _ _ _ _ => rfl⟩ h2 (mSm_ok (W := [(36, 0, 0)]) rfl hM.2.1), _, _, cv, qv, rfl⟩
      · exact absurd z0 q
    · exact absurd z0 m
  · have z1 : ¬ M.1 36 0 3 = 0 := by
      rcases ke with ⟨z, -⟩ | ⟨-, z⟩
      · exact absurd (z.symm.trans c1) (by decide)
      · rw [z]
        decide
    rcases m with ⟨m, -⟩ | ⟨-, hM, hu, m7, m8⟩
    · exact absurd m z1
    · rcases q with ⟨q, -⟩ | ⟨-, qv⟩
      · exact absurd q z1
      · have f : ∀ j, j < 1010 → j ≠ 7 → j ≠ 8 → N2.1 37 0 j = M.1 38 0 j := fun j a b c => (hu j a b c).trans (R_f h1 38 j (by decide) (by decide))
        refine ⟨RX_mk h2 (RX_a hr h1 (fun j => hf.1 2 0 j (PK0_no (by omega) (by omega))) (fun j => (hM.2.1 40 0 j rfl).1)) ⟨e, cb, ?_, ct2.trans (ct.trans (f 0 (by decide) (by decide) (by decide)).symm)⟩ ⟨cG_fr hr.2.2.1.1 (fun q j a b => hf.1 q 1 j (PK0_no (by omega) (by omega))), cG_fr hr.2.2.1.2 (fun q j a b => hf.1 q 2 j (PK0_no (by omega) (by omega)))⟩ ⟨c4.trans m8.symm, c5.trans m7.symm⟩ ?_, _, _, cv, qv, rfl⟩
        · obtain ⟨r1, r2, ⟨q1, q2, q3, q4, q5⟩, r4, r5⟩ := ce
          exact ⟨r1, r2, ⟨(f 1 (by decide) (by decide) (by decide)).trans q1, (f 2 (by decide) (by decide) (by decide)).trans q2, (f 3 (by decide) (by decide) (by decide)).trans q3, (f 4 (by decide) (by decide) (by decide)).trans q4, (f 5 (by decide) (by decide) (by decide)).trans q5⟩, fun u hu8 => (f (10 + u) (by omega) (by omega) (by omega)).trans (r4 u hu8), by rw [f 6 (by decide) (by decide) (by decide)]; exact r5⟩
        · have cc5 : N1.1 0 0 5 = M.1 0 0 5 := hf.1 0 0 5 (PK0_no (by omega) (by omega))
          have m33 : N2.1 36 0 3 = N1.1 36 0 3 := (hM.2.1 36 0 3 rfl).1
          have m38 : ∀ j, N2.1 38 0 j = M.1 38 0 j := fun j => (hM.2.1 38 0 j rfl).1.trans (R_f h1 38 j (by decide) (by decide))
          rcases hr.2.2.2.2 with ⟨k1, k2⟩ | ⟨k1, k2, e9, e1, e2, e3⟩
          · exact absurd k2 z1
          · exact Or.inr ⟨cc5.trans k1, m33.trans (k3.trans k2), e9, cB_fr e1 (fun q j a b _ => hf.1 q 2 j (PK0_no (by omega) (by omega))), rB_fr e2 (fun j _ _ _ _ => m38 j), (hf.1 4 2 4 (PK0_no (by omega) (by omega))).trans (e3.trans (m38 0).symm)⟩
theorem RX_tape {t t2 : Nat} {M N1 N2 : aM} (hr : RX M) (h1 : cPost t M N1) (hC : z_M (zTb, [(1, 1, 1), (2, 0, 399)], []) M [] N1) (h2 : mPost t2 N1 N2) (m : mB N1 N2) (m8 : N2.1 37 0 8 = N1.1 37 0 8) (m7 : N2.1 37 0 7 = N1.1 37 0 7) (m3 : N2.1 36 0 3 = N1.1 36 0 3) (m38 : ∀ j, N2.1 38 0 j = N1.1 38 0 j) (a : ∀ j, N1.1 2 0 j = N2.1 40 0 j) : RX N2 := by
  have cb : cBd M N1 := uB_ok (W := [(1, 1, 1), (2, 0, 399)]) rfl hC.2.1
  exact RX_mk h2 a (RX_b hr h1 cb m) (RX_c hr cb) (RX_d hr h1 (h_un hC rfl) (h_un hC rfl) m8 m7) (RX_k hr h1 cb (h_un hC rfl) m3 m38)
/-- the changes, told elsewhere -/
theorem hH_f {k o w h s n m : Nat} {S : Nat → Nat → Int32} {M M2 : aM} (hh : hH k o w h s n m S M) (a : ∀ j, M2.1 12 0 j = M.1 12 0 j) (b : ∀ q j, 21 ≤ q → q ≤ 23 → M2.1 q 0 j = M.1 q 0 j) (c : ∀ j, j ≠ 18 → j ≠ 19 → M2.1 37 0 j = M.1 37 0 j) : hH k o w h s n m S M2 := by
  obtain ⟨p1, p2, p3, p4⟩ := hh
  refine ⟨p1, fun l q r => (a l).trans (p2 l q r), fun l q r => (c _ (by omega) (by omega)).trans (p3 l q r), fun i hi => ?_⟩
  obtain ⟨q1, q2, q3⟩ := p4 i hi
  refine ⟨fun l q r => (c _ (by omega) (by omega)).trans (q1 l q r), fun l q r => (c _ (by omega) (by omega)).trans (q2 l q r), ?_⟩
  rw [b 21 i (by decide) (by decide), b 22 i (by decide) (by decide), b 23 i (by decide) (by decide)]
  exact q3
theorem RI_f {M M2 : aM} (hr : RI M) (a : M2.1 0 0 5 = M.1 0 0 5) (b : ∀ q j, 4 ≤ q → q ≤ 14 → M2.1 q 2 j = M.1 q 2 j) (c : ∀ j, M2.1 38 0 j = M.1 38 0 j) : RI M2 := by
  intro h5
  obtain ⟨e, e1, e2, e3, e4⟩ := hr (a.symm.trans h5)
  exact ⟨e, cB_fr e1 (fun q j p1 p2 _ => b q j p1 p2), rB_fr e2 (fun j _ _ _ _ => c j), LL_f e2.2.1 e3 (fun u _ => c _), e4⟩
/-- lines and changes of both sides -/
def RZ (M : aM) : Prop := (∃ e n k S, SX e n k M ∧ hH e.1.1 e.1.2 e.2.1.1 e.2.1.2.1 e.2.1.2.2 n k S M ∧ xE e) ∧ RI M
theorem SX_f {e : xB} {n k : Nat} {M M2 : aM} (h : SX e n k M) (a : ∀ q j, 4 ≤ q → q ≤ 14 → M2.1 q 0 j = M.1 q 0 j) (b4 : M2.1 20 0 4 = M.1 20 0 4) (b5 : M2.1 20 0 5 = M.1 20 0 5) (c : ∀ j, j ≤ 17 → M2.1 37 0 j = M.1 37 0 j) : SX e n k M2 := by
  obtain ⟨q1, q2, q3, q4, q5, q6, q7, q8, q9⟩ := h
  exact ⟨cB_fr q1 (fun q j p1 p2 _ => a q j p1 p2), rB_fr q2 (fun j _ p _ _ => c j p), (a 4 4 (by decide) (by decide)).trans (q3.trans (c 0 (by decide)).symm), q4, q5, b4.trans q6, b5.trans q7, (c 8 (by decide)).trans q8, (c 7 (by decide)).trans q9⟩
theorem RZ_keep {M M2 : aM} (hr : RZ M) (a0 : ∀ q j, 4 ≤ q → q ≤ 14 → M2.1 q 0 j = M.1 q 0 j) (a2 : ∀ q j, 4 ≤ q → q ≤ 14 → M2.1 q 2 j = M.1 q 2 j) (b4 : M2.1 20 0 4 = M.1 20 0 4) (b5 : M2.1 20 0 5 = M.1 20 0 5) (bb : ∀ q j, 21 ≤ q → q ≤ 23 → M2.1 q 0 j = M.1 q 0 j) (c37 : ∀ j, j ≠ 18 → j ≠ 19 → M2.1 37 0 j = M.1 37 0 j) (c38 : ∀ j, M2.1 38 0 j = M.1 38 0 j) (d : M2.1 0 0 5 = M.1 0 0 5) : RZ M2 := by
  obtain ⟨⟨e, n, k, S, hs, hh, hx⟩, hi⟩ := hr
  exact ⟨⟨e, n, k, S, SX_f hs a0 b4 b5 (fun j h => c37 j (by omega) (by omega)), hH_f hh (fun j => a0 12 j (by decide) (by decide)) bb c37, hx⟩, RI_f hi d a2 c38⟩
theorem mP_c {t : Nat} {N1 N2 : aM} (h2 : mPost t N1 N2) (q i j : Nat) (h : q < 36) : N2.1 q i j = N1.1 q i j := (h2.2.2.1 q i j (Or.inl h)).1
theorem RZ_same {t t2 : Nat} {M N1 N2 : aM} (hr : RZ M) (h1 : cPost t M N1) (c : cSm M N1) (h2 : mPost t2 N1 N2) (m : mSm N1 N2) : RZ N2 := by
  obtain ⟨⟨-, cb, c5⟩, c20, c25, cl⟩ := c
  have bd : ∀ i q j, 4 ≤ q → q ≤ 14 → N2.1 q i j = M.1 q i j := fun i q j p1 p2 => (mP_c h2 q i j (by omega)).trans (by
    by_cases h12 : q = 12
    · exact cl q i j (Or.inl h12)
    · exact cb q i j p1 p2 h12)
  exact RZ_keep hr (bd 0) (bd 2) ((mP_c h2 20 0 4 (by decide)).trans c20) ((mP_c h2 20 0 5 (by decide)).trans c25) (fun q j p1 p2 => (mP_c h2 q 0 j (by omega)).trans (cl q 0 j (Or.inr ⟨p1, p2⟩))) (fun j p1 p2 => (m.2.2.2 j p1 p2).trans (R_f h1 37 j (by decide) (by decide))) (fun j => (m.1.2.2.2 j).trans (R_f h1 38 j (by decide) (by decide))) ((mP_c h2 0 0 5 (by decide)).trans c5)
theorem RU_m {n : Nat} {M N1 N2 : aM} (h : ∀ j, N1.1 37 0 j = M.1 37 0 j) (hR : RU N1 N2 n) : RU M N2 n := ⟨hR.1, fun u hu => (hR.2.1 u hu).trans (h _), fun c hc => (hR.2.2.1 c hc).trans (h _), hR.2.2.2⟩
theorem NT_m {n : Nat} {M N N1 : aM} {p b f : Int32} (h : ∀ q j, 21 ≤ q → q ≤ 23 → N.1 q 0 j = M.1 q 0 j) (hT : NT N N1 n p b f) : NT M N1 n p b f := ⟨hT.1, fun q j a c d => (hT.2.1 q j a c d).trans (h q _ a c), hT.2.2⟩
theorem PHh_no {k i j : Nat} (h : ¬ (20 ≤ k ∧ k ≤ 23)) : PHh k i j = false := by
  show ((Nat.ble 20 k && Nat.ble k 23) && Nat.beq i 0) = false
  by_cases h9 : 20 ≤ k
  · rw [x_nble (show ¬ k ≤ 23 by omega), Bool.and_false]
    rfl
  · rw [x_nble h9]
    rfl
theorem PX_no {k i j : Nat} (h36 : ¬ (k = 36 ∧ j = 0)) (h37 : k = 37 → j < 20 ∧ j ≠ 7 ∧ j ≠ 8) : PX k i j = false := by
  cases hq : PX k i j with
  | false => rfl
  | true =>
    exfalso
    have z : ((Nat.beq k 36 && Nat.beq j 0) || (Nat.beq k 37 && ((Nat.ble 7 j && Nat.ble j 8) || Nat.ble 20 j))) = true := hq
    simp only [Bool.or_eq_true, Bool.and_eq_true] at z
    rcases z with ⟨z1, z2⟩ | ⟨z1, z2⟩
    · exact h36 ⟨Nat.eq_of_beq_eq_true z1, Nat.eq_of_beq_eq_true z2⟩
    · obtain ⟨a, b, c⟩ := h37 (Nat.eq_of_beq_eq_true z1)
      rcases z2 with ⟨z2, z3⟩ | z2
      · have := Nat.le_of_ble_eq_true z2
        have := Nat.le_of_ble_eq_true z3
        omega
      · have := Nat.le_of_ble_eq_true z2
        omega
/-- a line set: both sides -/
theorem RZ_chg {t t2 n k : Nat} {e : xB} {S : Nat → Nat → Int32} {M N1 N2 : aM} {p b f : Int32} {B : Nat → Int32} (hi : RI M) (hS : SX e n k M) (hh : hH e.1.1 e.1.2 e.2.1.1 e.2.1.2.1 e.2.1.2.2 n k S M) (hx : xE e) (h1 : cPost t M N1) (h2 : mPost t2 N1 N2) (c0 : ∀ q i j, ¬ (q = 12 ∧ i = 0) → ¬ (20 ≤ q ∧ q ≤ 23) → q < 36 → N1.1 q i j = M.1 q i j) (cL : ∀ l, l < 32 → N1.1 12 0 l = B l) (hN9 : NT M N1 n p b f) (hO : lO e.2.1.1 e.2.1.2.1 e.2.1.2.2 e.1.2 B) (hR : RU N1 N2 n) (hX : fr PX N1 N2) (hL : lR 37 20 N2 e.2.1.1 e.2.1.2.1 e.2.1.2.2 B) (hp : opR e.1.1 e.1.2 e.2.1.1 e.2.1.2.1 e.2.1.2.2 p b f (S n) B) : RZ N2 := by
  obtain ⟨w1, w3, h3, h4, s2⟩ := hS.1.2.1
  have e37 : ∀ j, N1.1 37 0 j = M.1 37 0 j := fun j => R_f h1 37 j (by decide) (by decide)
  have cc : ∀ q i j, q < 36 → N2.1 q i j = N1.1 q i j := fun q i j h => mP_c h2 q i j h
  have hR2 := RU_m e37 hR
  have hst := hH_step (B := B) w1 w3 h3 h4 s2 hS.2.2.2.1 hS.2.2.2.2.1 hh hO hN9 hR2 (fun l a _ => (cc 12 0 l (by decide)).trans (cL l a)) (fun q j a c => cc q 0 j (by omega)) hL hp
  obtain ⟨a1, a2, ⟨a3, a4, a5, a6, a7⟩, a8, a9, a10⟩ := hS.1
  have F : ∀ {q j : Nat}, ¬ q = 12 → q ≤ 14 → N2.1 q 0 j = M.1 q 0 j := fun {q j} h h9 => (cc q 0 j (by omega)).trans (c0 q 0 j (fun z => h z.1) (by omega) (by omega))
  have F2 : ∀ j, j ≤ 17 → j ≠ 7 → j ≠ 8 → N2.1 37 0 j = M.1 37 0 j := fun j p7 p8 p9 => (hX.1 37 0 j (PX_no (by omega) (fun _ => ⟨by omega, p8, p9⟩))).trans (e37 j)
  refine ⟨⟨(e.1, (e.2.1, (e.2.2.1, (e.2.2.2.1, B)))), hN n, hN n, _, ⟨⟨gF_fr a1 (fun q j c d => F (by omega) (by omega)), a2, ⟨(F (by decide) (by decide)).trans a3, (F (by decide) (by decide)).trans a4, (F (by decide) (by decide)).trans a5, (F (by decide) (by decide)).trans a6, (F (by decide) (by decide)).trans a7⟩, fun t ht => (F (by decide) (by decide)).trans (a8 t ht), fun j hj => (F (by decide) (by decide)).trans (a9 j hj), fun l hl9 => (cc 12 0 l (by decide)).trans (cL l hl9)⟩, rB_fr (e := e) hS.2.1 (fun j _ p7 p8 p9 => F2 j p7 p8 p9), (F (by decide) (by decide)).trans (hS.2.2.1.trans (F2 0 (by decide) (by decide) (by decide)).symm), Nat.le_refl _, hN_le n, (cc 20 0 4 (by decide)).trans hN9.1.1, (cc 20 0 5 (by decide)).trans hN9.1.2, hR.1.1, hR.1.2⟩, hst, hx⟩, RI_f hi ((cc 0 0 5 (by decide)).trans (c0 0 0 5 (by omega) (by omega) (by decide))) (fun q j p1 p2 => (cc q 2 j (by omega)).trans (c0 q 2 j (by omega) (by omega) (by omega))) (fun j => (hX.1 38 0 j (PX_no (by omega) (fun z => absurd z (by decide)))).trans (R_f h1 38 j (by decide) (by decide)))⟩
theorem RZ_nil {t t2 : Nat} {M N1 N2 : aM} {x : Int32} (hr : RZ M) (h1 : cPost t M N1) (h2 : mPost t2 N1 N2) (c : N1.1 = M.1) (m : N2 = a_pI N1 36 0 0 x) : RZ N2 := by
  have e : ∀ q i j, ¬ q = 36 → N2.1 q i j = M.1 q i j := fun q i j h => by
    rw [m, x_pn (fun z => h z.1), c]
  exact RZ_keep hr (fun q j a b => e q 0 j (by omega)) (fun q j a b => e q 2 j (by omega)) (e 20 0 4 (by decide)) (e 20 0 5 (by decide)) (fun q j a b => e q 0 j (by omega)) (fun j _ _ => e 37 0 j (by decide)) (fun j => e 38 0 j (by decide)) (e 0 0 5 (by decide))
theorem RZ_set {t t2 n k m : Nat} {e : xB} {S : Nat → Nat → Int32} {M N1 N2 : aM} {a1 a2 a4 : Int32} {v w : Option aV} (hm : m ≤ 1) (hi : RI M) (hS : SX e n k M) (hh : hH e.1.1 e.1.2 e.2.1.1 e.2.1.2.1 e.2.1.2.2 n k S M) (hx : xE e) (h1 : cPost t M N1) (c : yC_set e n a1 a2 m a4 v M N1) (h2 : mPost t2 N1 N2) (mm : yM_set e n a1 a2 m a4 w N1 N2) : RZ N2 ∧ ((v = some (vI 0) ∧ N2.1 36 0 0 = 0 ∧ ∃ x, w = some (vI x) ∧ N2.2 98 0 0 = x.toInt64) ∨ (v = some (vI 1) ∧ N2.1 36 0 0 = 1)) := by
  obtain ⟨w1, w3, h3, h4, s2⟩ := hS.1.2.1
  rcases c with ⟨a, b, u, ha, hb, hu, ea, eb, ht, hv, rfl, co, c0, cN⟩ | ⟨no, rfl, c0⟩
  · rcases mm with ⟨no, -, -⟩ | ⟨a', b', u', ha', hb', hu', ea', eb', ht', hv', rfl, hR, hX, h0, hL⟩
    · exact absurd ⟨okL_y ha hb ea eb hv, ⟨u, hu, ht⟩⟩ no
    · have q1 : a = a' := x_inj (by omega) (by omega) (ea.symm.trans ea')
      have q2 : b = b' := x_inj (by omega) (by omega) (eb.symm.trans eb')
      subst q1
      subst q2
      obtain ⟨xv, xm⟩ := xln_hl w1 w3 h3 h4 s2 ha hb hm hv
      have x32 := xln_lt (s := e.2.1.2.2) w1 w3 h3 h4 ha hb hm
      have ee : ∀ l, l < 32 → hl e.2.1.1 e.2.1.2.1 e.2.1.2.2 l = true → e.2.2.2.2 l = S n l := fun l p q => (hS.1.2.2.2.2.2 l p).symm.trans (hh.2.1 l p q)
      refine ⟨RZ_chg (B := fun l => if l = (xln e.2.1.1 e.2.1.2.1 e.2.1.2.2 a b m) then a4 else e.2.2.2.2 l) hi hS hh hx h1 h2 (fun q i j p1 p2 _ => ?_) (fun l hl9 => ?_) (NT_m (fun q j p1 p2 => x_pn (fun z => by have := z.1; omega)) cN) (fun l p q => ?_) hR hX (fun l p q => ?_) (Or.inl ⟨_, x32, xv, rfl, ?_, ?_, fun l2 p r q => ?_⟩), Or.inl ⟨rfl, h0, _, rfl, (h2.2.2.1 98 0 0 (Or.inr (by decide))).2.trans co⟩⟩
      · rw [c0 q i j (PHh_no p2)]
        exact x_pn (fun z => p1 ⟨z.1, z.2.1⟩)
      · rw [c0 12 0 l (PHh_no (by decide))]
        by_cases he : l = (xln e.2.1.1 e.2.1.2.1 e.2.1.2.2 a b m)
        · rw [if_pos he, he]
          exact x_pe
        · rw [if_neg he, x_pn (fun z => he z.2.2)]
          exact hS.1.2.2.2.2.2 l hl9
      · show ∃ a9, a9 < e.1.2 ∧ (if l = (xln e.2.1.1 e.2.1.2.1 e.2.1.2.2 a b m) then a4 else e.2.2.2.2 l) = Int32.ofNat a9
        by_cases he : l = (xln e.2.1.1 e.2.1.2.1 e.2.1.2.2 a b m)
        · rw [if_pos he]
          exact ⟨u, hu, ht⟩
        · rw [if_neg he]
          exact (SX_lO hS hh).1 l p q
      · show N2.1 37 0 (20 + lm e.2.1.1 e.2.1.2.1 e.2.1.2.2 l) = (if l = (xln e.2.1.1 e.2.1.2.1 e.2.1.2.2 a b m) then a4 else e.2.2.2.2 l)
        rw [hL _ (Nat.lt_of_lt_of_le (lm_lt w1 w3 h3 h4 s2 p q) (lmy_le w1 w3 h3 h4 s2))]
        by_cases he : l = (xln e.2.1.1 e.2.1.2.1 e.2.1.2.2 a b m)
        · rw [if_pos he, he, xm, if_pos rfl]
        · rw [if_neg he, if_neg (fun z => he (lm_inj w1 w3 h3 h4 s2 p x32 q xv (z.trans xm.symm)))]
          exact (R_f h1 37 _ (by decide) (by decide)).trans ((hh.2.2.1 l p q).trans (ee l p q).symm)
      · exact ee _ x32 xv
      · show a4 = (if (xln e.2.1.1 e.2.1.2.1 e.2.1.2.2 a b m) = (xln e.2.1.1 e.2.1.2.1 e.2.1.2.2 a b m) then a4 else e.2.2.2.2 (xln e.2.1.1 e.2.1.2.1 e.2.1.2.2 a b m))
        rw [if_pos rfl]
      · show (if l2 = (xln e.2.1.1 e.2.1.2.1 e.2.1.2.2 a b m) then a4 else e.2.2.2.2 l2) = S n l2
        rw [if_neg r]
        exact ee l2 p q
  · rcases mm with ⟨-, rfl, m0⟩ | ⟨a', b', u', ha', hb', hu', ea', eb', ht', hv', -⟩
    · exact ⟨RZ_nil ⟨⟨e, n, k, S, hS, hh, hx⟩, hi⟩ h1 h2 c0 m0, Or.inr ⟨rfl, by rw [m0]; exact x_pe⟩⟩
    · exact absurd ⟨okL_y ha' hb' ea' eb' hv', ⟨u', hu', ht'⟩⟩ no
theorem xP_y {a b w h : Nat} {x y : Int32} (w3 : w ≤ 3) (h3 : h ≤ 3) (ha : a ≤ w) (hb : b ≤ h) (hx : x = Int32.ofNat a) (hy : y = Int32.ofNat b) : xP x y w h := by
  rw [hx, hy]
  exact ⟨(hI_le (a := 0) (by decide) (by omega)).mpr (Nat.zero_le _), (hI_le (by omega) (by omega)).mpr ha, (hI_le (a := 0) (by decide) (by omega)).mpr (Nat.zero_le _), (hI_le (by omega) (by omega)).mpr hb⟩
theorem RZ_frame {t t2 n k : Nat} {e : xB} {S : Nat → Nat → Int32} {M N1 N2 : aM} {a1 a2 a3 : Int32} {v w : Option aV} (hi : RI M) (hS : SX e n k M) (hh : hH e.1.1 e.1.2 e.2.1.1 e.2.1.2.1 e.2.1.2.2 n k S M) (hx : xE e) (h1 : cPost t M N1) (c : yC_frame e n a1 a2 a3 v M N1) (h2 : mPost t2 N1 N2) (mm : yM_frame e n a1 a2 a3 w N1 N2) : RZ N2 ∧ ((v = some (vI 0) ∧ N2.1 36 0 0 = 0 ∧ ∃ x, w = some (vI x) ∧ N2.2 98 0 0 = x.toInt64) ∨ (v = some (vI 1) ∧ N2.1 36 0 0 = 1)) := by
  obtain ⟨w1, w3, h3, h4, s2⟩ := hS.1.2.1
  obtain ⟨o2, o8, -⟩ := gP_o (k := e.1.1) (o := e.1.2) hS.2.1.1
  rcases c with ⟨a, b, u, ha, hb, hu, ea, eb, ht, rfl, co, N, cf, cN, c0, cL⟩ | ⟨no, rfl, c0⟩
  · rcases mm with ⟨no, -, -⟩ | ⟨a', b', u', ha', hb', hu', ea', eb', ht', rfl, hR, hX, h0, hL⟩
    · exact absurd ⟨xP_y w3 h4 ha hb ea eb, ⟨u, hu, ht⟩⟩ no
    · have q1 : a = a' := x_inj (by omega) (by omega) (ea.symm.trans ea')
      have q2 : b = b' := x_inj (by omega) (by omega) (eb.symm.trans eb')
      have q3 : u = u' := x_inj (by omega) (by omega) (ht.symm.trans ht')
      subst q1
      subst q2
      subst q3
      have ee : ∀ l, l < 32 → hl e.2.1.1 e.2.1.2.1 e.2.1.2.2 l = true → e.2.2.2.2 l = S n l := fun l p q => (hS.1.2.2.2.2.2 l p).symm.trans (hh.2.1 l p q)
      refine ⟨RZ_chg (B := fun l => if hl e.2.1.1 e.2.1.2.1 e.2.1.2.2 l = true then rfv e.1.1 e.1.2 e.2.1.1 e.2.1.2.1 e.2.1.2.2 (xco e.2.1.1 e.2.1.2.1 e.2.1.2.2 a b) u l (e.2.2.2.2 l) else e.2.2.2.2 l) hi hS hh hx h1 h2 (fun q i j p1 p2 _ => ?_) (fun l hl9 => cL l hl9) (p := Int32.ofNat (32 + (xco e.2.1.1 e.2.1.2.1 e.2.1.2.2 a b))) (b := Int32.ofNat (ag e.1.1 e.1.2 u)) (f := a3) ?_ (fun l p q => ?_) hR hX (fun l p q => ?_) (Or.inr ⟨a, b, u, ha, hb, hu, rfl, rfl, ht, fun l p q => ?_⟩), Or.inl ⟨rfl, h0, _, rfl, (h2.2.2.1 98 0 0 (Or.inr (by decide))).2.trans co⟩⟩
      · rw [c0 q i j ?_]
        · exact cf.1 q i j (PHh_no p2)
        · show (Nat.beq q 12 && Nat.beq i 0) = false
          by_cases hq : q = 12
          · rw [x_nbeq (show ¬ i = 0 from fun z => p1 ⟨hq, z⟩), Bool.and_false]
          · rw [x_nbeq hq]
            rfl
      · have cc : ∀ q j, 20 ≤ q → N1.1 q 0 j = N.1 q 0 j := fun q j h => c0 q 0 j (PR_n (by omega))
        exact ⟨⟨(cc 20 4 (by decide)).trans cN.1.1, (cc 20 5 (by decide)).trans cN.1.2⟩, fun q j p1 p2 p3 => (cc q j (by omega)).trans (cN.2.1 q j p1 p2 p3), (cc 21 _ (by decide)).trans cN.2.2.1, (cc 22 _ (by decide)).trans cN.2.2.2.1, (cc 23 _ (by decide)).trans cN.2.2.2.2⟩
      · show ∃ a9, a9 < e.1.2 ∧ (if hl e.2.1.1 e.2.1.2.1 e.2.1.2.2 l = true then rfv e.1.1 e.1.2 e.2.1.1 e.2.1.2.1 e.2.1.2.2 (xco e.2.1.1 e.2.1.2.1 e.2.1.2.2 a b) u l (e.2.2.2.2 l) else e.2.2.2.2 l) = Int32.ofNat a9
        rw [if_pos q]
        exact rfv_ok hS.2.1.1 hu ((SX_lO hS hh).1 l p q)
      · show N2.1 37 0 (20 + lm e.2.1.1 e.2.1.2.1 e.2.1.2.2 l) = (if hl e.2.1.1 e.2.1.2.1 e.2.1.2.2 l = true then rfv e.1.1 e.1.2 e.2.1.1 e.2.1.2.1 e.2.1.2.2 (xco e.2.1.1 e.2.1.2.1 e.2.1.2.2 a b) u l (e.2.2.2.2 l) else e.2.2.2.2 l)
        rw [if_pos q]
        exact hL l p q
      · show (if hl e.2.1.1 e.2.1.2.1 e.2.1.2.2 l = true then rfv e.1.1 e.1.2 e.2.1.1 e.2.1.2.1 e.2.1.2.2 (xco e.2.1.1 e.2.1.2.1 e.2.1.2.2 a b) u l (e.2.2.2.2 l) else e.2.2.2.2 l) = rfv e.1.1 e.1.2 e.2.1.1 e.2.1.2.1 e.2.1.2.2 (xco e.2.1.1 e.2.1.2.1 e.2.1.2.2 a b) u l (S n l)
        rw [if_pos q, ee l p q]
  · rcases mm with ⟨-, rfl, m0⟩ | ⟨a', b', u', ha', hb', hu', ea', eb', ht', -⟩
    · exact ⟨RZ_nil ⟨⟨e, n, k, S, hS, hh, hx⟩, hi⟩ h1 h2 c0 m0, Or.inr ⟨rfl, by rw [m0]; exact x_pe⟩⟩
    · exact absurd ⟨xP_y w3 h4 ha' hb' ea' eb', ⟨u', hu', ht'⟩⟩ no
/-- nothing is left of the changes -/
theorem RZ_zero {e : xB} {M : aM} (hB : cB 0 M e) (hR : rB 37 M e) (h4 : M.1 4 0 4 = M.1 37 0 0) (hL : LL 37 M e) (c4 : M.1 20 0 4 = 0) (c5 : M.1 20 0 5 = 0) (c8 : M.1 37 0 8 = 0) (c7 : M.1 37 0 7 = 0) (hx : xE e) (hi : RI M) : RZ M := ⟨⟨e, 0, 0, fun _ => e.2.2.2.2, ⟨hB, hR, h4, Nat.le_refl _, by decide, c4, c5, c8, c7⟩, ⟨fun _ _ => hL.2, fun l p _ => hB.2.2.2.2.2 l p, hL.1, fun i hi => absurd hi (Nat.not_lt_zero i)⟩, hx⟩, hi⟩
theorem RZ_draw {t t2 n k : Nat} {e : xB} {S : Nat → Nat → Int32} {M N1 N2 : aM} {a1 : Int32} {v w : Option aV} (hi : RI M) (hS : SX e n k M) (hh : hH e.1.1 e.1.2 e.2.1.1 e.2.1.2.1 e.2.1.2.2 n k S M) (hx : xE e) (h1 : cPost t M N1) (c : yC_draw e n a1 v M N1) (h2 : mPost t2 N1 N2) (mm : yM_draw e n a1 w N1 N2) : RZ N2 ∧ ((v = some (vI 0) ∧ N2.1 36 0 0 = 0 ∧ ∃ x, w = some (vL x) ∧ N2.2 98 0 0 = x) ∨ (v = some (vI 1) ∧ N2.1 36 0 0 = 1)) := by
  rcases c with ⟨yes, rfl, co, c0, c4, c5, cL⟩ | ⟨no, rfl, c0⟩
  · rcases mm with ⟨-, rfl, hf, h0, h7, h8, hL⟩ | ⟨no, -, -⟩
    · have cc : ∀ q i j, q < 36 → N2.1 q i j = N1.1 q i j := fun q i j h => mP_c h2 q i j h
      have nd : ∀ {q i j : Nat}, ¬ (q = 12 ∧ i = 0) → ¬ q = 20 → PDc q i j = false := fun {q i j} p1 p2 => by
        show ((Nat.beq q 12 && Nat.beq i 0) || (Nat.beq q 20 && (Nat.beq j 4 || Nat.beq j 5))) = false
        rw [x_nbeq p2, Bool.false_and, Bool.or_false]
        by_cases hq : q = 12
        · rw [x_nbeq (show ¬ i = 0 from fun z => p1 ⟨hq, z⟩), Bool.and_false]
        · rw [x_nbeq hq]
          rfl
      have F : ∀ {q j : Nat}, ¬ q = 12 → q ≤ 14 → N2.1 q 0 j = M.1 q 0 j := fun {q j} h h9 => (cc q 0 j (by omega)).trans (c0 q 0 j (nd (fun z => h z.1) (by omega)))
      have F2 : ∀ j, j ≤ 17 → j ≠ 7 → j ≠ 8 → N2.1 37 0 j = M.1 37 0 j := fun j p7 p8 p9 => (hf.1 37 0 j (PDm_no (by omega) p8 p9)).trans (R_f h1 37 j (by decide) (by decide))
      obtain ⟨a1, a2, ⟨a3, a4, a5, a6, a7⟩, a8, a9, a10⟩ := hS.1
      refine ⟨RZ_zero (e := dE e _) ⟨gF_fr a1 (fun q j c d => F (by omega) (by omega)), a2, ⟨(F (by decide) (by decide)).trans a3, (F (by decide) (by decide)).trans a4, (F (by decide) (by decide)).trans a5, (F (by decide) (by decide)).trans a6, (F (by decide) (by decide)).trans a7⟩, fun t ht => (F (by decide) (by decide)).trans (a8 t ht), fun j hj => (F (by decide) (by decide)).trans (a9 j hj), fun l hl9 => (cc 12 0 l (by decide)).trans (cL l hl9)⟩ (rB_fr (e := e) hS.2.1 (fun j _ p7 p8 p9 => F2 j p7 p8 p9)) ((F (by decide) (by decide)).trans (hS.2.2.1.trans (F2 0 (by decide) (by decide) (by decide)).symm)) ⟨hL, lO_d hS.2.1.1 yes.2⟩ ((cc 20 0 4 (by decide)).trans c4) ((cc 20 0 5 (by decide)).trans c5) h8 h7 hx (RI_f hi ((cc 0 0 5 (by decide)).trans (c0 0 0 5 rfl)) (fun q j p1 p2 => (cc q 2 j (by omega)).trans (c0 q 2 j (nd (by omega) (by omega)))) (fun j => (hf.1 38 0 j rfl).trans (R_f h1 38 j (by decide) (by decide)))), Or.inl ⟨rfl, h0, _, rfl, (h2.2.2.1 98 0 0 (Or.inr (by decide))).2.trans co⟩⟩
    · exact absurd yes no
  · rcases mm with ⟨yes, -⟩ | ⟨-, rfl, m0⟩
    · exact absurd yes no
    · exact ⟨RZ_nil ⟨⟨e, n, k, S, hS, hh, hx⟩, hi⟩ h1 h2 c0 m0, Or.inr ⟨rfl, by rw [m0]; exact x_pe⟩⟩
theorem PHd_no {k i j : Nat} (h12 : ¬ (k = 12 ∧ i = 0)) (h20 : ¬ (k = 20 ∧ j = 4)) : PHd k i j = false := by
  cases hq : PHd k i j with
  | false => rfl
  | true =>
    exfalso
    have z : ((Nat.beq k 12 && Nat.beq i 0) || (Nat.beq k 20 && (Nat.beq i 0 && Nat.beq j 4))) = true := hq
    simp only [Bool.or_eq_true, Bool.and_eq_true] at z
    rcases z with ⟨z1, z2⟩ | ⟨z1, z2, z3⟩
    · exact h12 ⟨Nat.eq_of_beq_eq_true z1, Nat.eq_of_beq_eq_true z2⟩
    · exact h20 ⟨Nat.eq_of_beq_eq_true z1, Nat.eq_of_beq_eq_true z3⟩
/-- a change undone or done again: from n to n2 -/
theorem RZ_mv {t t2 n k n2 : Nat} {e : xB} {S : Nat → Nat → Int32} {M N1 N2 : aM} (hi : RI M) (hS : SX e n k M) (hh : hH e.1.1 e.1.2 e.2.1.1 e.2.1.2.1 e.2.1.2.2 n k S M) (hx : xE e) (h1 : cPost t M N1) (h2 : mPost t2 N1 N2) (hn : n2 ≤ k) (hf : fr PHd M N1) (c4 : N1.1 20 0 4 = Int32.ofNat n2) (cL : ∀ l, l < 32 → hl e.2.1.1 e.2.1.2.1 e.2.1.2.2 l = true → N1.1 12 0 l = S n2 l) (hX : fr PD N1 N2) (m8 : N2.1 37 0 8 = Int32.ofNat n2) (mL : lR 37 20 N2 e.2.1.1 e.2.1.2.1 e.2.1.2.2 (S n2)) : RZ N2 := by
  have cc : ∀ q i j, q < 36 → N2.1 q i j = N1.1 q i j := fun q i j h => mP_c h2 q i j h
  have e37 : ∀ j, ¬ (20 ≤ j ∧ j ≤ 43) → j ≠ 8 → N2.1 37 0 j = M.1 37 0 j := fun j p7 p8 => (hX.1 37 0 j (PD_no p7 p8)).trans (R_f h1 37 j (by decide) (by decide))
  have F : ∀ {q j : Nat}, ¬ q = 12 → q ≤ 14 → N2.1 q 0 j = M.1 q 0 j := fun {q j} h h9 => (cc q 0 j (by omega)).trans (hf.1 q 0 j (PHd_no (fun z => h z.1) (by omega)))
  obtain ⟨a1, a2, ⟨a3, a4, a5, a6, a7⟩, a8, a9, a10⟩ := hS.1
  obtain ⟨p1, p2, p3, p4⟩ := hh
  refine ⟨⟨(e.1, (e.2.1, (e.2.2.1, (e.2.2.2.1, N1.1 12 0)))), n2, k, S, ⟨⟨gF_fr a1 (fun q j c d => F (by omega) (by omega)), a2, ⟨(F (by decide) (by decide)).trans a3, (F (by decide) (by decide)).trans a4, (F (by decide) (by decide)).trans a5, (F (by decide) (by decide)).trans a6, (F (by decide) (by decide)).trans a7⟩, fun t ht => (F (by decide) (by decide)).trans (a8 t ht), fun j hj => (F (by decide) (by decide)).trans (a9 j hj), fun l hl9 => cc 12 0 l (by decide)⟩, rB_fr (e := e) hS.2.1 (fun j _ p7 p8 p9 => e37 j (by omega) p9), (F (by decide) (by decide)).trans (hS.2.2.1.trans (e37 0 (by decide) (by decide)).symm), hn, hS.2.2.2.2.1, (cc 20 0 4 (by decide)).trans c4, (cc 20 0 5 (by decide)).trans ((hf.1 20 0 5 rfl).trans hS.2.2.2.2.2.2.1), m8, (e37 7 (by decide) (by decide)).trans hS.2.2.2.2.2.2.2.2⟩, ⟨p1, fun l q r => (cc 12 0 l (by decide)).trans (cL l q r), mL, fun i h9 => ?_⟩, hx⟩, RI_f hi ((cc 0 0 5 (by decide)).trans (hf.1 0 0 5 rfl)) (fun q j q1 q2 => (cc q 2 j (by omega)).trans (hf.1 q 2 j (PHd_no (by omega) (by omega)))) (fun j => (hX.1 38 0 j rfl).trans (R_f h1 38 j (by decide) (by decide)))⟩
  obtain ⟨q1, q2, q3⟩ := p4 i h9
  have bb : ∀ q, 21 ≤ q → q ≤ 23 → N2.1 q 0 i = M.1 q 0 i := fun q b1 b2 => (cc q 0 i (by omega)).trans (hf.1 q 0 i (PHd_no (by omega) (by omega)))
  refine ⟨fun l q r => (e37 _ (by omega) (by omega)).trans (q1 l q r), fun l q r => (e37 _ (by omega) (by omega)).trans (q2 l q r), ?_⟩
  rw [bb 21 (by decide) (by decide), bb 22 (by decide) (by decide), bb 23 (by decide) (by decide)]
  exact q3
theorem RZ_undo {t t2 n k : Nat} {e : xB} {S : Nat → Nat → Int32} {M N1 N2 : aM} (hi : RI M) (hS : SX e n k M) (hh : hH e.1.1 e.1.2 e.2.1.1 e.2.1.2.1 e.2.1.2.2 n k S M) (hx : xE e) (h1 : cPost t M N1) (c : yC_undo e n S M N1) (h2 : mPost t2 N1 N2) (m : yM_undo n N1 N2) : RZ N2 := by
  have hn := hS.2.2.2.1
  rcases c with ⟨n0, rfl⟩ | ⟨n0, hf, c4, cL⟩
  · rcases m with ⟨-, m⟩ | ⟨m0, -⟩
    · exact RZ_nil ⟨⟨e, n, k, S, hS, hh, hx⟩, hi⟩ h1 h2 rfl m
    · exact absurd n0 m0
  · rcases m with ⟨m0, -⟩ | ⟨-, hX, m8, mL⟩
    · exact absurd m0 n0
    · refine RZ_mv hi hS hh hx h1 h2 (show n - 1 ≤ k by omega) hf c4 cL hX m8 (fun l p q => ?_)
      rw [mL _ (lm24 hS.1.2.1 p q), R_f h1 37 _ (by decide) (by decide)]
      exact (hh.2.2.2 (n - 1) (by omega)).1 l p q
theorem RZ_redo {t t2 n k : Nat} {e : xB} {S : Nat → Nat → Int32} {M N1 N2 : aM} (hi : RI M) (hS : SX e n k M) (hh : hH e.1.1 e.1.2 e.2.1.1 e.2.1.2.1 e.2.1.2.2 n k S M) (hx : xE e) (h1 : cPost t M N1) (c : yC_redo e n k S M N1) (h2 : mPost t2 N1 N2) (m : yM_redo n k N1 N2) : RZ N2 := by
  have hn := hS.2.2.2.1
  rcases c with ⟨n0, rfl⟩ | ⟨n0, hf, c4, cL⟩
  · rcases m with ⟨-, m⟩ | ⟨m0, -⟩
    · exact RZ_nil ⟨⟨e, n, k, S, hS, hh, hx⟩, hi⟩ h1 h2 rfl m
    · exact absurd n0 m0
  · rcases m with ⟨m0, -⟩ | ⟨-, hX, m8, mL⟩
    · exact absurd m0 n0
    · refine RZ_mv hi hS hh hx h1 h2 (show n + 1 ≤ k by omega) hf c4 cL hX m8 (fun l p q => ?_)
      rw [mL _ (lm24 hS.1.2.1 p q), R_f h1 37 _ (by decide) (by decide)]
      exact (hh.2.2.2 n (by omega)).2.1 l p q
theorem RZ_tape {t t2 : Nat} {M N1 N2 : aM} (hr : RZ M) (h1 : cPost t M N1) (hC : z_M (zTb, [(1, 1, 1), (2, 0, 399)], []) M [] N1) (h2 : mPost t2 N1 N2) (hM : z_M (zTb, [(36, 0, 0), (36, 6, 6), (40, 0, 399)], []) N1 [] N2) : RZ N2 := by
  have cc : ∀ q i j, q < 36 → ¬ (q = 1 ∨ q = 2) → N2.1 q i j = M.1 q i j := fun q i j h h9 => (mP_c h2 q i j h).trans (uK_ok (k := q) (by
    show (List.all [(1, 1, 1), (2, 0, 399)] (fun w => !(Nat.beq w.1 q))) = true
    rw [List.all_cons, List.all_cons, List.all_nil, x_nbeq (show ¬ 1 = q by omega), x_nbeq (show ¬ 2 = q by omega)]
    rfl) hC.2.1 i j)
  exact RZ_keep hr (fun q j a b => cc q 0 j (by omega) (by omega)) (fun q j a b => cc q 2 j (by omega) (by omega)) (cc 20 0 4 (by decide) (by decide)) (cc 20 0 5 (by decide) (by decide)) (fun q j a b => cc q 0 j (by omega) (by omega)) (fun j _ _ => (uK_ok (k := 37) rfl hM.2.1 0 j).trans (R_f h1 37 j (by decide) (by decide))) (fun j => (uK_ok (k := 38) rfl hM.2.1 0 j).trans (R_f h1 38 j (by decide) (by decide))) (cc 0 0 5 (by decide) (by decide))
theorem RZ_image {t t2 n k : Nat} {e : xB} {S : Nat → Nat → Int32} {M N1 N2 : aM} (hS : SX e n k M) (hh : hH e.1.1 e.1.2 e.2.1.1 e.2.1.2.1 e.2.1.2.2 n k S M) (hx : xE e) (h1 : cPost t M N1) (hf : fr PI2 M N1) (hB : cB 2 N1 e) (h2 : mPost t2 N1 N2) (hM : z_M (zTb, [(36, 0, 0), (36, 3, 3), (38, 0, 1009)], []) N1 [] N2) (hu : ∀ u, u < 1010 → N2.1 38 0 u = N1.1 37 0 u) : RZ N2 := by
  have f37 : ∀ j, N2.1 37 0 j = M.1 37 0 j := fun j => (hM.2.1 37 0 j rfl).1.trans (R_f h1 37 j (by decide) (by decide))
  have f38 : ∀ j, j < 1010 → N2.1 38 0 j = M.1 37 0 j := fun j hj => (hu j hj).trans (R_f h1 37 j (by decide) (by decide))
  have cc : ∀ q j, 4 ≤ q → q < 36 → N2.1 q 0 j = M.1 q 0 j := fun q j a b => (mP_c h2 q 0 j b).trans (hf.1 q 0 j (PI2_no (by omega) (by omega)))
  have hL := (SX_lO hS hh).2
  refine ⟨⟨e, n, k, S, SX_f hS (fun q j a b => cc q j a (by omega)) (cc 20 4 (by decide) (by decide)) (cc 20 5 (by decide) (by decide)) (fun j _ => f37 j), hH_f hh (fun j => cc 12 j (by decide) (by decide)) (fun q j a b => cc q j (by omega) (by omega)) (fun j _ _ => f37 j), hx⟩, fun _ => ⟨e, cB_fr hB (fun q j a b _ => mP_c h2 q 2 j (by omega)), ?_, ⟨fun l p q => ?_, hL.2⟩, hx⟩⟩
  · obtain ⟨r1, r2, ⟨q1, q2, q3, q4, q5⟩, r4, r5⟩ := hS.2.1
    exact ⟨r1, r2, ⟨(f38 1 (by decide)).trans q1, (f38 2 (by decide)).trans q2, (f38 3 (by decide)).trans q3, (f38 4 (by decide)).trans q4, (f38 5 (by decide)).trans q5⟩, fun u hu8 => (f38 (10 + u) (by omega)).trans (r4 u hu8), by rw [f38 6 (by decide)]; exact r5⟩
  · exact (f38 _ (by have := lm24 hS.1.2.1 p q; omega)).trans (hL.1 l p q)
theorem cBk {v : Option aV} {M N1 : aM} (c : (M.1 0 0 5 = 0 ∧ v = some (vI 0) ∧ M = N1) ∨ (M.1 0 0 5 = 1 ∧ v = some (vI 1) ∧ ∃ e, (rBL 38 M e ∧ xE e) ∧ M.1 4 2 4 = M.1 38 0 0 ∧ fr PK0 M N1 ∧ cB 0 N1 e ∧ N1.1 4 0 4 = M.1 4 2 4 ∧ N1.1 20 0 4 = 0 ∧ N1.1 20 0 5 = 0)) : (M.1 0 0 5 = 0 ∧ v = some (vI 0) ∧ M = N1) ∨ (M.1 0 0 5 = 1 ∧ v = some (vI 1) ∧ ∃ e, rB 38 M e ∧ M.1 4 2 4 = M.1 38 0 0 ∧ fr PK0 M N1 ∧ cB 0 N1 e ∧ N1.1 4 0 4 = M.1 4 2 4 ∧ N1.1 20 0 4 = 0 ∧ N1.1 20 0 5 = 0) := by
  rcases c with c | ⟨a, b, e, c, d⟩
  · exact Or.inl c
  · exact Or.inr ⟨a, b, e, c.1.1, d⟩
theorem RZ_back {t t2 : Nat} {v : Option aV} {M N1 N2 : aM} (hr : RX M) (hl : RZ M) (h1 : cPost t M N1) (c : (M.1 0 0 5 = 0 ∧ v = some (vI 0) ∧ M = N1) ∨ (M.1 0 0 5 = 1 ∧ v = some (vI 1) ∧ ∃ e, (rBL 38 M e ∧ xE e) ∧ M.1 4 2 4 = M.1 38 0 0 ∧ fr PK0 M N1 ∧ cB 0 N1 e ∧ N1.1 4 0 4 = M.1 4 2 4 ∧ N1.1 20 0 4 = 0 ∧ N1.1 20 0 5 = 0)) (h2 : mPost t2 N1 N2) (m : (N1.1 36 0 3 = 0 ∧ z_M (zTb, [(36, 0, 0)], []) N1 [] N2) ∨ (¬ N1.1 36 0 3 = 0 ∧ z_M (zTb, [(36, 0, 0), (37, 0, 1009)], []) N1 [] N2 ∧ (∀ u, u < 1010 → u ≠ 7 → u ≠ 8 → N2.1 37 0 u = N1.1 38 0 u) ∧ N2.1 37 0 7 = 0 ∧ N2.1 37 0 8 = 0)) : RZ N2 := by
  have k3 : N1.1 36 0 3 = M.1 36 0 3 := R_f h1 36 3 (by decide) (by decide)
  have ke : (M.1 0 0 5 = 0 ∧ M.1 36 0 3 = 0) ∨ (M.1 0 0 5 = 1 ∧ M.1 36 0 3 = 1) := by
    rcases hr.2.2.2.2 with ⟨k1, k2⟩ | ⟨k1, k2, -⟩
    · exact Or.inl ⟨k1, k2⟩
    · exact Or.inr ⟨k1, k2⟩
  rw [k3] at m
  rcases c with ⟨c0, -, cM⟩ | ⟨c1, -, e, ⟨⟨ce, cl⟩, cx⟩, ct, hf, cb, ct2, c4, c5⟩
  · have z0 : M.1 36 0 3 = 0 := by
      rcases ke with ⟨-, z⟩ | ⟨z, -⟩
      · exact z
      · exact absurd (c0.symm.trans z) (by decide)
    subst cM
    rcases m with ⟨-, hM⟩ | ⟨m, -⟩
    · have cc : ∀ q i j, q < 36 → N2.1 q i j = M.1 q i j := fun q i j h => mP_c h2 q i j h
      exact RZ_keep hl (fun q j a b => cc q 0 j (by omega)) (fun q j a b => cc q 2 j (by omega)) (cc 20 0 4 (by decide)) (cc 20 0 5 (by decide)) (fun q j a b => cc q 0 j (by omega)) (fun j _ _ => uK_ok (k := 37) rfl hM.2.1 0 j) (fun j => uK_ok (k := 38) rfl hM.2.1 0 j) (cc 0 0 5 (by decide))
    · exact absurd z0 m
  · have z1 : ¬ M.1 36 0 3 = 0 := by
      rcases ke with ⟨z, -⟩ | ⟨-, z⟩
      · exact absurd (z.symm.trans c1) (by decide)
      · rw [z]
        decide
    rcases m with ⟨m, -⟩ | ⟨-, hM, hu, m7, m8⟩
    · exact absurd m z1
    · have f : ∀ j, j < 1010 → j ≠ 7 → j ≠ 8 → N2.1 37 0 j = M.1 38 0 j := fun j a b c => (hu j a b c).trans (R_f h1 38 j (by decide) (by decide))
      have cc : ∀ q i j, q < 36 → N2.1 q i j = N1.1 q i j := fun q i j h => mP_c h2 q i j h
      have okb := ce.2.1
      refine RZ_zero (cB_fr cb (fun q j a b _ => cc q 0 j (by omega))) ?_ ((cc 4 0 4 (by decide)).trans (ct2.trans (ct.trans (f 0 (by decide) (by decide) (by decide)).symm))) ⟨fun l p q => ?_, cl.2⟩ ((cc 20 0 4 (by decide)).trans c4) ((cc 20 0 5 (by decide)).trans c5) m8 m7 cx (RI_f hl.2 ((cc 0 0 5 (by decide)).trans (hf.1 0 0 5 (PK0_no (by omega) (by omega)))) (fun q j a b => (cc q 2 j (by omega)).trans (hf.1 q 2 j (PK0_no (by omega) (by omega)))) (fun j => (hM.2.1 38 0 j rfl).1.trans (R_f h1 38 j (by decide) (by decide))))
      · obtain ⟨r1, r2, ⟨q1, q2, q3, q4, q5⟩, r4, r5⟩ := ce
        exact ⟨r1, r2, ⟨(f 1 (by decide) (by decide) (by decide)).trans q1, (f 2 (by decide) (by decide) (by decide)).trans q2, (f 3 (by decide) (by decide) (by decide)).trans q3, (f 4 (by decide) (by decide) (by decide)).trans q4, (f 5 (by decide) (by decide) (by decide)).trans q5⟩, fun u hu8 => (f (10 + u) (by omega) (by omega) (by omega)).trans (r4 u hu8), by rw [f 6 (by decide) (by decide) (by decide)]; exact r5⟩
      · have l24 := lm24 okb p q
        exact (f _ (by omega) (by omega) (by omega)).trans (cl.1 l p q)
theorem RZ_board {t n k : Nat} {e : xB} {S : Nat → Nat → Int32} {v w : Option aV} {M N1 N2 : aM} (hr : RX M) (hi : RI M) (hS : SX e n k M) (hh : hH e.1.1 e.1.2 e.2.1.1 e.2.1.2.1 e.2.1.2.2 n k S M) (hx : xE e) (h1 : cPost 2147483648 M N1) (c : cBo e t v M N1) (c3 : cH3 M N1) (h2 : mPost 2147483648 N1 N2) (m : mBo e t w N1 N2) (m5 : ∀ j, 50 ≤ j → N2.1 37 0 j = N1.1 37 0 j) : RZ N2 := by
  obtain ⟨c2, cg, ck, cf, c⟩ := c
  obtain ⟨m40, m38, m3, m⟩ := m
  have row : N1.1 40 0 = M.1 2 0 := by
    funext j
    exact (R_f h1 40 j (by decide) (by decide)).trans (hr.1 j).symm
  rw [row] at m
  have cc : ∀ q i j, q < 36 → N2.1 q i j = N1.1 q i j := fun q i j h => mP_c h2 q i j h
  have iR : RI N2 := RI_f hi ((cc 0 0 5 (by decide)).trans cf) (fun q j a b => (cc q 2 j (by omega)).trans (ck q j a b)) (fun j => (m38 j).trans (R_f h1 38 j (by decide) (by decide)))
  have t37 : N1.1 37 0 0 = M.1 4 0 4 := (R_f h1 37 0 (by decide) (by decide)).trans hS.2.2.1.symm
  have same : (∀ u, u < 50 → N2.1 37 0 u = N1.1 37 0 u) → cB 0 N1 e → N1.1 4 0 4 = M.1 4 0 4 → N1.1 20 0 4 = M.1 20 0 4 → N1.1 20 0 5 = M.1 20 0 5 → RZ N2 := fun hu b1 b2 b3 b4 => by
    have f37 : ∀ j, N2.1 37 0 j = M.1 37 0 j := fun j => by
      refine Eq.trans ?_ (R_f h1 37 j (by decide) (by decide))
      by_cases h9 : j < 50
      · exact hu j h9
      · exact m5 j (by omega)
    obtain ⟨q1, q2, q3, q4, q5, q6, q7, q8, q9⟩ := hS
    have ee : ∀ l, l < 32 → N2.1 12 0 l = M.1 12 0 l := fun l hl9 => (cc 12 0 l (by decide)).trans ((b1.2.2.2.2.2 l hl9).trans (q1.2.2.2.2.2 l hl9).symm)
    obtain ⟨p1, p2, p3, p4⟩ := hh
    refine ⟨⟨e, n, k, S, ⟨cB_fr b1 (fun q j a b _ => cc q 0 j (by omega)), rB_fr q2 (fun j _ _ _ _ => f37 j), (cc 4 0 4 (by decide)).trans (b2.trans (q3.trans (f37 0).symm)), q4, q5, (cc 20 0 4 (by decide)).trans (b3.trans q6), (cc 20 0 5 (by decide)).trans (b4.trans q7), (f37 8).trans q8, (f37 7).trans q9⟩, ⟨p1, fun l a b => (ee l a).trans (p2 l a b), fun l a b => (f37 _).trans (p3 l a b), fun i h9 => ?_⟩, hx⟩, iR⟩
    obtain ⟨y1, y2, y3⟩ := p4 i h9
    refine ⟨fun l a b => (f37 _).trans (y1 l a b), fun l a b => (f37 _).trans (y2 l a b), ?_⟩
    have bb : ∀ q, 21 ≤ q → q ≤ 23 → N2.1 q 0 i = M.1 q 0 i := fun q z1 z2 => (cc q 0 i (by omega)).trans (c3 q i z1 z2)
    rw [bb 21 (by decide) (by decide), bb 22 (by decide) (by decide), bb 23 (by decide) (by decide)]
    exact y3
  rcases c with ⟨v0, vo, c12, e', ce, cb, ct, c4, c5⟩ | ⟨cc9, cb, ct, c4, c5⟩
  · rcases m with ⟨me, -⟩ | ⟨-, m12, -⟩ | ⟨e2, me, m12, mt0, mb, mt, m7, m8, mv⟩
    · rw [ce] at me
      cases me
    · exact absurd (t37.symm.trans m12) c12
    · have ee : e' = e2 := Option.some.inj (ce.symm.trans me)
      subst ee
      exact RZ_zero (cB_fr cb (fun q j a b _ => cc q 0 j (by omega))) mb.1 ((cc 4 0 4 (by decide)).trans (ct.trans (by rw [mt, t37]))) mb.2 ((cc 20 0 4 (by decide)).trans c4) ((cc 20 0 5 (by decide)).trans c5) m8 m7 (xE_read hx ce) iR
  · rcases m with ⟨me, mt0, hu⟩ | ⟨⟨e2, me⟩, m12, mt0, hu⟩ | ⟨e2, me, m12, mt0, mb, mt, m7, m8, mv⟩
    · exact same hu cb ct c4 c5
    · exact same hu cb ct c4 c5
    · exfalso
      rcases cc9 with ⟨-, ce⟩ | ⟨-, c12, -⟩
      · rw [me] at ce
        cases ce
      · exact m12 (t37.trans c12)
/-- what holds at the begin of each round of the law's loop -/
def iN0 (M : aM) : Prop := z_MT (zTb, [], []) M ∧ iM M ∧ z_b (M.1 1 0 1) = z_b (M.1 36 0 6)
def iN (M : aM) : Prop := iN0 M ∧ RX M ∧ RZ M
theorem iM_c {t : Nat} {M M1 : aM} (h : cPost t M M1) (hi : iM M) : iM M1 := by
  have e : ∀ k j, 35 < k → k ≠ 98 → M1.1 k 0 j = M.1 k 0 j := fun k j h1 h2 => (h.2.1 k 0 j h1 h2).1
  obtain ⟨a, ⟨d, b1, b2, b3⟩, c⟩ := hi
  exact ⟨iP_eq (e 37 1 (by decide) (by decide)) (e 37 2 (by decide) (by decide)) a, ⟨d, b1, by rw [e 37 8 (by decide) (by decide)]; exact b2, by rw [e 37 7 (by decide) (by decide)]; exact b3⟩, iK_eq (e 36 3 (by decide) (by decide)) (e 38 1 (by decide) (by decide)) (e 38 2 (by decide) (by decide)) (e 38 3 (by decide) (by decide)) (e 38 4 (by decide) (by decide)) c⟩
theorem iN_2 {t t2 : Nat} {M M1 M2 : aM} (h1 : cPost t M M1) (h2 : mPost t2 M1 M2) (h : t = t2) : iN0 M2 := ⟨h2.1, h2.2.1, by rw [(h2.2.2.1 1 0 1 (Or.inl (by decide))).1, h1.2.2, h2.2.2.2, h]⟩
theorem iN_s {M M1 M2 : aM} (hn : iN0 M) (h1 : cPost (z_b (M.1 1 0 1)) M M1) (h2 : mPost (z_b (M1.1 36 0 6)) M1 M2) : iN0 M2 := iN_2 h1 h2 (by rw [(h1.2.1 36 0 6 (by decide) (by decide)).1]; exact hn.2.2)
theorem i_sc {a k nS : Nat} (h : a + 6 ≤ nS) (hn : nS ≤ 3072) (hk : k < 6) : vp_in (Int32.ofNat a + Int32.ofNat k) nS := by
  rw [hI_ad]
  exact i_vp (by omega) (by omega)
theorem i_le {L : aL} {x y z : Option aV} {q : aV} {r0 r1 r2 r3 : aV} : a_le [some r0, some r1, some r2, some r3, some q, none, none, none] [some r0, some r1, some r2, some r3, some q, x, y, z] := a_le_s (a_le_s (a_le_s (a_le_s (a_le_s (a_le_n (a_le_n (a_le_n a_le_z)))))))
theorem e_fd_eq {s : Nat} {v w : Option aV} {s1 s2 : Nat} (h1 : e_fd s v s1) (h2 : e_fd s w s2) : s1 = s2 ∧ ∃ x y, v = some (vI x) ∧ w = some (vI y) ∧ x = y := by
  rcases h1 with ⟨a, b, c⟩ | ⟨a, ⟨x, b, e⟩, c⟩
  · rcases h2 with ⟨a2, b2, c2⟩ | ⟨a2, b2, c2⟩
    · exact ⟨by omega, _, _, b, b2, rfl⟩
    · omega
  · rcases h2 with ⟨a2, b2, c2⟩ | ⟨a2, ⟨y, b2, e2⟩, c2⟩
    · omega
    · exact ⟨by omega, x, y, b, b2, z_b_inj (by omega)⟩
theorem e_ed_eq {n : Int32} {s : Nat} {v w : Option aV} {s1 s2 : Nat} (h1 : e_ed n s v s1) (h2 : e_ed n s w s2) : s1 = s2 ∧ ∃ x y, v = some (vI x) ∧ w = some (vI y) ∧ x = y := by
  rcases h1 with ⟨a, a1, b, c⟩ | ⟨a, b, c⟩
  · rcases h2 with ⟨a2, a3, b2, c2⟩ | ⟨a2, b2, c2⟩
    · exact ⟨by omega, _, _, b, b2, rfl⟩
    · exact absurd ⟨a, a1⟩ a2
  · rcases h2 with ⟨a2, a3, b2, c2⟩ | ⟨a2, b2, c2⟩
    · exact absurd ⟨a2, a3⟩ a
    · exact ⟨by omega, _, _, b, b2, rfl⟩
theorem i_tp {M : aM} (h : iN0 M) : ∃ t : Nat, t ≤ 400 ∧ M.1 1 0 1 = Int32.ofNat t ∧ M.1 36 0 6 = Int32.ofNat t := by
  obtain ⟨t, ht, e⟩ := x_rng (m := 400) (by decide) (h_TR (T := zTb) (k := 1) (i := 0) (j := 1) h.1)
  exact ⟨t, ht, e, (z_b_inj h.2.2).symm.trans e⟩
theorem e_fd_i {s : Nat} {v : Option aV} {s1 : Nat} (h : e_fd s v s1) : ∃ x, v = some (vI x) := by
  unfold e_fd at h
  rcases h with h | ⟨-, ⟨x, h, -⟩, -⟩
  · exact ⟨_, h.2.1⟩
  · exact ⟨_, h⟩
theorem e_ed_i {n : Int32} {s : Nat} {v : Option aV} {s1 : Nat} (h : e_ed n s v s1) : ∃ x, v = some (vI x) := by
  unfold e_ed at h
  rcases h with h | h
  · exact ⟨_, h.2.2.1⟩
  · exact ⟨_, h.2.1⟩
theorem x_lgc (x : Int64) : lg_cmp x x = 0 := by
  first
    | simp [lg_cmp]
    | (unfold lg_cmp; rw [if_neg (fun h => Int64.lt_irrefl h), if_pos rfl])
theorem x_rows {n : Nat} {w : Nat → Int32} {r r2 a b : Nat → Int32} (h1 : (n + 20 ≤ 400 ∧ ∀ j, a j = fdr r n 20 w j) ∨ (400 < n + 20 ∧ ∀ j, a j = r j)) (h2 : (n + 20 ≤ 400 ∧ ∀ j, b j = fdr r2 n 20 w j) ∨ (400 < n + 20 ∧ ∀ j, b j = r2 j)) (h : ∀ j, r j = r2 j) : ∀ j, a j = b j := by
  have e : r = r2 := funext h
  subst e
  intro j
  rcases h1 with ⟨a1, a2⟩ | ⟨a1, a2⟩
  · rcases h2 with ⟨b1, b2⟩ | ⟨b1, b2⟩
    · exact (a2 j).trans (b2 j).symm
    · omega
  · rcases h2 with ⟨b1, b2⟩ | ⟨b1, b2⟩
    · omega
    · exact (a2 j).trans (b2 j).symm
theorem x_dr {t : Nat} {e : xB} {n k : Nat} {M N : aM} (h : cPost t M N) (hS : SM e n k N) : e_sm N (e_w N) e.1.2 = e_sm M (e_w M) e.1.2 := by
  have o8 := (rB_h hS.1).2.2.1
  have key : ∀ q, q ≤ 8 → e_sm N (e_w N) q = e_sm M (e_w M) q := by
    intro q
    induction q with
    | zero =>
      intro _
      rw [show e_sm N (e_w N) 0 = 0 from rfl, show e_sm M (e_w M) 0 = 0 from rfl]
    | succ q ih =>
      intro hq
      have ew : e_w N q = e_w M q := by
        unfold e_w
        rw [if_pos (show q < 8 by omega), if_pos (show q < 8 by omega), R_f h 37 (10 + q) (by decide) (by decide)]
      rw [show e_sm N (e_w N) (q + 1) = e_sm N (e_w N) q + e_w N q from rfl, show e_sm M (e_w M) (q + 1) = e_sm M (e_w M) q + e_w M q from rfl, ih (by omega), ew]
  exact key _ o8
