/-- whether a square is a hole, as the reference tells it -/
def e_ho (h x y : Int32) : Int32 := (h >>> ((3 * y + x) &&& 31)) &&& 1
theorem e_isHole {nS d : Nat} {M : aM} {x y : Int32} : aC nS (d + 1) 193 [vR 36 0, vI x, vI y] M (fun v M' => (e_ho (M.1 37 0 6) x y = 1 ∧ v = some (vI 1) ∨ ¬ e_ho (M.1 37 0 6) x y = 1 ∧ v = some (vI 0)) ∧ M = M') (fun _ _ => False) := by
  refine aC_mk rfl rfl ?_
  intro K hK hF
  refine hK _ _ _ _ (hK _ _ _ _ (hK _ _ _ _ (?_)))
  refine hK _ _ _ _ ⟨i_vp (j := 6) (by decide) (by decide), ?_⟩
  refine hK _ _ _ _ (hK _ _ _ _ (hK _ _ _ _ (hK _ _ _ _ (hK _ _ _ _ (hK _ _ _ _ (hK _ _ _ _ (hK _ _ _ _ (hK _ _ _ _ (?_)))))))))
  refine hK _ _ _ _ ⟨fun h => ?_, fun h => ?_⟩
  · exact hK _ _ _ _ (hK _ _ _ _ ⟨Or.inl rfl, Or.inr ⟨h, rfl⟩, rfl⟩)
  · exact hK _ _ _ _ (hK _ _ _ _ (hK _ _ _ _ ⟨Or.inr rfl, Or.inl ⟨h, rfl⟩, rfl⟩))
theorem e_wT {M : aM} (hT : z_MT (zTb, [], []) M) {t : Nat} (ht : t < 8) : z_i (2147483648, 2147483657) (M.1 37 0 (10 + t)) := by
  rcases (show t = 0 ∨ t = 1 ∨ t = 2 ∨ t = 3 ∨ t = 4 ∨ t = 5 ∨ t = 6 ∨ t = 7 by omega) with h | h | h | h | h | h | h | h
  · rw [h]; exact h_TR (T := zTb) (k := 37) (i := 0) (j := 10) hT
  · rw [h]; exact h_TR (T := zTb) (k := 37) (i := 0) (j := 11) hT
  · rw [h]; exact h_TR (T := zTb) (k := 37) (i := 0) (j := 12) hT
  · rw [h]; exact h_TR (T := zTb) (k := 37) (i := 0) (j := 13) hT
  · rw [h]; exact h_TR (T := zTb) (k := 37) (i := 0) (j := 14) hT
  · rw [h]; exact h_TR (T := zTb) (k := 37) (i := 0) (j := 15) hT
  · rw [h]; exact h_TR (T := zTb) (k := 37) (i := 0) (j := 16) hT
  · rw [h]; exact h_TR (T := zTb) (k := 37) (i := 0) (j := 17) hT
/-- the weight of a turn in a square, counted from 0 -/
def e_wt (M : aM) (x y : Int32) (t : Nat) : Nat := if e_ho (M.1 37 0 6) x y = 1 then 1 else z_b (M.1 37 0 (10 + t)) - 2147483648
theorem e_weightOf {nS d : Nat} {M : aM} {x y : Int32} {t : Nat} (hT : z_MT (zTb, [], []) M) (ht : t < 8) : aC nS (d + 2) 233 [vR 36 0, vI x, vI y, vI (Int32.ofNat t)] M (fun v M' => (∃ w, v = some (vI w) ∧ z_b w = e_wt M x y t + 2147483648) ∧ M = M') (fun _ _ => False) := by
  refine aC_mk rfl rfl ?_
  intro K hK hF
  refine hK _ _ _ _ (hK _ _ _ _ (hK _ _ _ _ (?_)))
  refine hK _ _ _ _ ⟨_, e_isHole, rfl, fun v M1 g => ?_⟩
  obtain ⟨g, rfl⟩ := g
  rcases g with ⟨h, rfl⟩ | ⟨h, rfl⟩
  · refine hK _ _ _ _ ⟨fun z => absurd z (by decide), fun _ => ?_⟩
    exact hK _ _ _ _ (hK _ _ _ _ (hK _ _ _ _ ⟨⟨_, rfl, by unfold e_wt; rw [if_pos h, z_l1]⟩, rfl⟩))
  · refine hK _ _ _ _ ⟨fun _ => ?_, fun z => absurd rfl z⟩
    refine hK _ _ _ _ (hK _ _ _ _ (hK _ _ _ _ (hK _ _ _ _ (hK _ _ _ _ (?_)))))
    have e1 : (10 : Int32) + Int32.ofNat t = Int32.ofNat (10 + t) := hI_ad (a := 10)
    first
      | (rw [e1]; refine hK _ _ _ _ ⟨i_vp (by decide) (by omega), ?_⟩)
      | (rw [e1]; refine ⟨i_vp (by decide) (by omega), ?_⟩)
      | (refine hK _ _ _ _ ?_; rw [e1]; refine hK _ _ _ _ ⟨i_vp (by decide) (by omega), ?_⟩)
      | (refine hK _ _ _ _ ?_; rw [e1]; refine ⟨i_vp (by decide) (by omega), ?_⟩)
    rw [hI_cl (by omega)]
    refine hK _ _ _ _ ⟨⟨_, rfl, ?_⟩, rfl⟩
    unfold e_wt
    rw [if_neg h]
    have h9 := e_wT hT ht
    have := h9.1
    dsimp only at this
    omega
def e_sm (M : aM) (f : Nat → Nat) : Nat → Nat
  | 0 => 0
  | n + 1 => e_sm M f n + f n
theorem e_sm_le {M : aM} {f : Nat → Nat} (hf : ∀ u, f u ≤ 9) : ∀ n, e_sm M f n ≤ 9 * n
  | 0 => Nat.le_refl _
  | n + 1 => by
    have := e_sm_le (M := M) hf n
    have := hf n
    show e_sm M f n + f n ≤ 9 * (n + 1)
    omega
theorem e_sm_eq {M : aM} {f g : Nat → Nat} : ∀ n, (∀ u, u < n → f u = g u) → e_sm M f n = e_sm M g n
  | 0, _ => rfl
  | n + 1, h => by
    show e_sm M f n + f n = e_sm M g n + g n
    rw [e_sm_eq n (fun u hu => h u (by omega)), h n (by omega)]
theorem e_sm_1 {M : aM} {f : Nat → Nat} : e_sm M f (0 + 1) = f 0 := Nat.zero_add _
theorem e_sm_one {M : aM} : ∀ n, e_sm M (fun _ => 1) n = n
  | 0 => rfl
  | n + 1 => by
    show e_sm M (fun _ => 1) n + 1 = n + 1
    rw [e_sm_one n]
/-- a weight, counted from 0, cut at 9 -/
def e_w (M : aM) (t : Nat) : Nat := if t < 8 then z_b (M.1 37 0 (10 + t)) - 2147483648 else 0
theorem e_w9 {M : aM} (hT : z_MT (zTb, [], []) M) (t : Nat) : e_w M t ≤ 9 := by
  unfold e_w
  by_cases h : t < 8
  · rw [if_pos h]
    have := (e_wT hT h).2
    dsimp only at this
    omega
  · rw [if_neg h]
    omega
/-- the weight of a turn in a square, cut at 8 turns -/
def e_f (M : aM) (x y : Int32) (t : Nat) : Nat := if e_ho (M.1 37 0 6) x y = 1 then 1 else e_w M t
theorem e_f9 {M : aM} (hT : z_MT (zTb, [], []) M) (x y : Int32) (t : Nat) : e_f M x y t ≤ 9 := by
  unfold e_f
  split
  · omega
  · exact e_w9 hT t
theorem e_wtf {M M1 : aM} {x y : Int32} {t : Nat} (ht : t < 8) (h6 : M1.1 37 0 6 = M.1 37 0 6) (hw : M1.1 37 0 (10 + t) = M.1 37 0 (10 + t)) : e_wt M1 x y t = e_f M x y t := by
  unfold e_wt e_f e_w
  rw [h6, hw, if_pos ht]
theorem i_kd {M : aM} (hT : z_MT (zTb, [], []) M) : z_b (M.1 37 0 1) = 2147483651 ∨ z_i (2147483648, 2147483650) (M.1 37 0 1) := by
  have h := h_TR (T := zTb) (k := 37) (i := 0) (j := 1) hT
  have h1 : 2147483648 ≤ z_b (M.1 37 0 1) := h.1
  have h2 : z_b (M.1 37 0 1) ≤ 2147483651 := h.2
  by_cases h3 : z_b (M.1 37 0 1) = 2147483651
  · exact Or.inl h3
  · exact Or.inr ⟨h1, by show _ ≤ 2147483650; omega⟩
/-- one contract, its cells told -/
theorem h_pC {T : zT} {c : zCt} (hc : z_ctH T c) {u : zI} (h2 : c.2.2.2.1 = []) (h3 : c.2.2.2.2.1 = [.inl (some (.inl u), [])]) {nS d : Nat} {as : List aV} {M : aM} (hd : c.2.2.2.2.2 ≤ d) (hS : z_S c.2.1 as) (hT : z_MT (T, [], []) M) (hG : z_MG c.2.2.1 M) : aC nS d c.1 as M (fun v M' => (∃ x, v = some (vI x) ∧ z_i u x) ∧ M = M') (fun _ _ => False) := by
  refine aC_post (hc nS d as M hd hS hT hG) (fun v M' hv => ?_) (fun x M' hx => ?_)
  · rw [h2, h3] at hv
    obtain ⟨v', g', h4, h5, h6⟩ := hv
    have h4 := List.mem_singleton.mp h4
    cases h4
    exact ⟨h_ovI h5, (h_MW h6.2.1).symm⟩
  · rw [h2, h3] at hx
    obtain ⟨g', h4, h6⟩ := hx
    have h4 := List.mem_singleton.mp h4
    cases h4
theorem i_at {nS : Nat} {M : aM} {t b : Int32} (hT : z_MT (zTb, [], []) M) (ht : z_i (2147483648, 2147483655) t) {Q : Int32 → Prop} (hQ : ∀ a, (∀ c : Int32, z_i (2147483648, 2147483655) c → aC nS 59 180 [vR 36 0, vI a, vI c] M (fun v M' => (∃ x, v = some (vI x) ∧ z_i (2147483648, 2147483655) x) ∧ M = M') (fun _ _ => False)) → Q a) : aC nS 59 181 [vR 36 0, vI t] M (fun v M' => (∃ a, v = some (vI a) ∧ Q a) ∧ M = M') (fun _ _ => False) := by
  rcases i_kd hT with hk | hk
  · have hG : z_MG [(606209, (2147483651, 2147483651))] M := h_MG1 (k := 37) (j := 1) (by decide) rfl (h_eqI hk) h_MG0
    refine aC_post (h_pC hct_against3 rfl rfl (show (2 : Nat) ≤ 59 by decide) (h_R (h_Iv ht trivial)) hT hG) (fun v M' hv => ?_) (fun x M' hx => hx)
    obtain ⟨⟨a, rfl, ha⟩, rfl⟩ := hv
    exact ⟨⟨a, rfl, hQ a (fun c hc => h_pC hct_times3 rfl rfl (show (1 : Nat) ≤ 59 by decide) (h_R (h_Iv ha (h_Iv hc trivial))) hT hG)⟩, rfl⟩
  · have hG : z_MG [(606209, (2147483648, 2147483650))] M := h_MG1 (k := 37) (j := 1) (by decide) rfl hk h_MG0
    refine aC_post (h_pC hct_against0 rfl rfl (show (2 : Nat) ≤ 59 by decide) (h_R (h_Iv (z_iI_ok (by decide) ht) trivial)) hT hG) (fun v M' hv => ?_) (fun x M' hx => hx)
    obtain ⟨⟨a, rfl, ha⟩, rfl⟩ := hv
    exact ⟨⟨a, rfl, hQ a (fun c hc => h_pC hct_times0 rfl rfl (show (1 : Nat) ≤ 59 by decide) (h_R (h_Iv (z_iI_ok (by decide) ha) (h_Iv (z_iI_ok (by decide) hc) trivial))) hT hG)⟩, rfl⟩
/-- what a draw comes to: N turns there are -/
def e_dr (N : Nat) (M M' : aM) : Prop := (M'.1 36 0 0 = 0 ∧ (M.1 37 0 5 = 0 ∧ 0 < e_sm M (e_w M) N) ∧ z_M (zTb, [(36, 0, 0), (37, 7, 8), (37, 18, 43)], []) M [] M' ∧ M'.1 37 0 7 = 0 ∧ M'.1 37 0 8 = 0) ∨ (M'.1 36 0 0 = 1 ∧ ¬ (M.1 37 0 5 = 0 ∧ 0 < e_sm M (e_w M) N) ∧ z_M (zTb, [(36, 0, 0)], []) M [] M')
theorem e_draw {nS : Nat} {M : aM} {seed : Int32} (hT : z_MT (zTb, [], []) M) (hi : iM M) : aC nS 60 254 [vR 36 0, vI seed] M (fun v M' => (∃ x, v = some (vL x)) ∧ mPost (z_b (M.1 36 0 6)) M M' ∧ M'.1 36 0 3 = M.1 36 0 3 ∧ ∃ N, N ≤ 8 ∧ M.1 37 0 2 = Int32.ofNat N ∧ e_dr N M M') (fun _ _ => False) := by
  obtain ⟨N, hN1, hN2, hN⟩ : ∃ N, 2 ≤ N ∧ N ≤ 8 ∧ z_b (M.1 37 0 2) = N + 2147483648 := by
    have h := h_TR (T := zTb) (k := 37) (i := 0) (j := 2) hT
    have h1 : 2147483650 ≤ z_b (M.1 37 0 2) := h.1
    have h2 : z_b (M.1 37 0 2) ≤ 2147483656 := h.2
    exact ⟨z_b (M.1 37 0 2) - 2147483648, by omega, by omega, by omega⟩
  have hNe : M.1 37 0 2 = Int32.ofNat N := z_b_inj (by rw [hN, z_b_ofNat (by omega)])
  refine aC_mk rfl rfl ?_
  intro K hK hF
  have thr : ∀ y : Int32, z_M (zTb, [(36, 0, 0), (37, 7, 8), (37, 18, 43)], []) M [] (a_pI M 36 0 0 y) := fun y => h_Mp (h_M0 hT) (by decide) (z_i_top _)
  -- the last steps
  have fin : M.1 37 0 5 = 0 → 0 < e_sm M (e_w M) N → ∀ (M1 : aM) (x2 x3 x4 : Int32) (x5 x6 x7 x8 : Option aV), z_M (zTb, [(37, 7, 8), (37, 18, 43)], []) (a_pI M 36 0 0 0) [] M1 → K 231 [some (vR 36 0), some (vI seed), some (vI x2), some (vI x3), some (vI x4), x5, x6, x7, x8] [] M1 := by
    intro hs5 h2p M1 x2 x3 x4 x5 x6 x7 x8 hM
    have hM4 := h_Mp hM (k := 37) (i := 0) (j := 7) (v := (2147483648, 2147483648)) (x := 0) (by decide) z_i0
    have hM5 := h_Mp hM4 (k := 37) (i := 0) (j := 8) (v := (2147483648, 2147483648)) (x := 0) (by decide) z_i0
    refine hK _ _ _ _ (hK _ _ _ _ (hK _ _ _ _ (hK _ _ _ _ (?_))))
    refine hK _ _ _ _ ⟨i_vp (j := 7) (by decide) (by decide), ?_⟩
    refine hK _ _ _ _ (hK _ _ _ _ (hK _ _ _ _ (hK _ _ _ _ (?_))))
    refine hK _ _ _ _ ⟨i_vp (j := 8) (by decide) (by decide), ?_⟩
    refine hK _ _ _ _ ?_
    refine hK _ _ _ _ ⟨_, h_pW hct_worthNow rfl rfl (show (6 : Nat) ≤ 59 by decide) (h_R trivial) hM5.1, rfl, fun v M2 g => ?_⟩
    obtain ⟨g1, g2⟩ := g
    obtain ⟨y, rfl⟩ := h_ovJ g1
    have hM6 : z_M (zTb, [(37, 7, 8), (37, 18, 43)], []) (a_pI M 36 0 0 0) [] M2 := h_Mt hM5 g2 (by decide)
    have hM7 : z_M (zTb, [(36, 0, 0), (37, 7, 8), (37, 18, 43)], []) M [] M2 := h_Mt (thr 0) hM6 (by decide)
    have un : ∀ k u, z_w [(36, 0, 0), (37, 7, 8), (37, 18, 43)] k u u = false → M2.1 k 0 u = M.1 k 0 u := fun k u h => (hM7.2.1 k 0 u h).1
    have e7 : M2.1 37 0 7 = 0 := (h_un g2 rfl).trans ((i_pI (fun z => absurd z.2.2 (by decide))).trans h_pIs)
    have e8 : M2.1 37 0 8 = 0 := (h_un g2 rfl).trans h_pIs
    exact hK _ _ _ _ ⟨⟨_, rfl⟩, ⟨hM7.1, ⟨iP_eq (un 37 1 rfl) (un 37 2 rfl) hi.1, ⟨0, by decide, by rw [e8]; exact z_b0, by rw [e7, z_b0]; decide⟩, iK_eq (un 36 3 rfl) (un 38 1 rfl) (un 38 2 rfl) (un 38 3 rfl) (un 38 4 rfl) hi.2.2⟩, m_fr hM7 rfl, congrArg z_b (un 36 6 rfl)⟩, un 36 3 rfl, N, hN2, hNe, Or.inl ⟨(hM6.2.1 36 0 0 rfl).1.trans h_pIs, ⟨hs5, h2p⟩, hM7, e7, e8⟩⟩
  -- a square: what is drawn, the turn, the line
  have sq : ∀ (M1 : aM) (x2 x4 x5 x6 : Int32) (n : Nat), z_M (zTb, [(37, 7, 8), (37, 18, 43)], []) (a_pI M 36 0 0 0) [] M1 → 2147483648 ≤ z_b x6 → z_b x6 < e_sm M (e_f M x5 x4) N + 2147483648 → (∀ (M2 : aM) (x3 : Int32) (x6 x7 x8 : Option aV), z_M (zTb, [(37, 7, 8), (37, 18, 43)], []) (a_pI M 36 0 0 0) [] M2 → K 219 [some (vR 36 0), some (vI seed), some (vI x2), some (vI x3), some (vI x4), some (vI x5), x6, x7, x8] [] M2) → ∀ (x3 : Int32) (m t : Nat) (x8 : Int32), t + m + 1 = N → z_b x8 = e_sm M (e_f M x5 x4) (t + 1) + 2147483648 → K 153 [some (vR 36 0), some (vI seed), some (vI x2), some (vI x3), some (vI x4), some (vI x5), some (vI x6), some (vI (Int32.ofNat t)), some (vI x8)] [] M1 := by
    intro M1 x2 x4 x5 x6 _ hM hd1 hd2 hnx x3 m
    have un : ∀ u, z_w [(37, 7, 8), (37, 18, 43)] 37 u u = false → M1.1 37 0 u = M.1 37 0 u := fun u h => (hM.2.1 37 0 u h).1.trans (i_pI (fun z => absurd z.1 (by decide)))
    have out : ∀ (t : Nat) (x8 : Int32), t < 8 → K 181 [some (vR 36 0), some (vI seed), some (vI x2), some (vI x3), some (vI x4), some (vI x5), some (vI x6), some (vI (Int32.ofNat t)), some (vI x8)] [] M1 := by
      intro t x8 ht
      refine hK _ _ _ _ (hK _ _ _ _ (hK _ _ _ _ (hK _ _ _ _ (hK _ _ _ _ (hK _ _ _ _ (hK _ _ _ _ (hK _ _ _ _ (hK _ _ _ _ (?_)))))))))
      refine hK _ _ _ _ ⟨_, h_p2 hct_lineOf rfl (show (3 : Nat) ≤ 59 by decide) (h_R (h_I (h_I (h_Iv (h_bo (Or.inl rfl)) trivial)))) hM.1 h_MG0, rfl, fun v M2 g => ?_⟩
      obtain ⟨y, rfl, g4⟩ := g
      have hy : 2147483647 ≤ z_b y ∧ z_b y ≤ 2147483671 ∧ M2 = M1 := by
        rcases g4 with ⟨q1, q2⟩ | ⟨q1, q2⟩
        · exact ⟨(z_iI_ok (v := (2147483647, 2147483671)) (by decide) q1).1, (z_iI_ok (v := (2147483647, 2147483671)) (by decide) q1).2, h_MW q2.2.1⟩
        · exact ⟨(z_iI_ok (v := (2147483647, 2147483671)) (by decide) q1).1, (z_iI_ok (v := (2147483647, 2147483671)) (by decide) q1).2, h_MW q2.2.1⟩
      obtain ⟨hy1, hy2, rfl⟩ := hy
      have e20 : z_b (20 + y) = z_b y + 20 := by
        rw [z_b_add, z_l20]
        omega
      refine hK _ _ _ _ (hK _ _ _ _ (hK _ _ _ _ (hK _ _ _ _ (?_))))
      have hti : z_i (2147483648, 2147483655) (Int32.ofNat t) := by
        unfold z_i
        rw [z_b_ofNat (by omega)]
        dsimp only
        omega
      refine hK _ _ _ _ ⟨_, i_at (Q := fun a => K 206 [some (vR 36 0), some (vI seed), some (vI x2), some (vI x3), some (vI x4), some (vI x5), some (vI x6), some (vI (Int32.ofNat t)), some (vI x8)] [vI a, vR 36 0, vI (20 + y), vR 37 0] M2) (b := 0) hM.1 hti (fun a ha => ?_), rfl, fun v M3 g => ?_⟩
      case refine_2 =>
        obtain ⟨⟨a, rfl, g⟩, rfl⟩ := g
        exact g
      refine hK _ _ _ _ (hK _ _ _ _ (hK _ _ _ _ (hK _ _ _ _ (?_))))
      refine hK _ _ _ _ ⟨_, h_pI hct_held rfl rfl rfl (show (4 : Nat) ≤ 59 by decide) (h_R (h_I (h_I (h_Iv (h_bo (Or.inl rfl)) trivial)))) hM.1, rfl, fun v M3 g => ?_⟩
      obtain ⟨⟨w, rfl, hw⟩, rfl⟩ := g
      refine hK _ _ _ _ ⟨_, ha w (z_iI_ok (by decide) hw), rfl, fun v M3 g => ?_⟩
      obtain ⟨⟨z, rfl, hz⟩, rfl⟩ := g
      refine hK _ _ _ _ ⟨z_vp.mpr ⟨by omega, by omega⟩, ?_⟩
      have hc : (20 + y).toNatClampNeg = z_b y + 20 - 2147483648 := by
        rw [z_clamp (by omega), e20]
      have q := z_M_pI (v := (2147483648, 2147483655)) (a := 19) (b := 43) (j := (20 + y).toNatClampNeg) hM (k := 37) (i := 0) (by decide) (by omega) (by omega) hz
      exact hnx _ _ _ _ _ ⟨q.1, q.2.1, h_MG0⟩
    induction m with
    | zero =>
      intro t x8 htm h8
      refine hK _ _ _ _ (hK _ _ _ _ (hK _ _ _ _ ⟨fun h => out t x8 (by omega), fun h => ?_⟩))
      exfalso
      have := z_b_le.mp (Int32.not_lt.mp h)
      have e1 : t + 1 = N := by omega
      rw [h8, e1] at this
      omega
    | succ m ih =>
      intro t x8 htm h8
      refine hK _ _ _ _ (hK _ _ _ _ (hK _ _ _ _ ⟨fun h => out t x8 (by omega), fun h => ?_⟩))
      refine hK _ _ _ _ (hK _ _ _ _ (hK _ _ _ _ (hK _ _ _ _ (hK _ _ _ _ (hK _ _ _ _ (?_))))))
      rw [show Int32.ofNat t + 1 = Int32.ofNat (t + 1) from hI_s]
      refine hK _ _ _ _ ⟨_, e_weightOf (d := 57) hM.1 (by omega), rfl, fun v M3 g => ?_⟩
      obtain ⟨⟨w, rfl, hw⟩, rfl⟩ := g
      have hf := e_wtf (M := M) (M1 := M1) (x := x5) (y := x4) (t := t + 1) (by omega) (un 6 rfl) (un (10 + (t + 1)) (by
        have : t + 1 < 8 := by omega
        match t + 1, this with
        | 0, _ => rfl
        | 1, _ => rfl
        | 2, _ => rfl
        | 3, _ => rfl
        | 4, _ => rfl
        | 5, _ => rfl
        | 6, _ => rfl
        | 7, _ => rfl))
      rw [hf] at hw
      have hl := e_sm_le (M := M) (f := e_f M x5 x4) (e_f9 hT x5 x4) (t + 1 + 1)
      have es : e_sm M (e_f M x5 x4) (t + 1 + 1) = e_sm M (e_f M x5 x4) (t + 1) + e_f M x5 x4 (t + 1) := rfl
      refine hK _ _ _ _ (hK _ _ _ _ (hK _ _ _ _ ?_))
      refine ih (t + 1) _ (by omega) ?_
      rw [z_b_add, h8, hw]
      omega
  -- the rows and columns
  have lx : ∀ (n : Nat) (x2 x4 : Int32), z_b x2 = e_sm M (e_w M) N + 2147483648 → 0 < e_sm M (e_w M) N → (∀ (M2 : aM) (x3 x5 : Int32) (x6 x7 x8 : Option aV), z_M (zTb, [(37, 7, 8), (37, 18, 43)], []) (a_pI M 36 0 0 0) [] M2 → K 225 [some (vR 36 0), some (vI seed), some (vI x2), some (vI x3), some (vI x4), some (vI x5), x6, x7, x8] [] M2) → ∀ (M1 : aM) (x3 x5 : Int32) (x6 x7 x8 : Option aV), 4294967296 - z_b x5 = n → z_M (zTb, [(37, 7, 8), (37, 18, 43)], []) (a_pI M 36 0 0 0) [] M1 → K 86 [some (vR 36 0), some (vI seed), some (vI x2), some (vI x3), some (vI x4), some (vI x5), x6, x7, x8] [] M1 := by
    intro n x2 x4 h2 h2p hnx
    induction n using Nat.strongRecOn with
    | ind n ih =>
    intro M1 x3 x5 x6 x7 x8 hm hM
    have un : ∀ u, z_w [(37, 7, 8), (37, 18, 43)] 37 u u = false → M1.1 37 0 u = M.1 37 0 u := fun u h => (hM.2.1 37 0 u h).1.trans (i_pI (fun z => absurd z.1 (by decide)))
    refine hK _ _ _ _ (hK _ _ _ _ (hK _ _ _ _ (hK _ _ _ _ (?_))))
    refine hK _ _ _ _ ⟨i_vp (j := 3) (by decide) (by decide), ?_⟩
    refine hK _ _ _ _ ⟨fun h => hnx _ _ _ _ _ _ hM, fun h1 => ?_⟩
    refine hK _ _ _ _ (hK _ _ _ _ (hK _ _ _ _ (hK _ _ _ _ (hK _ _ _ _ (hK _ _ _ _ (hK _ _ _ _ (hK _ _ _ _ (hK _ _ _ _ (hK _ _ _ _ (hK _ _ _ _ (hK _ _ _ _ (hK _ _ _ _ (hK _ _ _ _ (?_))))))))))))))
    refine hK _ _ _ _ ⟨_, e_isHole (d := 58), rfl, fun v M3 g => ?_⟩
    obtain ⟨g, rfl⟩ := g
    have go : ∀ (a b : Int32) (x6 x7 x8 : Option aV) (x3 : Int32), z_i (2147483648, 2147516415) a → 2147483648 < z_b b → z_b b = e_sm M (e_f M x5 x4) N + 2147483648 → K 136 [some (vR 36 0), some (vI seed), some (vI x2), some (vI x3), some (vI x4), some (vI x5), x6, x7, x8] [vI b, vI a] M1 := by
      intro a b x6 x7 x8 x3 ha hb hbe
      refine hK _ _ _ _ ⟨fun z => ?_, ?_⟩
      · rw [z, z_b0] at hb
        omega
      have hr := z_remI_ok (b := (z_b b, z_b b)) ha (z_i_self b)
      have hr2 : 2147483648 ≤ z_b (a - a / b * b) ∧ z_b (a - a / b * b) ≤ z_b b - 1 := by
        unfold z_remI at hr
        have c1 : (Nat.ble 2147483648 2147483648 && Nat.blt 2147483648 (z_b b)) = true := by
          rw [Bool.and_eq_true]
          exact ⟨rfl, Nat.ble_eq_true_of_le hb⟩
        dsimp only at hr
        rw [c1, cond_true] at hr
        obtain ⟨r1, r2⟩ := hr
        dsimp only at r1 r2
        refine ⟨r1, ?_⟩
        cases hq : Nat.ble 2147516415 (z_b b - 1) with
        | true => rw [hq, cond_true] at r2; exact Nat.le_trans r2 (z_ble hq)
        | false => rw [hq, cond_false] at r2; exact r2
      refine hK _ _ _ _ (hK _ _ _ _ (hK _ _ _ _ (hK _ _ _ _ (hK _ _ _ _ (hK _ _ _ _ (hK _ _ _ _ (?_)))))))
      refine hK _ _ _ _ ⟨_, e_weightOf (t := 0) (d := 57) hM.1 (by decide), rfl, fun v M3 g => ?_⟩
      obtain ⟨⟨w, rfl, hw⟩, rfl⟩ := g
      have hf := e_wtf (M := M) (M1 := M1) (x := x5) (y := x4) (t := 0) (by decide) (un 6 rfl) (un 10 rfl)
      rw [hf] at hw
      refine hK _ _ _ _ ?_
      refine sq M1 x2 x4 x5 _ 0 hM hr2.1 (by omega) (fun M2 x3 x6 x7 x8 hM2 => ?_) x3 (N - 1) 0 w (by omega) ?_
      · refine hK _ _ _ _ (hK _ _ _ _ ?_)
        exact ih _ (v_up hm h1) _ _ _ _ _ _ rfl hM2
      · rw [hw]
        rw [e_sm_1]
    have hand : ∀ z : Int32, z_i (2147483648, 2147516415) (z &&& 32767) := fun z => z_and1 (by decide) (by decide +kernel)
    rcases g with ⟨hh, rfl⟩ | ⟨hh, rfl⟩
    · refine hK _ _ _ _ ⟨fun z => absurd z (by decide), fun _ => ?_⟩
      refine hK _ _ _ _ (hK _ _ _ _ (hK _ _ _ _ (?_)))
      refine hK _ _ _ _ ⟨i_vp (j := 2) (by decide) (by decide), ?_⟩
      refine hK _ _ _ _ ?_
      have hh2 : e_ho (M.1 37 0 6) x5 x4 = 1 := by rw [← un 6 rfl]; exact hh
      have e1 : e_sm M (e_f M x5 x4) N = N := by
        exact (e_sm_eq (M := M) (f := e_f M x5 x4) (g := fun _ => 1) N (fun u _ => by unfold e_f; exact if_pos hh2)).trans (e_sm_one (M := M) N)
      refine go _ _ _ _ _ _ (hand _) ?_ ?_
      · have e2 : M1.1 37 0 2 = M.1 37 0 2 := un 2 rfl
        show 2147483648 < z_b (M1.1 37 0 2)
        rw [e2, hN]
        omega
      · have e2 : M1.1 37 0 2 = M.1 37 0 2 := un 2 rfl
        show z_b (M1.1 37 0 2) = _
        rw [e2, hN, e1]
    · refine hK _ _ _ _ ⟨fun _ => ?_, fun z => absurd rfl z⟩
      refine hK _ _ _ _ ?_
      have hh2 : ¬ e_ho (M.1 37 0 6) x5 x4 = 1 := by rw [← un 6 rfl]; exact hh
      have e1 : e_sm M (e_f M x5 x4) N = e_sm M (e_w M) N := e_sm_eq N (fun u _ => by unfold e_f; rw [if_neg hh2])
      refine go _ _ _ _ _ _ (hand _) (by omega) (by rw [e1]; exact h2)
  have ly : M.1 37 0 5 = 0 → ∀ (n : Nat) (x2 : Int32), z_b x2 = e_sm M (e_w M) N + 2147483648 → 0 < e_sm M (e_w M) N → ∀ (M1 : aM) (x3 x4 : Int32) (x5 x6 x7 x8 : Option aV), 4294967296 - z_b x4 = n → z_M (zTb, [(37, 7, 8), (37, 18, 43)], []) (a_pI M 36 0 0 0) [] M1 → K 72 [some (vR 36 0), some (vI seed), some (vI x2), some (vI x3), some (vI x4), x5, x6, x7, x8] [] M1 := by
    intro hs5 n x2 h2 h2p
    induction n using Nat.strongRecOn with
    | ind n ih =>
    intro M1 x3 x4 x5 x6 x7 x8 hm hM
    refine hK _ _ _ _ (hK _ _ _ _ (hK _ _ _ _ (hK _ _ _ _ (?_))))
    refine hK _ _ _ _ ⟨i_vp (j := 4) (by decide) (by decide), ?_⟩
    refine hK _ _ _ _ ⟨fun h => fin hs5 h2p _ _ _ _ _ _ _ _ hM, fun h1 => ?_⟩
    refine hK _ _ _ _ (hK _ _ _ _ ?_)
    exact lx _ x2 x4 h2 h2p (fun M2 x3 x5 x6 x7 x8 hM2 => hK _ _ _ _ (hK _ _ _ _ (ih _ (v_up hm h1) _ _ _ _ _ _ _ rfl hM2))) _ _ _ _ _ _ rfl hM
  have la : ∀ (m t : Nat) (x2 : Int32), t + m = N → z_b x2 = e_sm M (e_w M) t + 2147483648 → K 4 [some (vR 36 0), some (vI seed), some (vI x2), some (vI (Int32.ofNat t)), none, none, none, none, none] [] M := by
    intro m
    induction m with
    | zero =>
      intro t x2 ht h2
      have e1 : t = N := by omega
      subst e1
      refine hK _ _ _ _ (hK _ _ _ _ (hK _ _ _ _ (hK _ _ _ _ (?_))))
      refine hK _ _ _ _ ⟨i_vp (j := 2) (by decide) (by decide), ?_⟩
      refine hK _ _ _ _ ⟨fun h => ?_, fun h => ?_⟩
      · refine hK _ _ _ _ (hK _ _ _ _ (hK _ _ _ _ (hK _ _ _ _ (?_))))
        refine hK _ _ _ _ ⟨i_vp (j := 5) (by decide) (by decide), ?_⟩
        have bad : ¬ (M.1 37 0 5 = 0 ∧ 0 < e_sm M (e_w M) t) → ∀ x3 : Int32, K 46 [some (vR 36 0), some (vI seed), some (vI x2), some (vI x3), none, none, none, none, none] [vR 36 0] M := by
          intro hno x3
          refine hK _ _ _ _ (hK _ _ _ _ (hK _ _ _ _ (hK _ _ _ _ (hK _ _ _ _ (?_)))))
          refine hK _ _ _ _ ⟨fun z => absurd (show (1 : Int32) ≤ 0 by rw [h_pIs] at z; exact z) (by decide), fun _ => ?_⟩
          have hMt : z_M (zTb, [(36, 0, 0)], []) M [] (a_pI M 36 0 0 1) := h_Mp (h_M0 hT) (by decide) (z_i_top _)
          exact hK _ _ _ _ (hK _ _ _ _ ⟨⟨_, rfl⟩, mPost_same hMt hi rfl, i_pI (fun z => absurd z.2.2 (by decide)), t, hN2, hNe, Or.inr ⟨h_pIs, hno, hMt⟩⟩)
        refine hK _ _ _ _ ⟨fun hs5 => bad (fun z => hs5 z.1) _, fun hs5 => ?_⟩
        refine hK _ _ _ _ (hK _ _ _ _ ⟨fun hz => ?_, fun hz => bad (fun z => by have z2 := z.2; rw [hz, z_b0] at h2; omega) _⟩)
        refine hK _ _ _ _ (hK _ _ _ _ (hK _ _ _ _ (hK _ _ _ _ (?_))))
        refine hK _ _ _ _ ⟨fun _ => ?_, fun z => absurd (Int32.le_refl _) (by rw [h_pIs] at z; exact z)⟩
        refine hK _ _ _ _ (hK _ _ _ _ (hK _ _ _ _ (?_)))
        refine hK _ _ _ _ ⟨_, h_pW hct_rests0 rfl rfl (show (1 : Nat) ≤ 59 by decide) (h_R trivial) (thr 0).1, rfl, fun v M2 g => ?_⟩
        obtain ⟨g1, g2⟩ := g
        have g1 := h_ovN g1
        subst g1
        refine hK _ _ _ _ (hK _ _ _ _ ?_)
        refine ly hs5 _ x2 h2 ?_ _ _ _ _ _ _ _ rfl (h_Mt (h_M0 (thr 0).1) g2 (by decide))
        have : ¬ z_b x2 = 2147483648 := fun z => hz (z_b_inj (z.trans z_b0.symm))
        omega
      · exfalso
        apply h
        have : M.1 37 0 2 = Int32.ofNat t := hNe
        show M.1 37 0 2 ≤ _
        rw [this]
        exact Int32.le_refl _
    | succ m ih =>
      intro t x2 ht h2
      refine hK _ _ _ _ (hK _ _ _ _ (hK _ _ _ _ (hK _ _ _ _ (?_))))
      refine hK _ _ _ _ ⟨i_vp (j := 2) (by decide) (by decide), ?_⟩
      refine hK _ _ _ _ ⟨fun h => ?_, fun h => ?_⟩
      · exfalso
        have h3 : M.1 37 0 2 ≤ Int32.ofNat t := h
        have := z_b_le.mp h3
        rw [hN, z_b_ofNat (by omega)] at this
        omega
      refine hK _ _ _ _ (hK _ _ _ _ (hK _ _ _ _ (hK _ _ _ _ (hK _ _ _ _ (hK _ _ _ _ (?_))))))
      have e10 : (10 : Int32) + Int32.ofNat t = Int32.ofNat (10 + t) := hI_ad (a := 10)
      first
        | (rw [e10]; refine hK _ _ _ _ ⟨i_vp (by decide) (by omega), ?_⟩)
        | (rw [e10]; refine ⟨i_vp (by decide) (by omega), ?_⟩)
        | (refine hK _ _ _ _ ?_; rw [e10]; refine hK _ _ _ _ ⟨i_vp (by decide) (by omega), ?_⟩)
        | (refine hK _ _ _ _ ?_; rw [e10]; refine ⟨i_vp (by decide) (by omega), ?_⟩)
      rw [hI_cl (by omega)]
      refine hK _ _ _ _ (hK _ _ _ _ (hK _ _ _ _ (hK _ _ _ _ (?_))))
      rw [show Int32.ofNat t + 1 = Int32.ofNat (t + 1) from hI_s]
      refine ih (t + 1) _ (by omega) ?_
      have hl := e_sm_le (M := M) (f := e_w M) (e_w9 hT) t
      have h9 := e_wT hT (t := t) (by omega)
      have es : e_sm M (e_w M) (t + 1) = e_sm M (e_w M) t + e_w M t := rfl
      have ew : e_w M t = z_b (M.1 37 0 (10 + t)) - 2147483648 := by
        unfold e_w
        rw [if_pos (by omega)]
      obtain ⟨h91, h92⟩ := h9
      dsimp only at h91 h92
      rw [z_b_add, h2, es, ew]
      omega
  refine hK _ _ _ _ (hK _ _ _ _ (hK _ _ _ _ (hK _ _ _ _ (?_))))
  exact la N 0 0 (by omega) (by rw [show e_sm M (e_w M) 0 = 0 from rfl, Nat.zero_add]; exact z_b0)
