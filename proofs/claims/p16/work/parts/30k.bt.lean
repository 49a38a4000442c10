theorem b_group {nS d i : Nat} {M : aM} : aC nS (d + 1) 6 [vR 4 i] M (fun v M' => v = some (vR 5 i) ∧ M = M') (fun _ _ => False) := by
  refine aC_mk rfl rfl ?_
  intro K hK _
  exact hK _ _ _ _ (hK _ _ _ _ (hK _ _ _ _ ⟨rfl, rfl⟩))
theorem b_wide {nS d i : Nat} {M : aM} : aC nS (d + 1) 7 [vR 4 i] M (fun v M' => v = some (vI (M.1 4 i 1)) ∧ M = M') (fun _ _ => False) := by
  refine aC_mk rfl rfl ?_
  intro K hK _
  exact hK _ _ _ _ (hK _ _ _ _ (hK _ _ _ _ ⟨rfl, rfl⟩))
theorem b_high {nS d i : Nat} {M : aM} : aC nS (d + 1) 8 [vR 4 i] M (fun v M' => v = some (vI (M.1 4 i 2)) ∧ M = M') (fun _ _ => False) := by
  refine aC_mk rfl rfl ?_
  intro K hK _
  exact hK _ _ _ _ (hK _ _ _ _ (hK _ _ _ _ ⟨rfl, rfl⟩))
theorem b_shape {nS d i : Nat} {M : aM} : aC nS (d + 1) 9 [vR 4 i] M (fun v M' => v = some (vI (M.1 4 i 3)) ∧ M = M') (fun _ _ => False) := by
  refine aC_mk rfl rfl ?_
  intro K hK _
  exact hK _ _ _ _ (hK _ _ _ _ (hK _ _ _ _ ⟨rfl, rfl⟩))
theorem b_texts {nS d i : Nat} {M : aM} : aC nS (d + 1) 10 [vR 4 i] M (fun v M' => v = some (vI (M.1 4 i 4)) ∧ M = M') (fun _ _ => False) := by
  refine aC_mk rfl rfl ?_
  intro K hK _
  exact hK _ _ _ _ (hK _ _ _ _ (hK _ _ _ _ ⟨rfl, rfl⟩))
theorem b_kind {nS d i : Nat} {M : aM} : aC nS (d + 1) 63 [vR 5 i] M (fun v M' => v = some (vI (M.1 5 i 0)) ∧ M = M') (fun _ _ => False) := by
  refine aC_mk rfl rfl ?_
  intro K hK _
  exact hK _ _ _ _ (hK _ _ _ _ (hK _ _ _ _ ⟨rfl, rfl⟩))
theorem b_order {nS d i : Nat} {M : aM} : aC nS (d + 1) 64 [vR 5 i] M (fun v M' => v = some (vI (M.1 5 i 1)) ∧ M = M') (fun _ _ => False) := by
  refine aC_mk rfl rfl ?_
  intro K hK _
  exact hK _ _ _ _ (hK _ _ _ _ (hK _ _ _ _ ⟨rfl, rfl⟩))
theorem b_kinOf {nS d i k o a : Nat} {M : aM} {x : Int32} (hF : gF i M k o) (hx : x = Int32.ofNat a) (ha : a < o) : aC nS (d + 2) 67 [vR 5 i, vI x] M (fun v M' => v = some (vI (Int32.ofNat (kn k o a))) ∧ M = M') (fun _ _ => False) := by
  obtain ⟨o2, o8, k3⟩ := gP_o hF.1.1
  subst hx
  refine aC_mk rfl rfl ?_
  intro K hK _
  refine hK _ _ _ _ (hK _ _ _ _ (hK _ _ _ _ (hK _ _ _ _ ⟨_, g_at8 rfl (show a < 8 by omega), rfl, fun v5 M5 g5 => ?_⟩)))
  obtain ⟨rfl, rfl⟩ := g5
  rw [hF.2.2.2.1 a ha]
  exact hK _ _ _ _ ⟨rfl, rfl⟩
def kset (k o t : Nat) (n : Int32) (W : Nat → Int32) (j : Nat) : Int32 := bif Nat.blt j o && Nat.beq (kn k o j) (kn k o t) then n else W j
theorem b_weighKin {nS d i k o t : Nat} {M : aM} {x n : Int32} (hF : gF i M k o) (hx : x = Int32.ofNat t) (ht : t < o) : aC nS (d + 3) 3 [vR 4 i, vI x, vI n] M (fun v M' => v = none ∧ fr (PR 13 i) M M' ∧ ∀ j, j < 8 → M'.1 13 i j = kset k o t n (M.1 13 i) j) (fun _ _ => False) := by
  obtain ⟨o2, o8, k3⟩ := gP_o hF.1.1
  subst hx
  refine aC_mk rfl rfl ?_
  intro K hK _
  have lp : ∀ (m a : Nat) (M1 : aM), o - a = m → a ≤ o → fr (PR 13 i) M M1 → (∀ j, j < 8 → M1.1 13 i j = bif Nat.blt j a then kset k o t n (M.1 13 i) j else M.1 13 i j) → K 2 [some (vR 4 i), some (vI (Int32.ofNat t)), some (vI n), some (vI (Int32.ofNat a))] [] M1 := by
    intro m
    induction m with
    | zero =>
      intro a M1 hm ha hf hj
      have e1 : M1.1 5 i 1 = Int32.ofNat o := (hf.1 5 i 1 rfl).trans hF.1.2.2
      refine hK _ _ _ _ (hK _ _ _ _ (hK _ _ _ _ (hK _ _ _ _ ⟨_, b_order, rfl, fun v7 M7 g7 => ?_⟩)))
      obtain ⟨rfl, rfl⟩ := g7
      refine hK _ _ _ _ ⟨fun h => ?_, fun h => ?_⟩
      · exact hK _ _ _ _ ⟨rfl, hf, fun j h8 => by
          rw [hj j h8]
          unfold kset
          cases hb : Nat.blt j a with
          | true => rfl
          | false =>
            rw [cond_false, show Nat.blt j o = false by rw [show o = a by omega]; exact hb]
            rfl⟩
      · exact absurd (x_nge (x := a) rfl e1 (by omega) (by omega) h) (by omega)
    | succ m ih =>
      intro a M1 hm ha hf hj
      have hao : a < o := by omega
      have e1 : M1.1 5 i 1 = Int32.ofNat o := (hf.1 5 i 1 rfl).trans hF.1.2.2
      have hF1 : gF i M1 k o := gF_fr hF (fun q j h1 h2 => hf.1 q i j (PR_n (by omega)))
      have hn := kn_lt hF.1.1 hao
      have hn2 := kn_lt hF.1.1 ht
      refine hK _ _ _ _ (hK _ _ _ _ (hK _ _ _ _ (hK _ _ _ _ ⟨_, b_order, rfl, fun v7 M7 g7 => ?_⟩)))
      obtain ⟨rfl, rfl⟩ := g7
      refine hK _ _ _ _ ⟨fun h => ?_, fun h => ?_⟩
      · exact absurd (x_ge (x := a) rfl e1 (by omega) (by omega) h) (by omega)
      · refine hK _ _ _ _ (hK _ _ _ _ (hK _ _ _ _ (hK _ _ _ _ ⟨_, b_kinOf hF1 rfl hao, rfl, fun v18 M18 g18 => ?_⟩)))
        obtain ⟨rfl, rfl⟩ := g18
        refine hK _ _ _ _ (hK _ _ _ _ (hK _ _ _ _ (hK _ _ _ _ ⟨_, b_kinOf hF1 rfl ht, rfl, fun v26 M26 g26 => ?_⟩)))
        obtain ⟨rfl, rfl⟩ := g26
        refine hK _ _ _ _ ⟨fun h2 => ?_, fun h2 => ?_⟩
        · refine hK _ _ _ _ (hK _ _ _ _ ?_)
          rw [hI_s]
          refine ih (a + 1) M1 (by omega) (by omega) hf (fun j h8 => ?_)
          rw [hj j h8]
          by_cases he : j = a
          · rw [he, x_nblt (Nat.lt_irrefl a), x_blt (Nat.lt_succ_self a)]
            unfold kset
            rw [x_nbeq (fun z => h2 (by rw [z])), Bool.and_false]
            rfl
          · by_cases hl : j < a
            · rw [x_blt hl, x_blt (show j < a + 1 by omega)]
            · rw [x_nblt hl, x_nblt (show ¬ j < a + 1 by omega)]
        · refine hK _ _ _ _ (hK _ _ _ _ (hK _ _ _ _ (hK _ _ _ _ (hK _ _ _ _ ⟨_, g_put13 rfl (show a < 8 by omega), rfl, fun v38 M38 g38 => ?_⟩))))
          obtain ⟨rfl, rfl⟩ := g38
          refine hK _ _ _ _ (hK _ _ _ _ ?_)
          rw [hI_s]
          refine ih (a + 1) _ (by omega) (by omega) (fr_p hf PR_t) (fun j h8 => ?_)
          by_cases he : j = a
          · rw [he, x_pe, x_blt (Nat.lt_succ_self a)]
            unfold kset
            rw [x_blt hao, x_beq (x_eq rfl rfl (by omega) (by omega) h2)]
            rfl
          · rw [x_pn (fun z => he z.2.2), hj j h8]
            by_cases hl : j < a
            · rw [x_blt hl, x_blt (show j < a + 1 by omega)]
            · rw [x_nblt hl, x_nblt (show ¬ j < a + 1 by omega)]
  refine hK _ _ _ _ (hK _ _ _ _ ?_)
  refine lp _ 0 M rfl (Nat.zero_le _) fr_r (fun j hj => ?_)
  rw [x_nblt (Nat.not_lt_zero j)]
  rfl
theorem b_makeHole {nS d i a : Nat} {M : aM} {x : Int32} (hx : x = Int32.ofNat a) (ha : a < 16) : aC nS (d + 2) 4 [vR 4 i, vI x] M (fun v M' => v = none ∧ M' = a_pI M 14 i a 1) (fun _ _ => False) := by
  refine aC_mk rfl rfl ?_
  intro K hK _
  refine hK _ _ _ _ (hK _ _ _ _ (hK _ _ _ _ (hK _ _ _ _ (hK _ _ _ _ ⟨_, g_put14 hx ha, rfl, fun v6 M6 g6 => ?_⟩))))
  obtain ⟨rfl, rfl⟩ := g6
  exact hK _ _ _ _ ⟨rfl, rfl⟩
theorem b_putTurn {nS d i a : Nat} {M : aM} {x t : Int32} (hx : x = Int32.ofNat a) (ha : a < 32) : aC nS (d + 2) 29 [vR 4 i, vI x, vI t] M (fun v M' => v = none ∧ M' = a_pI M 12 i a t) (fun _ _ => False) := by
  refine aC_mk rfl rfl ?_
  intro K hK _
  refine hK _ _ _ _ (hK _ _ _ _ (hK _ _ _ _ (hK _ _ _ _ (hK _ _ _ _ ⟨_, g_put12 hx ha, rfl, fun v6 M6 g6 => ?_⟩))))
  obtain ⟨rfl, rfl⟩ := g6
  exact hK _ _ _ _ ⟨rfl, rfl⟩
theorem g_copy12 {nS d a b : Nat} {M : aM} (hab : a ≠ b) : aC nS (d + 1) 112 [vR 12 a, vR 12 b] M (fun v M' => v = none ∧ fr (PR 12 b) M M' ∧ ∀ j, j < 32 → M'.1 12 b j = M.1 12 a j) (fun _ _ => False) := by
  refine aC_mk rfl rfl ?_
  intro K hK _
  have lp : ∀ (m u : Nat) (M1 : aM), 32 - u = m → u ≤ 32 → fr (PR 12 b) M M1 → (∀ j, j < u → M1.1 12 b j = M.1 12 a j) → K 2 [some (vR 12 a), some (vR 12 b), some (vI (Int32.ofNat u))] [] M1 := by
    intro m
    induction m with
    | zero =>
      intro u M1 hm hu hf hj
      refine hK _ _ _ _ (hK _ _ _ _ (hK _ _ _ _ (hK _ _ _ _ ⟨fun h => ?_, fun h => ?_⟩)))
      · exact hK _ _ _ _ ⟨rfl, hf, fun j h2 => hj j (by omega)⟩
      · exact absurd (x_nge (x := u) (y := 32) rfl rfl (by omega) (by decide) h) (by omega)
    | succ m ih =>
      intro u M1 hm hu hf hj
      have e1 : M1.1 12 a u = M.1 12 a u := hf.1 12 a u (PR_i hab)
      refine hK _ _ _ _ (hK _ _ _ _ (hK _ _ _ _ (hK _ _ _ _ ⟨fun h => ?_, fun h => ?_⟩)))
      · exact absurd (x_ge (x := u) (y := 32) rfl rfl (by omega) (by decide) h) (by omega)
      · refine hK _ _ _ _ (hK _ _ _ _ (hK _ _ _ _ (hK _ _ _ _ ⟨fun h => ?_, fun h => ?_⟩)))
        · exact absurd (x_ge (x := u) (y := 32) rfl rfl (by omega) (by decide) h) (by omega)
        · refine hK _ _ _ _ (hK _ _ _ _ (hK _ _ _ _ (hK _ _ _ _ (hK _ _ _ _ ⟨x_vp rfl (show u < 32 by omega) (by decide), ?_⟩))))
          rw [x_cl rfl (by omega), e1]
          refine hK _ _ _ _ ⟨x_vp rfl (show u < 32 by omega) (by decide), ?_⟩
          rw [x_cl rfl (by omega)]
          refine hK _ _ _ _ (hK _ _ _ _ ?_)
          rw [hI_s]
          refine ih (u + 1) _ (by omega) (by omega) (fr_p hf PR_t) (fun j h2 => ?_)
          by_cases he : j = u
          · rw [he]
            exact x_pe
          · rw [x_pn (fun z => he z.2.2)]
            exact hj j (by omega)
  refine hK _ _ _ _ (hK _ _ _ _ ?_)
  exact lp _ 0 M rfl (Nat.zero_le _) fr_r (fun j hj => absurd hj (Nat.not_lt_zero _))
theorem g_copy13 {nS d a b : Nat} {M : aM} (hab : a ≠ b) : aC nS (d + 1) 112 [vR 13 a, vR 13 b] M (fun v M' => v = none ∧ fr (PR 13 b) M M' ∧ ∀ j, j < 8 → M'.1 13 b j = M.1 13 a j) (fun _ _ => False) := by
  refine aC_mk rfl rfl ?_
  intro K hK _
  have lp : ∀ (m u : Nat) (M1 : aM), 8 - u = m → u ≤ 8 → fr (PR 13 b) M M1 → (∀ j, j < u → M1.1 13 b j = M.1 13 a j) → K 2 [some (vR 13 a), some (vR 13 b), some (vI (Int32.ofNat u))] [] M1 := by
    intro m
    induction m with
    | zero =>
      intro u M1 hm hu hf hj
      refine hK _ _ _ _ (hK _ _ _ _ (hK _ _ _ _ (hK _ _ _ _ ⟨fun h => ?_, fun h => ?_⟩)))
      · exact hK _ _ _ _ ⟨rfl, hf, fun j h2 => hj j (by omega)⟩
      · exact absurd (x_nge (x := u) (y := 8) rfl rfl (by omega) (by decide) h) (by omega)
    | succ m ih =>
      intro u M1 hm hu hf hj
      have e1 : M1.1 13 a u = M.1 13 a u := hf.1 13 a u (PR_i hab)
      refine hK _ _ _ _ (hK _ _ _ _ (hK _ _ _ _ (hK _ _ _ _ ⟨fun h => ?_, fun h => ?_⟩)))
      · exact absurd (x_ge (x := u) (y := 8) rfl rfl (by omega) (by decide) h) (by omega)
      · refine hK _ _ _ _ (hK _ _ _ _ (hK _ _ _ _ (hK _ _ _ _ ⟨fun h => ?_, fun h => ?_⟩)))
        · exact absurd (x_ge (x := u) (y := 8) rfl rfl (by omega) (by decide) h) (by omega)
        · refine hK _ _ _ _ (hK _ _ _ _ (hK _ _ _ _ (hK _ _ _ _ (hK _ _ _ _ ⟨x_vp rfl (show u < 8 by omega) (by decide), ?_⟩))))
          rw [x_cl rfl (by omega), e1]
          refine hK _ _ _ _ ⟨x_vp rfl (show u < 8 by omega) (by decide), ?_⟩
          rw [x_cl rfl (by omega)]
          refine hK _ _ _ _ (hK _ _ _ _ ?_)
          rw [hI_s]
          refine ih (u + 1) _ (by omega) (by omega) (fr_p hf PR_t) (fun j h2 => ?_)
          by_cases he : j = u
          · rw [he]
            exact x_pe
          · rw [x_pn (fun z => he z.2.2)]
            exact hj j (by omega)
  refine hK _ _ _ _ (hK _ _ _ _ ?_)
  exact lp _ 0 M rfl (Nat.zero_le _) fr_r (fun j hj => absurd hj (Nat.not_lt_zero _))
theorem g_copy14 {nS d a b : Nat} {M : aM} (hab : a ≠ b) : aC nS (d + 1) 112 [vR 14 a, vR 14 b] M (fun v M' => v = none ∧ fr (PR 14 b) M M' ∧ ∀ j, j < 16 → M'.1 14 b j = M.1 14 a j) (fun _ _ => False) := by
  refine aC_mk rfl rfl ?_
  intro K hK _
  have lp : ∀ (m u : Nat) (M1 : aM), 16 - u = m → u ≤ 16 → fr (PR 14 b) M M1 → (∀ j, j < u → M1.1 14 b j = M.1 14 a j) → K 2 [some (vR 14 a), some (vR 14 b), some (vI (Int32.ofNat u))] [] M1 := by
    intro m
    induction m with
    | zero =>
      intro u M1 hm hu hf hj
      refine hK _ _ _ _ (hK _ _ _ _ (hK _ _ _ _ (hK _ _ _ _ ⟨fun h => ?_, fun h => ?_⟩)))
      · exact hK _ _ _ _ ⟨rfl, hf, fun j h2 => hj j (by omega)⟩
      · exact absurd (x_nge (x := u) (y := 16) rfl rfl (by omega) (by decide) h) (by omega)
    | succ m ih =>
      intro u M1 hm hu hf hj
      have e1 : M1.1 14 a u = M.1 14 a u := hf.1 14 a u (PR_i hab)
      refine hK _ _ _ _ (hK _ _ _ _ (hK _ _ _ _ (hK _ _ _ _ ⟨fun h => ?_, fun h => ?_⟩)))
      · exact absurd (x_ge (x := u) (y := 16) rfl rfl (by omega) (by decide) h) (by omega)
      · refine hK _ _ _ _ (hK _ _ _ _ (hK _ _ _ _ (hK _ _ _ _ ⟨fun h => ?_, fun h => ?_⟩)))
        · exact absurd (x_ge (x := u) (y := 16) rfl rfl (by omega) (by decide) h) (by omega)
        · refine hK _ _ _ _ (hK _ _ _ _ (hK _ _ _ _ (hK _ _ _ _ (hK _ _ _ _ ⟨x_vp rfl (show u < 16 by omega) (by decide), ?_⟩))))
          rw [x_cl rfl (by omega), e1]
          refine hK _ _ _ _ ⟨x_vp rfl (show u < 16 by omega) (by decide), ?_⟩
          rw [x_cl rfl (by omega)]
          refine hK _ _ _ _ (hK _ _ _ _ ?_)
          rw [hI_s]
          refine ih (u + 1) _ (by omega) (by omega) (fr_p hf PR_t) (fun j h2 => ?_)
          by_cases he : j = u
          · rw [he]
            exact x_pe
          · rw [x_pn (fun z => he z.2.2)]
            exact hj j (by omega)
  refine hK _ _ _ _ (hK _ _ _ _ ?_)
  exact lp _ 0 M rfl (Nat.zero_le _) fr_r (fun j hj => absurd hj (Nat.not_lt_zero _))
theorem x_p6 {M : aM} {b q i j : Nat} {x1 x2 x3 x4 x5 x6 : Int32} (h : q ≠ 4) : (a_pI (a_pI (a_pI (a_pI (a_pI (a_pI M 4 b 1 x1) 4 b 2 x2) 4 b 3 x3) 4 b 5 x4) 4 b 6 x5) 4 b 4 x6).1 q i j = M.1 q i j := (x_pn (fun z => h z.1)).trans ((x_pn (fun z => h z.1)).trans ((x_pn (fun z => h z.1)).trans ((x_pn (fun z => h z.1)).trans ((x_pn (fun z => h z.1)).trans (x_pn (fun z => h z.1))))))
theorem b_copyFrom {nS d a b k o : Nat} {M : aM} {e : xB} (ha : a < 3) (hb : b < 3) (hab : a ≠ b) (hF : gF b M k o) (hB : cB a M e) : aC nS (d + 4) 0 [vR 4 b, vR 4 a] M (fun v M' => v = none ∧ fr (PB b) M M' ∧ cB b M' e ∧ M'.1 4 b 4 = M.1 4 a 4) (fun _ _ => False) := by
  obtain ⟨⟨⟨g1, g2, g3⟩, g4⟩, h2, ⟨s1, s2, s3, s4, s5⟩, h4, h5, h6⟩ := hB
  have nb : ∀ q j, PB b q a j = false := fun q j => by show (_ && Nat.beq a b) = false; rw [x_nbeq hab, Bool.and_false]
  refine aC_mk rfl rfl ?_
  intro K hK _
  refine hK _ _ _ _ (hK _ _ _ _ (hK _ _ _ _ (hK _ _ _ _ (hK _ _ _ _ ⟨_, b_kind, rfl, fun v8 M8 g8 => ?_⟩))))
  obtain ⟨rfl, rfl⟩ := g8
  refine hK _ _ _ _ (hK _ _ _ _ (hK _ _ _ _ ⟨_, b_order, rfl, fun v15 M15 g15 => ?_⟩))
  obtain ⟨rfl, rfl⟩ := g15
  refine hK _ _ _ _ ⟨_, g_become hb g1 g2 g3 hF, rfl, fun v18 M18 g18 => ?_⟩
  obtain ⟨rfl, f1, F1⟩ := g18
  have f1b := PGa_B f1
  have c1 : ∀ q j, M18.1 q a j = M.1 q a j := fun q j => f1b.1 q a j (nb q j)
  have f2 : fr (PB b) M (a_pI (a_pI (a_pI (a_pI (a_pI (a_pI M18 4 b 1 (M18.1 4 a 1)) 4 b 2 (M18.1 4 a 2)) 4 b 3 (M18.1 4 a 3)) 4 b 5 (M18.1 4 a 5)) 4 b 6 (M18.1 4 a 6)) 4 b 4 (M18.1 4 a 4)) := fr_p (fr_p (fr_p (fr_p (fr_p (fr_p f1b (PB_t rfl)) (PB_t rfl)) (PB_t rfl)) (PB_t rfl)) (PB_t rfl)) (PB_t rfl)
  refine hK _ _ _ _ (hK _ _ _ _ (hK _ _ _ _ (hK _ _ _ _ (hK _ _ _ _ (hK _ _ _ _ (hK _ _ _ _ (hK _ _ _ _ (hK _ _ _ _ (hK _ _ _ _ (hK _ _ _ _ (hK _ _ _ _ (hK _ _ _ _ (hK _ _ _ _ (hK _ _ _ _ (hK _ _ _ _ (hK _ _ _ _ (hK _ _ _ _ (hK _ _ _ _ (hK _ _ _ _ (hK _ _ _ _ (hK _ _ _ _ (hK _ _ _ _ (hK _ _ _ _ ?_)))))))))))))))))))))))
  have na : ∀ {M1 : aM} {j : Nat} {x : Int32} (u : Nat), (a_pI M1 4 b j x).1 4 a u = M1.1 4 a u := fun u => x_pn (fun z => hab z.2.1)
  simp only [na]
  have ce : ∀ u, M18.1 4 a u = M.1 4 a u := fun u => c1 4 u
  rw [ce, ce, ce, ce, ce, ce, s1, s2, s3, s4, s5]
  rw [ce, ce, ce, ce, ce, ce, s1, s2, s3, s4, s5] at f2
  refine hK _ _ _ _ (hK _ _ _ _ (hK _ _ _ _ (hK _ _ _ _ (hK _ _ _ _ ⟨_, g_copy12 hab, rfl, fun v77 M77 g77 => ?_⟩))))
  obtain ⟨rfl, f3, t3⟩ := g77
  refine hK _ _ _ _ (hK _ _ _ _ (hK _ _ _ _ (hK _ _ _ _ (hK _ _ _ _ ⟨_, g_copy13 hab, rfl, fun v88 M88 g88 => ?_⟩))))
  obtain ⟨rfl, f4, t4⟩ := g88
  refine hK _ _ _ _ (hK _ _ _ _ (hK _ _ _ _ (hK _ _ _ _ (hK _ _ _ _ ⟨_, g_copy14 hab, rfl, fun v99 M99 g99 => ?_⟩))))
  obtain ⟨rfl, f5, t5⟩ := g99
  refine hK _ _ _ _ ⟨rfl, fr_t f2 (fr_t (PR_B f3 rfl) (fr_t (PR_B f4 rfl) (PR_B f5 rfl))), ⟨?_, h2, ⟨(f5.1 4 b 1 rfl).trans ((f4.1 4 b 1 rfl).trans ((f3.1 4 b 1 rfl).trans ((x_pn (fun z => absurd z.2.2 (by decide))).trans ((x_pn (fun z => absurd z.2.2 (by decide))).trans ((x_pn (fun z => absurd z.2.2 (by decide))).trans ((x_pn (fun z => absurd z.2.2 (by decide))).trans ((x_pn (fun z => absurd z.2.2 (by decide))).trans (x_pe)))))))), (f5.1 4 b 2 rfl).trans ((f4.1 4 b 2 rfl).trans ((f3.1 4 b 2 rfl).trans ((x_pn (fun z => absurd z.2.2 (by decide))).trans ((x_pn (fun z => absurd z.2.2 (by decide))).trans ((x_pn (fun z => absurd z.2.2 (by decide))).trans ((x_pn (fun z => absurd z.2.2 (by decide))).trans (x_pe))))))), (f5.1 4 b 3 rfl).trans ((f4.1 4 b 3 rfl).trans ((f3.1 4 b 3 rfl).trans ((x_pn (fun z => absurd z.2.2 (by decide))).trans ((x_pn (fun z => absurd z.2.2 (by decide))).trans ((x_pn (fun z => absurd z.2.2 (by decide))).trans (x_pe)))))), (f5.1 4 b 5 rfl).trans ((f4.1 4 b 5 rfl).trans ((f3.1 4 b 5 rfl).trans ((x_pn (fun z => absurd z.2.2 (by decide))).trans ((x_pn (fun z => absurd z.2.2 (by decide))).trans (x_pe))))), (f5.1 4 b 6 rfl).trans ((f4.1 4 b 6 rfl).trans ((f3.1 4 b 6 rfl).trans ((x_pn (fun z => absurd z.2.2 (by decide))).trans (x_pe))))⟩, fun j hj => ?_, fun j hj => ?_, fun j hj => ?_⟩, (f5.1 4 b 4 rfl).trans ((f4.1 4 b 4 rfl).trans ((f3.1 4 b 4 rfl).trans (x_pe)))⟩
  · refine gF_fr F1 (fun q j q1 q2 => ?_)
    rw [f5.1 q b j (PR_n (by omega)), f4.1 q b j (PR_n (by omega)), f3.1 q b j (PR_n (by omega))]
    rw [x_pn (fun z => by have := z.1; omega), x_pn (fun z => by have := z.1; omega), x_pn (fun z => by have := z.1; omega), x_pn (fun z => by have := z.1; omega), x_pn (fun z => by have := z.1; omega), x_pn (fun z => by have := z.1; omega)]
  · rw [f5.1 13 b j rfl, t4 j hj, f3.1 13 a j rfl, ← h4 j hj, ← c1 13 j]
    exact x_p6 (by decide)
  · rw [t5 j hj, f4.1 14 a j rfl, f3.1 14 a j rfl, ← h5 j hj, ← c1 14 j]
    exact x_p6 (by decide)
  · rw [f5.1 12 b j rfl, f4.1 12 b j rfl, t3 j hj, ← h6 j hj, ← c1 12 j]
    exact x_p6 (by decide)
