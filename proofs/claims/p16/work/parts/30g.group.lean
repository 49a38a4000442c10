/-- the reference's group: KIND k, ORDER o -/
def gM (M : aM) (k o : Nat) : Prop := (k, o) ∈ gP ∧ M.1 37 0 1 = Int32.ofNat k ∧ M.1 37 0 2 = Int32.ofNat o
theorem g_times {nS d : Nat} {M : aM} {k o a b : Nat} (hg : gM M k o) (ha : a < o) (hb : b < o) : aC nS (d + 1) 180 [vR 36 0, vI (Int32.ofNat a), vI (Int32.ofNat b)] M (fun v M' => v = some (vI (Int32.ofNat (rt k o a b))) ∧ M = M') (fun _ _ => False) := by
  obtain ⟨o2, o8, k3⟩ := gP_o hg.1
  have hr := rt_lt hg.1 ha hb
  exact zN_use (g_tm_ok _ (gT_mem hg.1 ha hb)) (r := rt k o a b) (by omega) rfl rfl (Nat.le_add_left 1 d) (h_R (h_Iv (zN_i (n := a) (by omega)) (h_Iv (zN_i (n := b) (by omega)) trivial))) z_MT0 (zN_G (k := 37) (i := 0) (j := 1) (v := k) (by decide) (by decide) rfl (by omega) hg.2.1 (zN_G (k := 37) (i := 0) (j := 2) (v := o) (by decide) (by decide) rfl (by omega) hg.2.2 h_MG0))
/-- the class's group, of instance i -/
def gC (i : Nat) (M : aM) (k o : Nat) : Prop := (k, o) ∈ gP ∧ M.1 5 i 0 = Int32.ofNat k ∧ M.1 5 i 1 = Int32.ofNat o
theorem g_product0 {nS d : Nat} {M : aM} {k o a b : Nat} (hg : gC 0 M k o) (ha : a < o) (hb : b < o) : aC nS (d + 1) 54 [vR 5 0, vI (Int32.ofNat a), vI (Int32.ofNat b)] M (fun v M' => v = some (vI (Int32.ofNat (rt k o a b))) ∧ M = M') (fun _ _ => False) := by
  obtain ⟨o2, o8, k3⟩ := gP_o hg.1
  have hr := rt_lt hg.1 ha hb
  exact zN_use (g_pr0_ok _ (gT_mem hg.1 ha hb)) (r := rt k o a b) (by omega) rfl rfl (Nat.le_add_left 1 d) (h_R (h_Iv (zN_i (n := a) (by omega)) (h_Iv (zN_i (n := b) (by omega)) trivial))) z_MT0 (zN_G (k := 5) (i := 0) (j := 0) (v := k) (by decide) (by decide) rfl (by omega) hg.2.1 (zN_G (k := 5) (i := 0) (j := 1) (v := o) (by decide) (by decide) rfl (by omega) hg.2.2 h_MG0))
theorem g_product1 {nS d : Nat} {M : aM} {k o a b : Nat} (hg : gC 1 M k o) (ha : a < o) (hb : b < o) : aC nS (d + 1) 54 [vR 5 1, vI (Int32.ofNat a), vI (Int32.ofNat b)] M (fun v M' => v = some (vI (Int32.ofNat (rt k o a b))) ∧ M = M') (fun _ _ => False) := by
  obtain ⟨o2, o8, k3⟩ := gP_o hg.1
  have hr := rt_lt hg.1 ha hb
  exact zN_use (g_pr1_ok _ (gT_mem hg.1 ha hb)) (r := rt k o a b) (by omega) rfl rfl (Nat.le_add_left 1 d) (h_R (h_Iv (zN_i (n := a) (by omega)) (h_Iv (zN_i (n := b) (by omega)) trivial))) z_MT0 (zN_G (k := 5) (i := 1) (j := 0) (v := k) (by decide) (by decide) rfl (by omega) hg.2.1 (zN_G (k := 5) (i := 1) (j := 1) (v := o) (by decide) (by decide) rfl (by omega) hg.2.2 h_MG0))
theorem g_product2 {nS d : Nat} {M : aM} {k o a b : Nat} (hg : gC 2 M k o) (ha : a < o) (hb : b < o) : aC nS (d + 1) 54 [vR 5 2, vI (Int32.ofNat a), vI (Int32.ofNat b)] M (fun v M' => v = some (vI (Int32.ofNat (rt k o a b))) ∧ M = M') (fun _ _ => False) := by
  obtain ⟨o2, o8, k3⟩ := gP_o hg.1
  have hr := rt_lt hg.1 ha hb
  exact zN_use (g_pr2_ok _ (gT_mem hg.1 ha hb)) (r := rt k o a b) (by omega) rfl rfl (Nat.le_add_left 1 d) (h_R (h_Iv (zN_i (n := a) (by omega)) (h_Iv (zN_i (n := b) (by omega)) trivial))) z_MT0 (zN_G (k := 5) (i := 2) (j := 0) (v := k) (by decide) (by decide) rfl (by omega) hg.2.1 (zN_G (k := 5) (i := 2) (j := 1) (v := o) (by decide) (by decide) rfl (by omega) hg.2.2 h_MG0))
theorem g_product {nS d i : Nat} {M : aM} {k o a b : Nat} (hi : i < 3) (hg : gC i M k o) (ha : a < o) (hb : b < o) : aC nS (d + 1) 54 [vR 5 i, vI (Int32.ofNat a), vI (Int32.ofNat b)] M (fun v M' => v = some (vI (Int32.ofNat (rt k o a b))) ∧ M = M') (fun _ _ => False) := by
  rcases (by omega : i = 0 ∨ i = 1 ∨ i = 2) with rfl | rfl | rfl
  · exact g_product0 hg ha hb
  · exact g_product1 hg ha hb
  · exact g_product2 hg ha hb
theorem g_against {nS d : Nat} {M : aM} {k o a : Nat} (hg : gM M k o) (ha : a < o) : aC nS (d + 2) 181 [vR 36 0, vI (Int32.ofNat a)] M (fun v M' => v = some (vI (Int32.ofNat (ag k o a))) ∧ M = M') (fun _ _ => False) := by
  obtain ⟨o2, o8, k3⟩ := gP_o hg.1
  have hl := ag_lt hg.1 ha
  refine aC_mk rfl rfl ?_
  intro K hK _
  have lp : ∀ (m b : Nat), ag k o a - b = m → b ≤ ag k o a → K 2 [some (vR 36 0), some (vI (Int32.ofNat a)), some (vI (Int32.ofNat b))] [] M := by
    intro m
    induction m with
    | zero =>
      intro b hm hb
      have hbe : b = ag k o a := by omega
      refine hK _ _ _ _ (hK _ _ _ _ (hK _ _ _ _ (hK _ _ _ _ ⟨_, g_times hg ha (show b < o by omega), rfl, fun v5 M5 g5 => ?_⟩)))
      obtain ⟨rfl, rfl⟩ := g5
      rw [hbe, ag_ex hg.1 ha]
      refine hK _ _ _ _ ⟨fun h => ?_, fun h => ?_⟩
      · exact hK _ _ _ _ (hK _ _ _ _ ⟨rfl, rfl⟩)
      · exact absurd rfl h
    | succ m ih =>
      intro b hm hb
      refine hK _ _ _ _ (hK _ _ _ _ (hK _ _ _ _ (hK _ _ _ _ ⟨_, g_times hg ha (show b < o by omega), rfl, fun v5 M5 g5 => ?_⟩)))
      obtain ⟨rfl, rfl⟩ := g5
      have hne : ¬ Int32.ofNat (rt k o a b) = 0 := fun z => by
        have h1 := x_eq (y := 0) rfl rfl (by have := rt_lt hg.1 ha (show b < o by omega); omega) (by decide) z
        have h2 := ag_un hg.1 ha (show b < o by omega) h1
        omega
      refine hK _ _ _ _ ⟨fun h => ?_, fun h => ?_⟩
      · exact absurd h hne
      · refine hK _ _ _ _ (hK _ _ _ _ ?_)
        rw [hI_s]
        exact ih (b + 1) (by omega) (by omega)
  refine hK _ _ _ _ (hK _ _ _ _ ?_)
  exact lp _ 0 rfl (Nat.zero_le _)
def PR (q i : Nat) : xF := fun k i' _ => Nat.beq k q && Nat.beq i' i
theorem PR_t {q i j : Nat} : PR q i q i j = true := by
  show (Nat.beq q q && Nat.beq i i) = true
  rw [Nat.beq_refl, Nat.beq_refl]
  rfl
theorem x_nbq {a b : Nat} (h : ¬ a = b) : Nat.beq a b = false := by
  cases hb : Nat.beq a b with
  | true => exact absurd (Nat.eq_of_beq_eq_true hb) h
  | false => rfl
theorem PR_n {q i k i' j : Nat} (h : ¬ k = q) : PR q i k i' j = false := by
  show (Nat.beq k q && Nat.beq i' i) = false
  rw [x_nbq h, Bool.false_and]
theorem PR_i {q i k i' j : Nat} (h : ¬ i' = i) : PR q i k i' j = false := by
  show (Nat.beq k q && Nat.beq i' i) = false
  rw [x_nbq h, Bool.and_false]
theorem g_put6 {nS d i : Nat} {M : aM} {j x : Int32} {a : Nat} (hj : j = Int32.ofNat a) (ha : a < 64) : aC nS (d + 1) 106 [vR 6 i, vI j, vI x] M (fun v M' => v = none ∧ M' = a_pI M 6 i a x) (fun _ _ => False) := by
  refine aC_mk rfl rfl ?_
  intro K hK _
  subst hj
  refine hK _ _ _ _ (hK _ _ _ _ ⟨fun h => ?_, fun h => ?_⟩)
  · exact absurd (x_lt (y := 0) rfl rfl (by omega) (by decide) h) (by omega)
  · refine hK _ _ _ _ (hK _ _ _ _ (hK _ _ _ _ (hK _ _ _ _ ⟨fun h => ?_, fun h => ?_⟩)))
    · exact absurd (x_ge (y := 64) rfl rfl (by omega) (by decide) h) (by omega)
    · refine hK _ _ _ _ (hK _ _ _ _ (hK _ _ _ _ (hK _ _ _ _ ⟨x_vp rfl ha (by decide), ?_⟩)))
      rw [x_cl rfl (by omega)]
      exact hK _ _ _ _ ⟨rfl, rfl⟩
theorem g_put7 {nS d i : Nat} {M : aM} {j x : Int32} {a : Nat} (hj : j = Int32.ofNat a) (ha : a < 8) : aC nS (d + 1) 106 [vR 7 i, vI j, vI x] M (fun v M' => v = none ∧ M' = a_pI M 7 i a x) (fun _ _ => False) := by
  refine aC_mk rfl rfl ?_
  intro K hK _
  subst hj
  refine hK _ _ _ _ (hK _ _ _ _ ⟨fun h => ?_, fun h => ?_⟩)
  · exact absurd (x_lt (y := 0) rfl rfl (by omega) (by decide) h) (by omega)
  · refine hK _ _ _ _ (hK _ _ _ _ (hK _ _ _ _ (hK _ _ _ _ ⟨fun h => ?_, fun h => ?_⟩)))
    · exact absurd (x_ge (y := 8) rfl rfl (by omega) (by decide) h) (by omega)
    · refine hK _ _ _ _ (hK _ _ _ _ (hK _ _ _ _ (hK _ _ _ _ ⟨x_vp rfl ha (by decide), ?_⟩)))
      rw [x_cl rfl (by omega)]
      exact hK _ _ _ _ ⟨rfl, rfl⟩
theorem g_put8 {nS d i : Nat} {M : aM} {j x : Int32} {a : Nat} (hj : j = Int32.ofNat a) (ha : a < 8) : aC nS (d + 1) 106 [vR 8 i, vI j, vI x] M (fun v M' => v = none ∧ M' = a_pI M 8 i a x) (fun _ _ => False) := by
  refine aC_mk rfl rfl ?_
  intro K hK _
  subst hj
  refine hK _ _ _ _ (hK _ _ _ _ ⟨fun h => ?_, fun h => ?_⟩)
  · exact absurd (x_lt (y := 0) rfl rfl (by omega) (by decide) h) (by omega)
  · refine hK _ _ _ _ (hK _ _ _ _ (hK _ _ _ _ (hK _ _ _ _ ⟨fun h => ?_, fun h => ?_⟩)))
    · exact absurd (x_ge (y := 8) rfl rfl (by omega) (by decide) h) (by omega)
    · refine hK _ _ _ _ (hK _ _ _ _ (hK _ _ _ _ (hK _ _ _ _ ⟨x_vp rfl ha (by decide), ?_⟩)))
      rw [x_cl rfl (by omega)]
      exact hK _ _ _ _ ⟨rfl, rfl⟩
theorem g_at8 {nS d i : Nat} {M : aM} {j : Int32} {a : Nat} (hj : j = Int32.ofNat a) (ha : a < 8) : aC nS (d + 1) 104 [vR 8 i, vI j] M (fun v M' => v = some (vI (M.1 8 i a)) ∧ M = M') (fun _ _ => False) := by
  refine aC_mk rfl rfl ?_
  intro K hK _
  subst hj
  refine hK _ _ _ _ (hK _ _ _ _ ⟨fun h => ?_, fun h => ?_⟩)
  · exact absurd (x_lt (y := 0) rfl rfl (by omega) (by decide) h) (by omega)
  · refine hK _ _ _ _ (hK _ _ _ _ (hK _ _ _ _ (hK _ _ _ _ ⟨fun h => ?_, fun h => ?_⟩)))
    · exact absurd (x_ge (y := 8) rfl rfl (by omega) (by decide) h) (by omega)
    · refine hK _ _ _ _ (hK _ _ _ _ (hK _ _ _ _ ⟨x_vp rfl ha (by decide), ?_⟩))
      rw [x_cl rfl (by omega)]
      exact hK _ _ _ _ (hK _ _ _ _ ⟨rfl, rfl⟩)
theorem g_fill8 {nS d i : Nat} {M : aM} {x : Int32} : aC nS (d + 1) 110 [vR 8 i, vI x] M (fun v M' => v = none ∧ fr (PR 8 i) M M' ∧ ∀ j, j < 8 → M'.1 8 i j = x) (fun _ _ => False) := by
  refine aC_mk rfl rfl ?_
  intro K hK _
  have lp : ∀ (m a : Nat) (M1 : aM), 8 - a = m → a ≤ 8 → fr (PR 8 i) M M1 → (∀ j, j < a → M1.1 8 i j = x) → K 2 [some (vR 8 i), some (vI x), some (vI (Int32.ofNat a))] [] M1 := by
    intro m
    induction m with
    | zero =>
      intro a M1 hm ha hf hj
      refine hK _ _ _ _ (hK _ _ _ _ (hK _ _ _ _ (hK _ _ _ _ ⟨fun h => ?_, fun h => ?_⟩)))
      · exact hK _ _ _ _ ⟨rfl, hf, fun j h2 => hj j (by omega)⟩
      · exact absurd (x_nge (x := a) (y := 8) rfl rfl (by omega) (by decide) h) (by omega)
    | succ m ih =>
      intro a M1 hm ha hf hj
      refine hK _ _ _ _ (hK _ _ _ _ (hK _ _ _ _ (hK _ _ _ _ ⟨fun h => ?_, fun h => ?_⟩)))
      · exact absurd (x_ge (x := a) (y := 8) rfl rfl (by omega) (by decide) h) (by omega)
      · refine hK _ _ _ _ (hK _ _ _ _ (hK _ _ _ _ (hK _ _ _ _ ⟨x_vp rfl (show a < 8 by omega) (by decide), ?_⟩)))
        rw [x_cl rfl (by omega)]
        refine hK _ _ _ _ (hK _ _ _ _ ?_)
        rw [hI_s]
        exact ih (a + 1) _ (by omega) (by omega) (fr_p hf PR_t) (fun j h2 => by
          by_cases he : j = a
          · rw [he]
            exact x_pe
          · rw [x_pn (fun z => he z.2.2)]
            exact hj j (by omega))
  refine hK _ _ _ _ (hK _ _ _ _ ?_)
  exact lp _ 0 M rfl (Nat.zero_le _) fr_r (fun j hj => absurd hj (Nat.not_lt_zero _))
theorem g_at9 {nS d i : Nat} {M : aM} {j : Int32} {a : Nat} (hj : j = Int32.ofNat a) (ha : a < 8) : aC nS (d + 1) 104 [vR 9 i, vI j] M (fun v M' => v = some (vI (M.1 9 i a)) ∧ M = M') (fun _ _ => False) := by
  refine aC_mk rfl rfl ?_
  intro K hK _
  subst hj
  refine hK _ _ _ _ (hK _ _ _ _ ⟨fun h => ?_, fun h => ?_⟩)
  · exact absurd (x_lt (y := 0) rfl rfl (by omega) (by decide) h) (by omega)
  · refine hK _ _ _ _ (hK _ _ _ _ (hK _ _ _ _ (hK _ _ _ _ ⟨fun h => ?_, fun h => ?_⟩)))
    · exact absurd (x_ge (y := 8) rfl rfl (by omega) (by decide) h) (by omega)
    · refine hK _ _ _ _ (hK _ _ _ _ (hK _ _ _ _ ⟨x_vp rfl ha (by decide), ?_⟩))
      rw [x_cl rfl (by omega)]
      exact hK _ _ _ _ (hK _ _ _ _ ⟨rfl, rfl⟩)
theorem g_add9 {nS d i : Nat} {M : aM} {j x : Int32} {a : Nat} (hj : j = Int32.ofNat a) (ha : a < 8) : aC nS (d + 1) 107 [vR 9 i, vI j, vI x] M (fun v M' => v = none ∧ M' = a_pI M 9 i a (M.1 9 i a + x)) (fun _ _ => False) := by
  refine aC_mk rfl rfl ?_
  intro K hK _
  subst hj
  refine hK _ _ _ _ (hK _ _ _ _ ⟨fun h => ?_, fun h => ?_⟩)
  · exact absurd (x_lt (y := 0) rfl rfl (by omega) (by decide) h) (by omega)
  · refine hK _ _ _ _ (hK _ _ _ _ (hK _ _ _ _ (hK _ _ _ _ ⟨fun h => ?_, fun h => ?_⟩)))
    · exact absurd (x_ge (y := 8) rfl rfl (by omega) (by decide) h) (by omega)
    · refine hK _ _ _ _ (hK _ _ _ _ (hK _ _ _ _ (hK _ _ _ _ ⟨x_vp rfl ha (by decide), ?_⟩)))
      rw [x_cl rfl (by omega)]
      refine hK _ _ _ _ (hK _ _ _ _ (hK _ _ _ _ ⟨x_vp rfl ha (by decide), ?_⟩))
      rw [x_cl rfl (by omega)]
      exact hK _ _ _ _ ⟨rfl, rfl⟩
theorem g_fill9 {nS d i : Nat} {M : aM} {x : Int32} : aC nS (d + 1) 110 [vR 9 i, vI x] M (fun v M' => v = none ∧ fr (PR 9 i) M M' ∧ ∀ j, j < 8 → M'.1 9 i j = x) (fun _ _ => False) := by
  refine aC_mk rfl rfl ?_
  intro K hK _
  have lp : ∀ (m a : Nat) (M1 : aM), 8 - a = m → a ≤ 8 → fr (PR 9 i) M M1 → (∀ j, j < a → M1.1 9 i j = x) → K 2 [some (vR 9 i), some (vI x), some (vI (Int32.ofNat a))] [] M1 := by
    intro m
    induction m with
    | zero =>
      intro a M1 hm ha hf hj
      refine hK _ _ _ _ (hK _ _ _ _ (hK _ _ _ _ (hK _ _ _ _ ⟨fun h => ?_, fun h => ?_⟩)))
      · exact hK _ _ _ _ ⟨rfl, hf, fun j h2 => hj j (by omega)⟩
      · exact absurd (x_nge (x := a) (y := 8) rfl rfl (by omega) (by decide) h) (by omega)
    | succ m ih =>
      intro a M1 hm ha hf hj
      refine hK _ _ _ _ (hK _ _ _ _ (hK _ _ _ _ (hK _ _ _ _ ⟨fun h => ?_, fun h => ?_⟩)))
      · exact absurd (x_ge (x := a) (y := 8) rfl rfl (by omega) (by decide) h) (by omega)
      · refine hK _ _ _ _ (hK _ _ _ _ (hK _ _ _ _ (hK _ _ _ _ ⟨x_vp rfl (show a < 8 by omega) (by decide), ?_⟩)))
        rw [x_cl rfl (by omega)]
        refine hK _ _ _ _ (hK _ _ _ _ ?_)
        rw [hI_s]
        exact ih (a + 1) _ (by omega) (by omega) (fr_p hf PR_t) (fun j h2 => by
          by_cases he : j = a
          · rw [he]
            exact x_pe
          · rw [x_pn (fun z => he z.2.2)]
            exact hj j (by omega))
  refine hK _ _ _ _ (hK _ _ _ _ ?_)
  exact lp _ 0 M rfl (Nat.zero_le _) fr_r (fun j hj => absurd hj (Nat.not_lt_zero _))
theorem g_at10 {nS d i : Nat} {M : aM} {j : Int32} {a : Nat} (hj : j = Int32.ofNat a) (ha : a < 8) : aC nS (d + 1) 104 [vR 10 i, vI j] M (fun v M' => v = some (vI (M.1 10 i a)) ∧ M = M') (fun _ _ => False) := by
  refine aC_mk rfl rfl ?_
  intro K hK _
  subst hj
  refine hK _ _ _ _ (hK _ _ _ _ ⟨fun h => ?_, fun h => ?_⟩)
  · exact absurd (x_lt (y := 0) rfl rfl (by omega) (by decide) h) (by omega)
  · refine hK _ _ _ _ (hK _ _ _ _ (hK _ _ _ _ (hK _ _ _ _ ⟨fun h => ?_, fun h => ?_⟩)))
    · exact absurd (x_ge (y := 8) rfl rfl (by omega) (by decide) h) (by omega)
    · refine hK _ _ _ _ (hK _ _ _ _ (hK _ _ _ _ ⟨x_vp rfl ha (by decide), ?_⟩))
      rw [x_cl rfl (by omega)]
      exact hK _ _ _ _ (hK _ _ _ _ ⟨rfl, rfl⟩)
theorem g_add10 {nS d i : Nat} {M : aM} {j x : Int32} {a : Nat} (hj : j = Int32.ofNat a) (ha : a < 8) : aC nS (d + 1) 107 [vR 10 i, vI j, vI x] M (fun v M' => v = none ∧ M' = a_pI M 10 i a (M.1 10 i a + x)) (fun _ _ => False) := by
  refine aC_mk rfl rfl ?_
  intro K hK _
  subst hj
  refine hK _ _ _ _ (hK _ _ _ _ ⟨fun h => ?_, fun h => ?_⟩)
  · exact absurd (x_lt (y := 0) rfl rfl (by omega) (by decide) h) (by omega)
  · refine hK _ _ _ _ (hK _ _ _ _ (hK _ _ _ _ (hK _ _ _ _ ⟨fun h => ?_, fun h => ?_⟩)))
    · exact absurd (x_ge (y := 8) rfl rfl (by omega) (by decide) h) (by omega)
    · refine hK _ _ _ _ (hK _ _ _ _ (hK _ _ _ _ (hK _ _ _ _ ⟨x_vp rfl ha (by decide), ?_⟩)))
      rw [x_cl rfl (by omega)]
      refine hK _ _ _ _ (hK _ _ _ _ (hK _ _ _ _ ⟨x_vp rfl ha (by decide), ?_⟩))
      rw [x_cl rfl (by omega)]
      exact hK _ _ _ _ ⟨rfl, rfl⟩
theorem g_fill10 {nS d i : Nat} {M : aM} {x : Int32} : aC nS (d + 1) 110 [vR 10 i, vI x] M (fun v M' => v = none ∧ fr (PR 10 i) M M' ∧ ∀ j, j < 8 → M'.1 10 i j = x) (fun _ _ => False) := by
  refine aC_mk rfl rfl ?_
  intro K hK _
  have lp : ∀ (m a : Nat) (M1 : aM), 8 - a = m → a ≤ 8 → fr (PR 10 i) M M1 → (∀ j, j < a → M1.1 10 i j = x) → K 2 [some (vR 10 i), some (vI x), some (vI (Int32.ofNat a))] [] M1 := by
    intro m
    induction m with
    | zero =>
      intro a M1 hm ha hf hj
      refine hK _ _ _ _ (hK _ _ _ _ (hK _ _ _ _ (hK _ _ _ _ ⟨fun h => ?_, fun h => ?_⟩)))
      · exact hK _ _ _ _ ⟨rfl, hf, fun j h2 => hj j (by omega)⟩
      · exact absurd (x_nge (x := a) (y := 8) rfl rfl (by omega) (by decide) h) (by omega)
    | succ m ih =>
      intro a M1 hm ha hf hj
      refine hK _ _ _ _ (hK _ _ _ _ (hK _ _ _ _ (hK _ _ _ _ ⟨fun h => ?_, fun h => ?_⟩)))
      · exact absurd (x_ge (x := a) (y := 8) rfl rfl (by omega) (by decide) h) (by omega)
      · refine hK _ _ _ _ (hK _ _ _ _ (hK _ _ _ _ (hK _ _ _ _ ⟨x_vp rfl (show a < 8 by omega) (by decide), ?_⟩)))
        rw [x_cl rfl (by omega)]
        refine hK _ _ _ _ (hK _ _ _ _ ?_)
        rw [hI_s]
        exact ih (a + 1) _ (by omega) (by omega) (fr_p hf PR_t) (fun j h2 => by
          by_cases he : j = a
          · rw [he]
            exact x_pe
          · rw [x_pn (fun z => he z.2.2)]
            exact hj j (by omega))
  refine hK _ _ _ _ (hK _ _ _ _ ?_)
  exact lp _ 0 M rfl (Nat.zero_le _) fr_r (fun j hj => absurd hj (Nat.not_lt_zero _))
theorem g_at11 {nS d i : Nat} {M : aM} {j : Int32} {a : Nat} (hj : j = Int32.ofNat a) (ha : a < 8) : aC nS (d + 1) 104 [vR 11 i, vI j] M (fun v M' => v = some (vI (M.1 11 i a)) ∧ M = M') (fun _ _ => False) := by
  refine aC_mk rfl rfl ?_
  intro K hK _
  subst hj
  refine hK _ _ _ _ (hK _ _ _ _ ⟨fun h => ?_, fun h => ?_⟩)
  · exact absurd (x_lt (y := 0) rfl rfl (by omega) (by decide) h) (by omega)
  · refine hK _ _ _ _ (hK _ _ _ _ (hK _ _ _ _ (hK _ _ _ _ ⟨fun h => ?_, fun h => ?_⟩)))
    · exact absurd (x_ge (y := 8) rfl rfl (by omega) (by decide) h) (by omega)
    · refine hK _ _ _ _ (hK _ _ _ _ (hK _ _ _ _ ⟨x_vp rfl ha (by decide), ?_⟩))
      rw [x_cl rfl (by omega)]
      exact hK _ _ _ _ (hK _ _ _ _ ⟨rfl, rfl⟩)
theorem g_add11 {nS d i : Nat} {M : aM} {j x : Int32} {a : Nat} (hj : j = Int32.ofNat a) (ha : a < 8) : aC nS (d + 1) 107 [vR 11 i, vI j, vI x] M (fun v M' => v = none ∧ M' = a_pI M 11 i a (M.1 11 i a + x)) (fun _ _ => False) := by
  refine aC_mk rfl rfl ?_
  intro K hK _
  subst hj
  refine hK _ _ _ _ (hK _ _ _ _ ⟨fun h => ?_, fun h => ?_⟩)
  · exact absurd (x_lt (y := 0) rfl rfl (by omega) (by decide) h) (by omega)
  · refine hK _ _ _ _ (hK _ _ _ _ (hK _ _ _ _ (hK _ _ _ _ ⟨fun h => ?_, fun h => ?_⟩)))
    · exact absurd (x_ge (y := 8) rfl rfl (by omega) (by decide) h) (by omega)
    · refine hK _ _ _ _ (hK _ _ _ _ (hK _ _ _ _ (hK _ _ _ _ ⟨x_vp rfl ha (by decide), ?_⟩)))
      rw [x_cl rfl (by omega)]
      refine hK _ _ _ _ (hK _ _ _ _ (hK _ _ _ _ ⟨x_vp rfl ha (by decide), ?_⟩))
      rw [x_cl rfl (by omega)]
      exact hK _ _ _ _ ⟨rfl, rfl⟩
theorem g_fill11 {nS d i : Nat} {M : aM} {x : Int32} : aC nS (d + 1) 110 [vR 11 i, vI x] M (fun v M' => v = none ∧ fr (PR 11 i) M M' ∧ ∀ j, j < 8 → M'.1 11 i j = x) (fun _ _ => False) := by
  refine aC_mk rfl rfl ?_
  intro K hK _
  have lp : ∀ (m a : Nat) (M1 : aM), 8 - a = m → a ≤ 8 → fr (PR 11 i) M M1 → (∀ j, j < a → M1.1 11 i j = x) → K 2 [some (vR 11 i), some (vI x), some (vI (Int32.ofNat a))] [] M1 := by
    intro m
    induction m with
    | zero =>
      intro a M1 hm ha hf hj
      refine hK _ _ _ _ (hK _ _ _ _ (hK _ _ _ _ (hK _ _ _ _ ⟨fun h => ?_, fun h => ?_⟩)))
      · exact hK _ _ _ _ ⟨rfl, hf, fun j h2 => hj j (by omega)⟩
      · exact absurd (x_nge (x := a) (y := 8) rfl rfl (by omega) (by decide) h) (by omega)
    | succ m ih =>
      intro a M1 hm ha hf hj
      refine hK _ _ _ _ (hK _ _ _ _ (hK _ _ _ _ (hK _ _ _ _ ⟨fun h => ?_, fun h => ?_⟩)))
      · exact absurd (x_ge (x := a) (y := 8) rfl rfl (by omega) (by decide) h) (by omega)
      · refine hK _ _ _ _ (hK _ _ _ _ (hK _ _ _ _ (hK _ _ _ _ ⟨x_vp rfl (show a < 8 by omega) (by decide), ?_⟩)))
        rw [x_cl rfl (by omega)]
        refine hK _ _ _ _ (hK _ _ _ _ ?_)
        rw [hI_s]
        exact ih (a + 1) _ (by omega) (by omega) (fr_p hf PR_t) (fun j h2 => by
          by_cases he : j = a
          · rw [he]
            exact x_pe
          · rw [x_pn (fun z => he z.2.2)]
            exact hj j (by omega))
  refine hK _ _ _ _ (hK _ _ _ _ ?_)
  exact lp _ 0 M rfl (Nat.zero_le _) fr_r (fun j hj => absurd hj (Nat.not_lt_zero _))
theorem g_put12 {nS d i : Nat} {M : aM} {j x : Int32} {a : Nat} (hj : j = Int32.ofNat a) (ha : a < 32) : aC nS (d + 1) 106 [vR 12 i, vI j, vI x] M (fun v M' => v = none ∧ M' = a_pI M 12 i a x) (fun _ _ => False) := by
  refine aC_mk rfl rfl ?_
  intro K hK _
  subst hj
  refine hK _ _ _ _ (hK _ _ _ _ ⟨fun h => ?_, fun h => ?_⟩)
  · exact absurd (x_lt (y := 0) rfl rfl (by omega) (by decide) h) (by omega)
  · refine hK _ _ _ _ (hK _ _ _ _ (hK _ _ _ _ (hK _ _ _ _ ⟨fun h => ?_, fun h => ?_⟩)))
    · exact absurd (x_ge (y := 32) rfl rfl (by omega) (by decide) h) (by omega)
    · refine hK _ _ _ _ (hK _ _ _ _ (hK _ _ _ _ (hK _ _ _ _ ⟨x_vp rfl ha (by decide), ?_⟩)))
      rw [x_cl rfl (by omega)]
      exact hK _ _ _ _ ⟨rfl, rfl⟩
theorem g_at12 {nS d i : Nat} {M : aM} {j : Int32} {a : Nat} (hj : j = Int32.ofNat a) (ha : a < 32) : aC nS (d + 1) 104 [vR 12 i, vI j] M (fun v M' => v = some (vI (M.1 12 i a)) ∧ M = M') (fun _ _ => False) := by
  refine aC_mk rfl rfl ?_
  intro K hK _
  subst hj
  refine hK _ _ _ _ (hK _ _ _ _ ⟨fun h => ?_, fun h => ?_⟩)
  · exact absurd (x_lt (y := 0) rfl rfl (by omega) (by decide) h) (by omega)
  · refine hK _ _ _ _ (hK _ _ _ _ (hK _ _ _ _ (hK _ _ _ _ ⟨fun h => ?_, fun h => ?_⟩)))
    · exact absurd (x_ge (y := 32) rfl rfl (by omega) (by decide) h) (by omega)
    · refine hK _ _ _ _ (hK _ _ _ _ (hK _ _ _ _ ⟨x_vp rfl ha (by decide), ?_⟩))
      rw [x_cl rfl (by omega)]
      exact hK _ _ _ _ (hK _ _ _ _ ⟨rfl, rfl⟩)
theorem g_fill12 {nS d i : Nat} {M : aM} {x : Int32} : aC nS (d + 1) 110 [vR 12 i, vI x] M (fun v M' => v = none ∧ fr (PR 12 i) M M' ∧ ∀ j, j < 32 → M'.1 12 i j = x) (fun _ _ => False) := by
  refine aC_mk rfl rfl ?_
  intro K hK _
  have lp : ∀ (m a : Nat) (M1 : aM), 32 - a = m → a ≤ 32 → fr (PR 12 i) M M1 → (∀ j, j < a → M1.1 12 i j = x) → K 2 [some (vR 12 i), some (vI x), some (vI (Int32.ofNat a))] [] M1 := by
    intro m
    induction m with
    | zero =>
      intro a M1 hm ha hf hj
      refine hK _ _ _ _ (hK _ _ _ _ (hK _ _ _ _ (hK _ _ _ _ ⟨fun h => ?_, fun h => ?_⟩)))
      · exact hK _ _ _ _ ⟨rfl, hf, fun j h2 => hj j (by omega)⟩
      · exact absurd (x_nge (x := a) (y := 32) rfl rfl (by omega) (by decide) h) (by omega)
    | succ m ih =>
      intro a M1 hm ha hf hj
      refine hK _ _ _ _ (hK _ _ _ _ (hK _ _ _ _ (hK _ _ _ _ ⟨fun h => ?_, fun h => ?_⟩)))
      · exact absurd (x_ge (x := a) (y := 32) rfl rfl (by omega) (by decide) h) (by omega)
      · refine hK _ _ _ _ (hK _ _ _ _ (hK _ _ _ _ (hK _ _ _ _ ⟨x_vp rfl (show a < 32 by omega) (by decide), ?_⟩)))
        rw [x_cl rfl (by omega)]
        refine hK _ _ _ _ (hK _ _ _ _ ?_)
        rw [hI_s]
        exact ih (a + 1) _ (by omega) (by omega) (fr_p hf PR_t) (fun j h2 => by
          by_cases he : j = a
          · rw [he]
            exact x_pe
          · rw [x_pn (fun z => he z.2.2)]
            exact hj j (by omega))
  refine hK _ _ _ _ (hK _ _ _ _ ?_)
  exact lp _ 0 M rfl (Nat.zero_le _) fr_r (fun j hj => absurd hj (Nat.not_lt_zero _))
theorem g_put13 {nS d i : Nat} {M : aM} {j x : Int32} {a : Nat} (hj : j = Int32.ofNat a) (ha : a < 8) : aC nS (d + 1) 106 [vR 13 i, vI j, vI x] M (fun v M' => v = none ∧ M' = a_pI M 13 i a x) (fun _ _ => False) := by
  refine aC_mk rfl rfl ?_
  intro K hK _
  subst hj
  refine hK _ _ _ _ (hK _ _ _ _ ⟨fun h => ?_, fun h => ?_⟩)
  · exact absurd (x_lt (y := 0) rfl rfl (by omega) (by decide) h) (by omega)
  · refine hK _ _ _ _ (hK _ _ _ _ (hK _ _ _ _ (hK _ _ _ _ ⟨fun h => ?_, fun h => ?_⟩)))
    · exact absurd (x_ge (y := 8) rfl rfl (by omega) (by decide) h) (by omega)
    · refine hK _ _ _ _ (hK _ _ _ _ (hK _ _ _ _ (hK _ _ _ _ ⟨x_vp rfl ha (by decide), ?_⟩)))
      rw [x_cl rfl (by omega)]
      exact hK _ _ _ _ ⟨rfl, rfl⟩
theorem g_at13 {nS d i : Nat} {M : aM} {j : Int32} {a : Nat} (hj : j = Int32.ofNat a) (ha : a < 8) : aC nS (d + 1) 104 [vR 13 i, vI j] M (fun v M' => v = some (vI (M.1 13 i a)) ∧ M = M') (fun _ _ => False) := by
  refine aC_mk rfl rfl ?_
  intro K hK _
  subst hj
  refine hK _ _ _ _ (hK _ _ _ _ ⟨fun h => ?_, fun h => ?_⟩)
  · exact absurd (x_lt (y := 0) rfl rfl (by omega) (by decide) h) (by omega)
  · refine hK _ _ _ _ (hK _ _ _ _ (hK _ _ _ _ (hK _ _ _ _ ⟨fun h => ?_, fun h => ?_⟩)))
    · exact absurd (x_ge (y := 8) rfl rfl (by omega) (by decide) h) (by omega)
    · refine hK _ _ _ _ (hK _ _ _ _ (hK _ _ _ _ ⟨x_vp rfl ha (by decide), ?_⟩))
      rw [x_cl rfl (by omega)]
      exact hK _ _ _ _ (hK _ _ _ _ ⟨rfl, rfl⟩)
theorem g_fill13 {nS d i : Nat} {M : aM} {x : Int32} : aC nS (d + 1) 110 [vR 13 i, vI x] M (fun v M' => v = none ∧ fr (PR 13 i) M M' ∧ ∀ j, j < 8 → M'.1 13 i j = x) (fun _ _ => False) := by
  refine aC_mk rfl rfl ?_
  intro K hK _
  have lp : ∀ (m a : Nat) (M1 : aM), 8 - a = m → a ≤ 8 → fr (PR 13 i) M M1 → (∀ j, j < a → M1.1 13 i j = x) → K 2 [some (vR 13 i), some (vI x), some (vI (Int32.ofNat a))] [] M1 := by
    intro m
    induction m with
    | zero =>
      intro a M1 hm ha hf hj
      refine hK _ _ _ _ (hK _ _ _ _ (hK _ _ _ _ (hK _ _ _ _ ⟨fun h => ?_, fun h => ?_⟩)))
      · exact hK _ _ _ _ ⟨rfl, hf, fun j h2 => hj j (by omega)⟩
      · exact absurd (x_nge (x := a) (y := 8) rfl rfl (by omega) (by decide) h) (by omega)
    | succ m ih =>
      intro a M1 hm ha hf hj
      refine hK _ _ _ _ (hK _ _ _ _ (hK _ _ _ _ (hK _ _ _ _ ⟨fun h => ?_, fun h => ?_⟩)))
      · exact absurd (x_ge (x := a) (y := 8) rfl rfl (by omega) (by decide) h) (by omega)
      · refine hK _ _ _ _ (hK _ _ _ _ (hK _ _ _ _ (hK _ _ _ _ ⟨x_vp rfl (show a < 8 by omega) (by decide), ?_⟩)))
        rw [x_cl rfl (by omega)]
        refine hK _ _ _ _ (hK _ _ _ _ ?_)
        rw [hI_s]
        exact ih (a + 1) _ (by omega) (by omega) (fr_p hf PR_t) (fun j h2 => by
          by_cases he : j = a
          · rw [he]
            exact x_pe
          · rw [x_pn (fun z => he z.2.2)]
            exact hj j (by omega))
  refine hK _ _ _ _ (hK _ _ _ _ ?_)
  exact lp _ 0 M rfl (Nat.zero_le _) fr_r (fun j hj => absurd hj (Nat.not_lt_zero _))
theorem g_put14 {nS d i : Nat} {M : aM} {j x : Int32} {a : Nat} (hj : j = Int32.ofNat a) (ha : a < 16) : aC nS (d + 1) 106 [vR 14 i, vI j, vI x] M (fun v M' => v = none ∧ M' = a_pI M 14 i a x) (fun _ _ => False) := by
  refine aC_mk rfl rfl ?_
  intro K hK _
  subst hj
  refine hK _ _ _ _ (hK _ _ _ _ ⟨fun h => ?_, fun h => ?_⟩)
  · exact absurd (x_lt (y := 0) rfl rfl (by omega) (by decide) h) (by omega)
  · refine hK _ _ _ _ (hK _ _ _ _ (hK _ _ _ _ (hK _ _ _ _ ⟨fun h => ?_, fun h => ?_⟩)))
    · exact absurd (x_ge (y := 16) rfl rfl (by omega) (by decide) h) (by omega)
    · refine hK _ _ _ _ (hK _ _ _ _ (hK _ _ _ _ (hK _ _ _ _ ⟨x_vp rfl ha (by decide), ?_⟩)))
      rw [x_cl rfl (by omega)]
      exact hK _ _ _ _ ⟨rfl, rfl⟩
theorem g_at14 {nS d i : Nat} {M : aM} {j : Int32} {a : Nat} (hj : j = Int32.ofNat a) (ha : a < 16) : aC nS (d + 1) 104 [vR 14 i, vI j] M (fun v M' => v = some (vI (M.1 14 i a)) ∧ M = M') (fun _ _ => False) := by
  refine aC_mk rfl rfl ?_
  intro K hK _
  subst hj
  refine hK _ _ _ _ (hK _ _ _ _ ⟨fun h => ?_, fun h => ?_⟩)
  · exact absurd (x_lt (y := 0) rfl rfl (by omega) (by decide) h) (by omega)
  · refine hK _ _ _ _ (hK _ _ _ _ (hK _ _ _ _ (hK _ _ _ _ ⟨fun h => ?_, fun h => ?_⟩)))
    · exact absurd (x_ge (y := 16) rfl rfl (by omega) (by decide) h) (by omega)
    · refine hK _ _ _ _ (hK _ _ _ _ (hK _ _ _ _ ⟨x_vp rfl ha (by decide), ?_⟩))
      rw [x_cl rfl (by omega)]
      exact hK _ _ _ _ (hK _ _ _ _ ⟨rfl, rfl⟩)
theorem g_fill14 {nS d i : Nat} {M : aM} {x : Int32} : aC nS (d + 1) 110 [vR 14 i, vI x] M (fun v M' => v = none ∧ fr (PR 14 i) M M' ∧ ∀ j, j < 16 → M'.1 14 i j = x) (fun _ _ => False) := by
  refine aC_mk rfl rfl ?_
  intro K hK _
  have lp : ∀ (m a : Nat) (M1 : aM), 16 - a = m → a ≤ 16 → fr (PR 14 i) M M1 → (∀ j, j < a → M1.1 14 i j = x) → K 2 [some (vR 14 i), some (vI x), some (vI (Int32.ofNat a))] [] M1 := by
    intro m
    induction m with
    | zero =>
      intro a M1 hm ha hf hj
      refine hK _ _ _ _ (hK _ _ _ _ (hK _ _ _ _ (hK _ _ _ _ ⟨fun h => ?_, fun h => ?_⟩)))
      · exact hK _ _ _ _ ⟨rfl, hf, fun j h2 => hj j (by omega)⟩
      · exact absurd (x_nge (x := a) (y := 16) rfl rfl (by omega) (by decide) h) (by omega)
    | succ m ih =>
      intro a M1 hm ha hf hj
      refine hK _ _ _ _ (hK _ _ _ _ (hK _ _ _ _ (hK _ _ _ _ ⟨fun h => ?_, fun h => ?_⟩)))
      · exact absurd (x_ge (x := a) (y := 16) rfl rfl (by omega) (by decide) h) (by omega)
      · refine hK _ _ _ _ (hK _ _ _ _ (hK _ _ _ _ (hK _ _ _ _ ⟨x_vp rfl (show a < 16 by omega) (by decide), ?_⟩)))
        rw [x_cl rfl (by omega)]
        refine hK _ _ _ _ (hK _ _ _ _ ?_)
        rw [hI_s]
        exact ih (a + 1) _ (by omega) (by omega) (fr_p hf PR_t) (fun j h2 => by
          by_cases he : j = a
          · rw [he]
            exact x_pe
          · rw [x_pn (fun z => he z.2.2)]
            exact hj j (by omega))
  refine hK _ _ _ _ (hK _ _ _ _ ?_)
  exact lp _ 0 M rfl (Nat.zero_le _) fr_r (fun j hj => absurd hj (Nat.not_lt_zero _))
