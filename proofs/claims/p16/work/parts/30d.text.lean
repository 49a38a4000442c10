theorem t_byteAt {nS d : Nat} {M : aM} {n q : Nat} {j : Int32} (hn : M.1 1 0 1 = Int32.ofNat n) (h4 : n ≤ 400) (hj : j = Int32.ofNat q) (hq : q < n) : aC nS (d + 1) 135 [vR 1 0, vI j] M (fun v M' => v = some (vI (M.1 2 0 q)) ∧ M = M') (fun _ _ => False) := by
  refine aC_mk rfl rfl ?_
  intro K hK _
  subst hj
  refine hK _ _ _ _ (hK _ _ _ _ ⟨fun h => ?_, fun h => ?_⟩)
  · exact absurd (x_lt (y := 0) rfl rfl (by omega) (by decide) h) (by omega)
  · refine hK _ _ _ _ (hK _ _ _ _ (hK _ _ _ _ (hK _ _ _ _ ⟨fun h => ?_, fun h => ?_⟩)))
    · exact absurd (x_ge rfl hn (by omega) (by omega) h) (by omega)
    · refine hK _ _ _ _ (hK _ _ _ _ (hK _ _ _ _ (hK _ _ _ _ (hK _ _ _ _ ⟨fun h => ?_, fun h => ?_⟩))))
      · exact absurd (x_ge (y := 400) rfl rfl (by omega) (by decide) h) (by omega)
      · refine hK _ _ _ _ (hK _ _ _ _ (hK _ _ _ _ (hK _ _ _ _ ⟨x_vp rfl (show q < 400 by omega) (by decide), ?_⟩)))
        rw [x_cl rfl (by omega)]
        exact hK _ _ _ _ (hK _ _ _ _ ⟨rfl, rfl⟩)
theorem t_more {nS d : Nat} {M : aM} {n p : Nat} (hn : M.1 1 0 1 = Int32.ofNat n) (h4 : n ≤ 400) (hp : M.1 3 0 1 = Int32.ofNat p) (pn : p ≤ n) : aC nS (d + 2) 97 [vR 3 0] M (fun v M' => v = some (vI (if t_sk (M.1 2 0) n p < n then 1 else 0)) ∧ fr P3 M M' ∧ M'.1 3 0 1 = Int32.ofNat (t_sk (M.1 2 0) n p)) (fun _ _ => False) := by
  refine aC_mk rfl rfl ?_
  intro K hK _
  have tail : ∀ (q : Nat) (M1 : aM), fr P3 M M1 → M1.1 3 0 1 = Int32.ofNat q → t_sk (M.1 2 0) n p = q → q ≤ n → K 43 [some (vR 3 0)] [] M1 := by
    intro q M1 hf hq e hqn
    have e1 : M1.1 1 0 1 = Int32.ofNat n := (hf.1 1 0 1 rfl).trans hn
    refine hK _ _ _ _ (hK _ _ _ _ (hK _ _ _ _ (hK _ _ _ _ (hK _ _ _ _ ⟨_, t_size, rfl, fun v51 M51 g51 => ?_⟩))))
    obtain ⟨rfl, rfl⟩ := g51
    refine hK _ _ _ _ ⟨fun h => ?_, fun h => ?_⟩
    · exact hK _ _ _ _ (hK _ _ _ _ ⟨Or.inl rfl, by rw [e, if_neg (Nat.not_lt.mpr (x_ge hq e1 (by omega) (by omega) h))], hf, hq.trans (by rw [e])⟩)
    · exact hK _ _ _ _ (hK _ _ _ _ (hK _ _ _ _ ⟨Or.inr rfl, by rw [e, if_pos (x_nge hq e1 (by omega) (by omega) h)], hf, hq.trans (by rw [e])⟩))
  have lp : ∀ (m q : Nat) (M1 : aM), n - q = m → q ≤ n → fr P3 M M1 → M1.1 3 0 1 = Int32.ofNat q → t_sk (M.1 2 0) n q = t_sk (M.1 2 0) n p → K 0 [some (vR 3 0)] [] M1 := by
    intro m
    induction m with
    | zero =>
      intro q M1 hm hqn hf hq e
      have e1 : M1.1 1 0 1 = Int32.ofNat n := (hf.1 1 0 1 rfl).trans hn
      refine hK _ _ _ _ (hK _ _ _ _ (hK _ _ _ _ (hK _ _ _ _ (hK _ _ _ _ ⟨_, t_size, rfl, fun v8 M8 g8 => ?_⟩))))
      obtain ⟨rfl, rfl⟩ := g8
      refine hK _ _ _ _ ⟨fun h => ?_, fun h => ?_⟩
      · exact tail q M1 hf hq (e.symm.trans (t_go_n (by omega))) hqn
      · exact absurd (x_nge hq e1 (by omega) (by omega) h) (by omega)
    | succ m ih =>
      intro q M1 hm hqn hf hq e
      have e1 : M1.1 1 0 1 = Int32.ofNat n := (hf.1 1 0 1 rfl).trans hn
      have e2 : M1.1 2 0 q = M.1 2 0 q := hf.1 2 0 q rfl
      refine hK _ _ _ _ (hK _ _ _ _ (hK _ _ _ _ (hK _ _ _ _ (hK _ _ _ _ ⟨_, t_size, rfl, fun v8 M8 g8 => ?_⟩))))
      obtain ⟨rfl, rfl⟩ := g8
      refine hK _ _ _ _ ⟨fun h => ?_, fun h => ?_⟩
      · exact absurd (x_ge hq e1 (by omega) (by omega) h) (by omega)
      · refine hK _ _ _ _ (hK _ _ _ _ (hK _ _ _ _ (hK _ _ _ _ (hK _ _ _ _ ⟨_, t_byteAt e1 h4 hq (by omega), rfl, fun v22 M22 g22 => ?_⟩))))
        obtain ⟨rfl, rfl⟩ := g22
        refine hK _ _ _ _ (hK _ _ _ _ ⟨fun h2 => ?_, fun h2 => ?_⟩)
        · exact tail q M1 hf hq (e.symm.trans (t_go_x (decide_eq_false (fun z => h2 (e2.trans z))))) hqn
        · refine hK _ _ _ _ (hK _ _ _ _ (hK _ _ _ _ (hK _ _ _ _ (hK _ _ _ _ (hK _ _ _ _ (hK _ _ _ _ ?_))))))
          exact ih (q + 1) _ (by omega) (by omega) (fr_p hf rfl) (x_pe.trans (x_s hq)) ((t_go_s (by omega) (decide_eq_true (e2.symm.trans h2))).symm.trans e)
  exact lp _ p M rfl pn fr_r hp rfl
theorem t_word {nS d : Nat} {M : aM} {n p : Nat} (hn : M.1 1 0 1 = Int32.ofNat n) (h4 : n ≤ 400) (hp : M.1 3 0 1 = Int32.ofNat p) (pn : p ≤ n) : aC nS (d + 3) 100 [vR 3 0] M (fun v M' => v = none ∧ fr P3 M M' ∧ M'.1 3 0 2 = Int32.ofNat (t_sk (M.1 2 0) n p) ∧ M'.1 3 0 1 = Int32.ofNat (t_go (t_az (M.1 2 0)) n (t_sk (M.1 2 0) n p))) (fun _ _ => False) := by
  refine aC_mk rfl rfl ?_
  intro K hK _
  have sn : t_sk (M.1 2 0) n p ≤ n := t_go_le pn
  have lp : ∀ (m q : Nat) (M1 : aM), n - q = m → q ≤ n → fr P3 M M1 → M1.1 3 0 1 = Int32.ofNat q → M1.1 3 0 2 = Int32.ofNat (t_sk (M.1 2 0) n p) → t_go (t_az (M.1 2 0)) n q = t_go (t_az (M.1 2 0)) n (t_sk (M.1 2 0) n p) → K 13 [some (vR 3 0)] [] M1 := by
    intro m
    induction m with
    | zero =>
      intro q M1 hm hqn hf hq hb e
      have e1 : M1.1 1 0 1 = Int32.ofNat n := (hf.1 1 0 1 rfl).trans hn
      refine hK _ _ _ _ (hK _ _ _ _ (hK _ _ _ _ (hK _ _ _ _ (hK _ _ _ _ ⟨_, t_size, rfl, fun v21 M21 g21 => ?_⟩))))
      obtain ⟨rfl, rfl⟩ := g21
      refine hK _ _ _ _ ⟨fun h => ?_, fun h => ?_⟩
      · exact hK _ _ _ _ ⟨rfl, hf, hb, hq.trans (by rw [← e, t_go_n (by omega)])⟩
      · exact absurd (x_nge hq e1 (by omega) (by omega) h) (by omega)
    | succ m ih =>
      intro q M1 hm hqn hf hq hb e
      have e1 : M1.1 1 0 1 = Int32.ofNat n := (hf.1 1 0 1 rfl).trans hn
      have e2 : M1.1 2 0 q = M.1 2 0 q := hf.1 2 0 q rfl
      have tail : t_az (M.1 2 0) q = false → K 72 [some (vR 3 0)] [] M1 := fun z => hK _ _ _ _ ⟨rfl, hf, hb, hq.trans (by rw [← e, t_go_x z])⟩
      refine hK _ _ _ _ (hK _ _ _ _ (hK _ _ _ _ (hK _ _ _ _ (hK _ _ _ _ ⟨_, t_size, rfl, fun v21 M21 g21 => ?_⟩))))
      obtain ⟨rfl, rfl⟩ := g21
      refine hK _ _ _ _ ⟨fun h => ?_, fun h => ?_⟩
      · exact absurd (x_ge hq e1 (by omega) (by omega) h) (by omega)
      · refine hK _ _ _ _ (hK _ _ _ _ (hK _ _ _ _ (hK _ _ _ _ (hK _ _ _ _ ⟨_, t_byteAt e1 h4 hq (by omega), rfl, fun v35 M35 g35 => ?_⟩))))
        obtain ⟨rfl, rfl⟩ := g35
        refine hK _ _ _ _ (hK _ _ _ _ ⟨fun h2 => ?_, fun h2 => ?_⟩)
        · exact tail (t_az_1 (fun z => x_nle h2 (by rw [e2]; exact z)))
        · refine hK _ _ _ _ (hK _ _ _ _ (hK _ _ _ _ (hK _ _ _ _ (hK _ _ _ _ ⟨_, t_byteAt e1 h4 hq (by omega), rfl, fun v51 M51 g51 => ?_⟩))))
          obtain ⟨rfl, rfl⟩ := g51
          refine hK _ _ _ _ (hK _ _ _ _ ⟨fun h3 => ?_, fun h3 => ?_⟩)
          · exact tail (t_az_2 (fun z => x_nle h3 (by rw [e2]; exact z)))
          · refine hK _ _ _ _ (hK _ _ _ _ (hK _ _ _ _ (hK _ _ _ _ (hK _ _ _ _ (hK _ _ _ _ (hK _ _ _ _ ?_))))))
            exact ih (q + 1) _ (by omega) (by omega) (fr_p hf rfl) (x_pe.trans (x_s hq)) ((x_pn (by decide)).trans hb) ((t_go_s (by omega) (t_az_t (by rw [← e2]; exact x_gen h2) (by rw [← e2]; exact x_len h3))).symm.trans e)
  refine hK _ _ _ _ (hK _ _ _ _ ⟨_, t_more hn h4 hp pn, rfl, fun v1 M1 g1 => ?_⟩)
  obtain ⟨rfl, hf0, hq0⟩ := g1
  refine hK _ _ _ _ (hK _ _ _ _ (hK _ _ _ _ (hK _ _ _ _ (hK _ _ _ _ ?_))))
  exact lp _ _ _ rfl sn (fr_p hf0 rfl) ((x_pn (by decide)).trans hq0) (x_pe.trans hq0) rfl
theorem t_isw {nS d : Nat} {M : aM} {n b q ks : Nat} {bs : List Nat} (hk : a_stx ks = some bs) (hl : bs.length < 1000) (hn : M.1 1 0 1 = Int32.ofNat n) (h4 : n ≤ 400) (hb : M.1 3 0 2 = Int32.ofNat b) (hq : M.1 3 0 1 = Int32.ofNat q) (bq : b ≤ q) (qn : q ≤ n) : aC nS (d + 8) 101 [vR 3 0, vR ks 0] M (fun v M' => v = some (vI (if (Nat.beq (q - b) bs.length && t_eqf (M.1 2 0) b bs) = true then 1 else 0)) ∧ M = M') (fun _ _ => False) := by
  refine aC_mk rfl rfl ?_
  intro K hK _
  have lp : ∀ (m i : Nat), bs.length - i = m → i ≤ bs.length → q - b = bs.length → (∀ u, u < i → M.1 2 0 (b + u) = Int32.ofNat (bs.getD u 0)) → K 20 [some (vR 3 0), some (vR ks 0), some (vI (Int32.ofNat i))] [] M := by
    intro m
    induction m with
    | zero =>
      intro i hi hil hlen hu
      refine hK _ _ _ _ (hK _ _ _ _ ?_)
      refine hK _ _ _ _ (w_sln rfl hk ⟨b_6 (d := d) rfl, ?_⟩)
      refine hK _ _ _ _ ⟨fun h => ?_, fun h => ?_⟩
      · exact hK _ _ _ _ (hK _ _ _ _ ⟨Or.inr rfl, by rw [if_pos (by rw [hlen, Bool.and_eq_true]; exact ⟨Nat.beq_refl _, t_eqf_iff.mpr (fun u h2 => hu u (by omega))⟩)], rfl⟩)
      · exact absurd (x_nge (x := i) (y := bs.length) rfl rfl (by omega) (by omega) h) (by omega)
    | succ m ih =>
      intro i hi hil hlen hu
      refine hK _ _ _ _ (hK _ _ _ _ ?_)
      refine hK _ _ _ _ (w_sln rfl hk ⟨b_6 (d := d) rfl, ?_⟩)
      refine hK _ _ _ _ ⟨fun h => ?_, fun h => ?_⟩
      · exact absurd (x_ge (x := i) (y := bs.length) rfl rfl (by omega) (by omega) h) (by omega)
      · refine hK _ _ _ _ (hK _ _ _ _ (hK _ _ _ _ (hK _ _ _ _ (hK _ _ _ _ (hK _ _ _ _ (hK _ _ _ _ ⟨_, t_byteAt (q := b + i) hn h4 (by rw [hb]; exact hI_ad) (by omega), rfl, fun v38 M38 g38 => ?_⟩))))))
        obtain ⟨rfl, rfl⟩ := g38
        refine hK _ _ _ _ (hK _ _ _ _ ?_)
        refine hK _ _ _ _ (w_sch rfl hk ⟨b_6 (d := d) rfl, x_vp rfl (by omega) (by omega), ?_⟩)
        rw [x_cl rfl (by omega)]
        refine hK _ _ _ _ ⟨fun h2 => ?_, fun h2 => ?_⟩
        · refine hK _ _ _ _ (hK _ _ _ _ ?_)
          rw [hI_s]
          exact ih (i + 1) (by omega) (by omega) hlen (fun u hu2 => by
            by_cases he : u = i
            · rw [he]
              exact h2
            · exact hu u (by omega))
        · exact hK _ _ _ _ (hK _ _ _ _ ⟨Or.inl rfl, by rw [if_neg (fun z => h2 (t_eqf_iff.mp (by rw [Bool.and_eq_true] at z; exact z.2) i (by omega)))], rfl⟩)
  refine hK _ _ _ _ (hK _ _ _ _ (hK _ _ _ _ (hK _ _ _ _ (hK _ _ _ _ (hK _ _ _ _ ?_)))))
  refine hK _ _ _ _ (w_sln rfl hk ⟨b_6 (d := d) rfl, ?_⟩)
  refine hK _ _ _ _ ⟨fun h => ?_, fun h => ?_⟩
  · refine hK _ _ _ _ (hK _ _ _ _ ?_)
    exact lp _ 0 rfl (Nat.zero_le _) (x_eq (x := q - b) (y := bs.length) (by rw [hb, hq, x_sub bq (by omega)]) rfl (by omega) (by omega) h) (fun u hu => absurd hu (Nat.not_lt_zero _))
  · exact hK _ _ _ _ (hK _ _ _ _ ⟨Or.inl rfl, by rw [if_neg (fun z => h (by rw [Bool.and_eq_true] at z; rw [hb, hq, x_sub bq (by omega), Nat.eq_of_beq_eq_true z.1]))], rfl⟩)
