def P8 : xF := fun k _ j => Nat.beq k 36 && Nat.beq j 8
def P36 : xF := fun k _ j => Nat.beq k 36 && (Nat.beq j 8 || (Nat.beq j 9 || Nat.beq j 10))
theorem P8_w {A B : aM} (h : fr P8 A B) : fr P36 A B := fr_w h (fun k i j z => by
  show (Nat.beq k 36 && Nat.beq j 8) = false
  have z : (Nat.beq k 36 && (Nat.beq j 8 || (Nat.beq j 9 || Nat.beq j 10))) = false := z
  cases h1 : Nat.beq k 36 with
  | false => rfl
  | true =>
    rw [h1] at z
    cases h2 : Nat.beq j 8 with
    | false => rfl
    | true => rw [h2] at z; cases z)
theorem t_isIn {nS d : Nat} {M : aM} {v lo hi : Int32} : aC nS (d + 1) 178 [vI v, vI lo, vI hi] M (fun u M' => u = some (vI (if lo ≤ v ∧ v ≤ hi then 1 else 0)) ∧ M = M') (fun _ _ => False) := by
  refine aC_mk rfl rfl ?_
  intro K hK _
  refine hK _ _ _ _ (hK _ _ _ _ (hK _ _ _ _ ⟨fun h => ?_, fun h1 => ?_⟩))
  · exact hK _ _ _ _ (hK _ _ _ _ ⟨Or.inl rfl, by rw [if_neg (fun z => x_nle h z.1)], rfl⟩)
  · refine hK _ _ _ _ (hK _ _ _ _ (hK _ _ _ _ ⟨fun h => ?_, fun h2 => ?_⟩))
    · exact hK _ _ _ _ (hK _ _ _ _ ⟨Or.inl rfl, by rw [if_neg (fun z => x_nle h z.2)], rfl⟩)
    · exact hK _ _ _ _ (hK _ _ _ _ (hK _ _ _ _ ⟨Or.inr rfl, by rw [if_pos ⟨x_gen h1, x_len h2⟩], rfl⟩))
theorem t_skip {nS d : Nat} {M : aM} {n p : Nat} (hn : M.1 36 0 7 = Int32.ofNat n) (h4 : n ≤ 400) (hp : M.1 36 0 8 = Int32.ofNat p) (pn : p ≤ 400) : aC nS (d + 1) 202 [vR 36 0] M (fun v M' => v = none ∧ fr P8 M M' ∧ M'.1 36 0 8 = Int32.ofNat (t_sk (M.1 40 0) n p)) (fun _ _ => False) := by
  refine aC_mk rfl rfl ?_
  intro K hK _
  have lp : ∀ (m q : Nat) (M1 : aM), n - q = m → q ≤ 400 → fr P8 M M1 → M1.1 36 0 8 = Int32.ofNat q → t_sk (M.1 40 0) n q = t_sk (M.1 40 0) n p → K 0 [some (vR 36 0)] [] M1 := by
    intro m
    induction m with
    | zero =>
      intro q M1 hm hqn hf hq e
      have e1 : M1.1 36 0 7 = Int32.ofNat n := (hf.1 36 0 7 rfl).trans hn
      refine hK _ _ _ _ (hK _ _ _ _ (hK _ _ _ _ (hK _ _ _ _ (hK _ _ _ _ ⟨fun h => ?_, fun h => ?_⟩))))
      · exact hK _ _ _ _ ⟨rfl, hf, hq.trans (congrArg Int32.ofNat ((t_go_n (by omega)).symm.trans e))⟩
      · exact absurd (x_nge hq e1 (by omega) (by omega) h) (by omega)
    | succ m ih =>
      intro q M1 hm hqn hf hq e
      have e1 : M1.1 36 0 7 = Int32.ofNat n := (hf.1 36 0 7 rfl).trans hn
      have e2 : M1.1 40 0 q = M.1 40 0 q := hf.1 40 0 q rfl
      refine hK _ _ _ _ (hK _ _ _ _ (hK _ _ _ _ (hK _ _ _ _ (hK _ _ _ _ ⟨fun h => ?_, fun h => ?_⟩))))
      · exact absurd (x_ge hq e1 (by omega) (by omega) h) (by omega)
      · refine hK _ _ _ _ (hK _ _ _ _ (hK _ _ _ _ (hK _ _ _ _ (hK _ _ _ _ ⟨x_vp hq (show q < 400 by omega) (by decide), ?_⟩))))
        rw [x_cl hq (by omega)]
        refine hK _ _ _ _ (hK _ _ _ _ ⟨fun h2 => ?_, fun h2 => ?_⟩)
        · exact hK _ _ _ _ ⟨rfl, hf, hq.trans (congrArg Int32.ofNat ((t_go_x (decide_eq_false (fun z => h2 (e2.trans z)))).symm.trans e))⟩
        · refine hK _ _ _ _ (hK _ _ _ _ (hK _ _ _ _ (hK _ _ _ _ (hK _ _ _ _ (hK _ _ _ _ (hK _ _ _ _ ?_))))))
          exact ih (q + 1) _ (by omega) (by omega) (fr_p hf rfl) (x_pe.trans (x_s hq)) ((t_go_s (by omega) (decide_eq_true (e2.symm.trans h2))).symm.trans e)
  exact lp _ p M rfl pn fr_r hp rfl
theorem t_isSign {nS d : Nat} {M : aM} {n p : Nat} {c : Int32} (hn : M.1 36 0 7 = Int32.ofNat n) (h4 : n ≤ 400) (hp : M.1 36 0 8 = Int32.ofNat p) (pn : p ≤ n) : aC nS (d + 2) 203 [vR 36 0, vI c] M (fun v M' => fr P8 M M' ∧ M'.1 36 0 8 = Int32.ofNat (t_sk (M.1 40 0) n p) ∧ v = some (vI (if t_sk (M.1 40 0) n p < n ∧ M.1 40 0 (t_sk (M.1 40 0) n p) = c then 1 else 0))) (fun _ _ => False) := by
  refine aC_mk rfl rfl ?_
  intro K hK _
  have sn : t_sk (M.1 40 0) n p ≤ n := t_go_le pn
  refine hK _ _ _ _ (hK _ _ _ _ ⟨_, t_skip hn h4 hp (Nat.le_trans pn h4), rfl, fun v1 M1 g1 => ?_⟩)
  obtain ⟨rfl, hf, hq⟩ := g1
  have e1 : M1.1 36 0 7 = Int32.ofNat n := (hf.1 36 0 7 rfl).trans hn
  refine hK _ _ _ _ (hK _ _ _ _ (hK _ _ _ _ (hK _ _ _ _ (hK _ _ _ _ ⟨fun h => ?_, fun h => ?_⟩))))
  · exact hK _ _ _ _ (hK _ _ _ _ ⟨Or.inl rfl, hf, hq, by rw [if_neg (fun z => absurd (x_ge hq e1 (by omega) (by omega) h) (by omega))]⟩)
  · have hx := x_nge hq e1 (by omega) (by omega) h
    refine hK _ _ _ _ (hK _ _ _ _ (hK _ _ _ _ (hK _ _ _ _ (hK _ _ _ _ ⟨x_vp hq (show t_sk (M.1 40 0) n p < 400 by omega) (by decide), ?_⟩))))
    rw [x_cl hq (by omega)]
    refine hK _ _ _ _ (hK _ _ _ _ ⟨fun h2 => ?_, fun h2 => ?_⟩)
    · exact hK _ _ _ _ (hK _ _ _ _ ⟨Or.inl rfl, hf, hq, by rw [if_neg (fun z => h2 ((hf.1 40 0 _ rfl).trans z.2))]⟩)
    · exact hK _ _ _ _ (hK _ _ _ _ (hK _ _ _ _ ⟨Or.inr rfl, hf, hq, by rw [if_pos ⟨hx, (hf.1 40 0 _ rfl).symm.trans h2⟩]⟩))
theorem t_has {nS d : Nat} {M : aM} {n p ks : Nat} {bs : List Nat} (hk : a_stx ks = some bs) (hl : bs.length < 1000) (hn : M.1 36 0 7 = Int32.ofNat n) (h4 : n ≤ 400) (hp : M.1 36 0 8 = Int32.ofNat p) (pn : p ≤ n) : aC nS (d + 8) 204 [vR 36 0, vR ks 0] M (fun v M' => fr P8 M M' ∧ ((t_wd (M.1 40 0) n p bs = true ∧ v = some (vI 1) ∧ M'.1 36 0 8 = Int32.ofNat (t_go (t_az (M.1 40 0)) n (t_sk (M.1 40 0) n p))) ∨ (t_wd (M.1 40 0) n p bs = false ∧ v = some (vI 0) ∧ M'.1 36 0 8 = Int32.ofNat (t_sk (M.1 40 0) n p)))) (fun _ _ => False) := by
  refine aC_mk rfl rfl ?_
  intro K hK _
  have sn : t_sk (M.1 40 0) n p ≤ n := t_go_le pn
  obtain ⟨b, hb⟩ : ∃ b, t_sk (M.1 40 0) n p = b := ⟨_, rfl⟩
  rw [hb] at sn
  have no : ∀ q, t_go (t_az (M.1 40 0)) n b = q → ¬ (q - b = bs.length ∧ t_eqf (M.1 40 0) b bs = true) → t_wd (M.1 40 0) n p bs = false := by
    intro q h1 h2
    cases hw : t_wd (M.1 40 0) n p bs with
    | false => rfl
    | true =>
      unfold t_wd at hw
      rw [hb, h1, Bool.and_eq_true] at hw
      exact absurd ⟨Nat.eq_of_beq_eq_true hw.1, hw.2⟩ h2
  refine hK _ _ _ _ (hK _ _ _ _ ⟨_, t_skip hn h4 hp (Nat.le_trans pn h4), rfl, fun v1 M1 g1 => ?_⟩)
  obtain ⟨rfl, hf, hq0⟩ := g1
  rw [hb] at hq0
  have e1 : M1.1 36 0 7 = Int32.ofNat n := (hf.1 36 0 7 rfl).trans hn
  have er : ∀ j, M1.1 40 0 j = M.1 40 0 j := fun j => hf.1 40 0 j rfl
  have lp2 : ∀ (q : Nat), b ≤ q → q ≤ n → t_go (t_az (M.1 40 0)) n b = q → q - b = bs.length → ∀ (m i : Nat), bs.length - i = m → i ≤ bs.length → (∀ u, u < i → M.1 40 0 (b + u) = Int32.ofNat (bs.getD u 0)) → K 56 [some (vR 36 0), some (vR ks 0), some (vI (Int32.ofNat q)), some (vI (Int32.ofNat i))] [] M1 := by
    intro q hbq hqn hg hlen m
    induction m with
    | zero =>
      intro i hi hil hu
      refine hK _ _ _ _ (hK _ _ _ _ ?_)
      refine hK _ _ _ _ (w_sln rfl hk ⟨b_6 (d := d) rfl, ?_⟩)
      refine hK _ _ _ _ ⟨fun h => ?_, fun h => ?_⟩
      · exact hK _ _ _ _ (hK _ _ _ _ (hK _ _ _ _ (hK _ _ _ _ (hK _ _ _ _ ⟨Or.inr rfl, fr_p hf rfl, Or.inl ⟨by unfold t_wd; rw [hb, hg, hlen, Nat.beq_refl, t_eqf_iff.mpr (fun u h2 => hu u (by omega))]; rfl, rfl, x_pe.trans (by rw [hb, hg])⟩⟩))))
      · exact absurd (x_nge (x := i) (y := bs.length) rfl rfl (by omega) (by omega) h) (by omega)
    | succ m ih =>
      intro i hi hil hu
      refine hK _ _ _ _ (hK _ _ _ _ ?_)
      refine hK _ _ _ _ (w_sln rfl hk ⟨b_6 (d := d) rfl, ?_⟩)
      refine hK _ _ _ _ ⟨fun h => ?_, fun h => ?_⟩
      · exact absurd (x_ge (x := i) (y := bs.length) rfl rfl (by omega) (by omega) h) (by omega)
      · have ei : M1.1 36 0 8 + Int32.ofNat i = Int32.ofNat (b + i) := by rw [hq0]; exact hI_ad
        refine hK _ _ _ _ (hK _ _ _ _ (hK _ _ _ _ (hK _ _ _ _ (hK _ _ _ _ (hK _ _ _ _ (hK _ _ _ _ ⟨x_vp ei (show b + i < 400 by omega) (by decide), ?_⟩))))))
        rw [x_cl ei (by omega)]
        refine hK _ _ _ _ (hK _ _ _ _ ?_)
        refine hK _ _ _ _ (w_sch rfl hk ⟨b_6 (d := d) rfl, x_vp rfl (by omega) (by omega), ?_⟩)
        rw [x_cl rfl (by omega)]
        refine hK _ _ _ _ ⟨fun h2 => ?_, fun h2 => ?_⟩
        · refine hK _ _ _ _ (hK _ _ _ _ ?_)
          rw [hI_s]
          exact ih (i + 1) (by omega) (by omega) (fun u hu2 => by
            by_cases he : u = i
            · rw [he]
              exact (er _).symm.trans h2
            · exact hu u (by omega))
        · exact hK _ _ _ _ (hK _ _ _ _ ⟨Or.inl rfl, hf, Or.inr ⟨no q hg (fun z => h2 ((er _).trans (t_eqf_iff.mp z.2 i (by omega)))), rfl, by rw [hb]; exact hq0⟩⟩)
  have tail : ∀ (q : Nat), b ≤ q → q ≤ n → t_go (t_az (M.1 40 0)) n b = q → K 39 [some (vR 36 0), some (vR ks 0), some (vI (Int32.ofNat q)), none] [] M1 := by
    intro q hbq hqn hg
    refine hK _ _ _ _ (hK _ _ _ _ (hK _ _ _ _ (hK _ _ _ _ (hK _ _ _ _ ?_))))
    refine hK _ _ _ _ (w_sln rfl hk ⟨b_6 (d := d) rfl, ?_⟩)
    refine hK _ _ _ _ ⟨fun h => ?_, fun h => ?_⟩
    · refine hK _ _ _ _ (hK _ _ _ _ ?_)
      exact lp2 q hbq hqn hg (x_eq (x := q - b) (y := bs.length) (by rw [hq0, x_sub hbq (by omega)]) rfl (by omega) (by omega) h) _ 0 rfl (Nat.zero_le _) (fun u hu => absurd hu (Nat.not_lt_zero _))
    · exact hK _ _ _ _ (hK _ _ _ _ ⟨Or.inl rfl, hf, Or.inr ⟨no q hg (fun z => h (by rw [hq0, x_sub hbq (by omega), z.1])), rfl, by rw [hb]; exact hq0⟩⟩)
  have lp : ∀ (m q : Nat), n - q = m → q ≤ n → b ≤ q → t_go (t_az (M.1 40 0)) n q = t_go (t_az (M.1 40 0)) n b → K 9 [some (vR 36 0), some (vR ks 0), some (vI (Int32.ofNat q)), none] [] M1 := by
    intro m
    induction m with
    | zero =>
      intro q hm hqn hbq e
      refine hK _ _ _ _ (hK _ _ _ _ (hK _ _ _ _ (hK _ _ _ _ ⟨fun h => ?_, fun h => ?_⟩)))
      · exact tail q hbq hqn (e.symm.trans (t_go_n (by omega)))
      · exact absurd (x_nge (x := q) rfl e1 (by omega) (by omega) h) (by omega)
    | succ m ih =>
      intro q hm hqn hbq e
      refine hK _ _ _ _ (hK _ _ _ _ (hK _ _ _ _ (hK _ _ _ _ ⟨fun h => ?_, fun h => ?_⟩)))
      · exact absurd (x_ge (x := q) rfl e1 (by omega) (by omega) h) (by omega)
      · refine hK _ _ _ _ (hK _ _ _ _ (hK _ _ _ _ (hK _ _ _ _ ⟨x_vp rfl (show q < 400 by omega) (by decide), ?_⟩)))
        rw [x_cl rfl (by omega)]
        refine hK _ _ _ _ (hK _ _ _ _ (hK _ _ _ _ ⟨_, t_isIn, rfl, fun v27 M27 g27 => ?_⟩))
        obtain ⟨rfl, rfl⟩ := g27
        refine hK _ _ _ _ ⟨fun h2 => ?_, fun h2 => ?_⟩
        · exact tail q hbq hqn (e.symm.trans (t_go_x (by
            cases hz : t_az (M.1 40 0) q with
            | false => rfl
            | true =>
              unfold t_az at hz
              rw [Bool.and_eq_true, decide_eq_true_eq, decide_eq_true_eq, ← er] at hz
              rw [if_pos hz] at h2
              exact absurd h2 (by decide))))
        · refine hK _ _ _ _ (hK _ _ _ _ ?_)
          rw [hI_s]
          refine ih (q + 1) (by omega) (by omega) (by omega) ((t_go_s (by omega) ?_).symm.trans e)
          by_cases hz : 97 ≤ M1.1 40 0 q ∧ M1.1 40 0 q ≤ 122
          · rw [er] at hz
            exact t_az_t hz.1 hz.2
          · rw [if_neg hz] at h2
            exact absurd rfl h2
  refine hK _ _ _ _ (hK _ _ _ _ (hK _ _ _ _ ?_))
  rw [hq0]
  exact lp _ b rfl sn (Nat.le_refl _) rfl
theorem t_fig0 {nS d : Nat} {M : aM} {lo hi : Int32} (hf : ¬ M.1 36 0 9 = -1) : aC nS (d + 1) 206 [vR 36 0, vI lo, vI hi] M (fun v M' => v = some (vI 0) ∧ M = M') (fun _ _ => False) := by
  refine aC_mk rfl rfl ?_
  intro K hK _
  refine hK _ _ _ _ (hK _ _ _ _ (hK _ _ _ _ (hK _ _ _ _ ⟨fun h => absurd h hf, fun _ => ?_⟩)))
  exact hK _ _ _ _ (hK _ _ _ _ ⟨rfl, rfl⟩)
theorem t_wrong {nS d : Nat} {M : aM} {j : Int32} (hf : M.1 36 0 9 = -1) : aC nS (d + 1) 205 [vR 36 0, vI j] M (fun v M' => v = none ∧ fr P36 M M' ∧ M'.1 36 0 8 = M.1 36 0 8 ∧ M'.1 36 0 9 = j) (fun _ _ => False) := by
  refine aC_mk rfl rfl ?_
  intro K hK _
  refine hK _ _ _ _ (hK _ _ _ _ (hK _ _ _ _ (hK _ _ _ _ ⟨fun h => absurd hf h, fun _ => ?_⟩)))
  exact hK _ _ _ _ (hK _ _ _ _ (hK _ _ _ _ (hK _ _ _ _ ⟨rfl, fr_p fr_r rfl, x_pn (by decide), x_pe⟩)))
theorem t_wrongB {nS d : Nat} {M : aM} {j : Int32} (hf : M.1 36 0 9 = -1) : aC nS (d + 1) 205 [vR 36 0, vI j] M (fun v M' => v = none ∧ fr P36 M M' ∧ M'.1 36 0 8 = M.1 36 0 8 ∧ M'.1 36 0 9 = j ∧ M'.1 36 0 10 = M.1 36 0 10) (fun _ _ => False) := by
  refine aC_mk rfl rfl ?_
  intro K hK _
  refine hK _ _ _ _ (hK _ _ _ _ (hK _ _ _ _ (hK _ _ _ _ ⟨fun h => absurd hf h, fun _ => ?_⟩)))
  exact hK _ _ _ _ (hK _ _ _ _ (hK _ _ _ _ (hK _ _ _ _ ⟨rfl, fr_p fr_r rfl, x_pn (by decide), x_pe, x_pn (by decide)⟩)))
theorem t_wrong0 {nS d : Nat} {M : aM} {j : Int32} (hf : ¬ M.1 36 0 9 = -1) : aC nS (d + 1) 205 [vR 36 0, vI j] M (fun v M' => v = none ∧ M = M') (fun _ _ => False) := by
  refine aC_mk rfl rfl ?_
  intro K hK _
  refine hK _ _ _ _ (hK _ _ _ _ (hK _ _ _ _ (hK _ _ _ _ ⟨fun _ => ?_, fun h => absurd h hf⟩)))
  exact hK _ _ _ _ ⟨rfl, rfl⟩
theorem t_figures0 {nS d : Nat} {M : aM} {n p : Nat} {lo hi : Int32} (hfa : M.1 36 0 9 = -1) (hn : M.1 36 0 7 = Int32.ofNat n) (h4 : n ≤ 400) (hp : M.1 36 0 8 = Int32.ofNat p) (pn : p ≤ 400) : aC nS (d + 2) 206 [vR 36 0, vI lo, vI hi] M (fun v M' => fr P36 M M' ∧ (∃ x, v = some (vI x) ∧ ((∃ q, t_num (M.1 40 0) n p lo hi = some (x, q) ∧ M'.1 36 0 8 = Int32.ofNat q ∧ M'.1 36 0 9 = -1 ∧ ∃ b, b ≤ max n p ∧ M'.1 36 0 10 = Int32.ofNat b) ∨ (t_num (M.1 40 0) n p lo hi = none ∧ ¬ M'.1 36 0 9 = -1 ∧ (∃ q, q ≤ max n p ∧ M'.1 36 0 8 = Int32.ofNat q) ∧ ∃ b, b ≤ max n p ∧ M'.1 36 0 9 = Int32.ofNat b ∧ M'.1 36 0 10 = Int32.ofNat b)))) (fun _ _ => False) := by
  refine aC_mk rfl rfl ?_
  intro K hK _
  have L4 : max n p ≤ 400 := Nat.max_le.mpr ⟨h4, pn⟩
  have sn : t_sk (M.1 40 0) n p ≤ max n p := t_go_le0
  obtain ⟨b, hb⟩ : ∃ b, t_sk (M.1 40 0) n p = b := ⟨_, rfl⟩
  rw [hb] at sn
  have tail : ∀ (q Q : Nat) (M1 : aM), q ≤ max n p → b ≤ q → q ≤ Q → (Q = q ∨ q = b + 4) → fr P36 M M1 → M1.1 36 0 9 = -1 → M1.1 36 0 8 = Int32.ofNat q → M1.1 36 0 10 = Int32.ofNat b → t_go (t_09 (M.1 40 0)) n b = Q → K 98 [some (vR 36 0), some (vI lo), some (vI hi), some (vI (t_val (M.1 40 0) b (q - b)))] [] M1 := by
    intro q Q M1 hqn hbq hqQ hQ hf hfb hq hbg e
    have ed : M1.1 36 0 8 - M1.1 36 0 10 = Int32.ofNat (q - b) := by rw [hq, hbg, x_sub hbq (by omega)]
    have bad : ¬ (1 ≤ Q - b ∧ Q - b ≤ 3 ∧ lo ≤ t_val (M.1 40 0) b (Q - b) ∧ t_val (M.1 40 0) b (Q - b) ≤ hi) → K 132 [some (vR 36 0), some (vI lo), some (vI hi), some (vI (t_val (M.1 40 0) b (q - b)))] [] M1 := by
      intro hx
      refine hK _ _ _ _ (hK _ _ _ _ (hK _ _ _ _ (hK _ _ _ _ ⟨_, t_wrongB hfb, rfl, fun v137 M137 g137 => ?_⟩)))
      obtain ⟨rfl, hf2, ha2, hw2, hz2⟩ := g137
      exact hK _ _ _ _ (hK _ _ _ _ ⟨fr_t hf hf2, _, rfl, Or.inr ⟨t_num_n hb e hx, by rw [hw2, hbg]; exact x_m1 (by omega), ⟨q, hqn, ha2.trans hq⟩, b, sn, hw2.trans hbg, hz2.trans hbg⟩⟩)
    refine hK _ _ _ _ (hK _ _ _ _ (hK _ _ _ _ (hK _ _ _ _ (hK _ _ _ _ ⟨fun h => ?_, fun h1 => ?_⟩))))
    · exact bad (fun z => by
        have := x_eq hq hbg (by omega) (by omega) h
        omega)
    · have hne : q ≠ b := fun z => h1 (by rw [hq, hbg, z])
      refine hK _ _ _ _ (hK _ _ _ _ (hK _ _ _ _ (hK _ _ _ _ (hK _ _ _ _ (hK _ _ _ _ (hK _ _ _ _ ⟨fun h => ?_, fun h2 => ?_⟩))))))
      · exact bad (fun z => by
          have := x_lt (x := 3) rfl ed (by decide) (by omega) h
          omega)
      · have h3 := x_nlt (x := 3) rfl ed (by decide) (by omega) h2
        have eQ : Q = q := by omega
        refine hK _ _ _ _ (hK _ _ _ _ (hK _ _ _ _ ⟨fun h => ?_, fun h5 => ?_⟩))
        · exact bad (fun z => x_nle h (by rw [eQ] at z; exact z.2.2.1))
        · refine hK _ _ _ _ (hK _ _ _ _ (hK _ _ _ _ ⟨fun h6 => ?_, fun h => ?_⟩))
          · exact hK _ _ _ _ (hK _ _ _ _ ⟨hf, _, rfl, Or.inl ⟨q, t_num_y hb (e.trans eQ) (by omega) h3 (x_gen h5) h6, hq, hfb, b, by omega, hbg⟩⟩)
          · exact bad (fun z => h (by rw [eQ] at z; exact z.2.2.2))
  have lp : ∀ (m q : Nat) (M1 : aM), n - q = m → q ≤ max n p → b ≤ q → q ≤ b + 4 → fr P36 M M1 → M1.1 36 0 9 = -1 → M1.1 36 0 8 = Int32.ofNat q → M1.1 36 0 10 = Int32.ofNat b → t_go (t_09 (M.1 40 0)) n q = t_go (t_09 (M.1 40 0)) n b → K 24 [some (vR 36 0), some (vI lo), some (vI hi), some (vI (t_val (M.1 40 0) b (q - b)))] [] M1 := by
    intro m
    induction m with
    | zero =>
      intro q M1 hm hqn hbq hb4 hf hfb hq hbg e
      have e1 : M1.1 36 0 7 = Int32.ofNat n := (hf.1 36 0 7 rfl).trans hn
      refine hK _ _ _ _ (hK _ _ _ _ (hK _ _ _ _ (hK _ _ _ _ (hK _ _ _ _ ⟨fun h => ?_, fun h => ?_⟩))))
      · exact tail q q M1 hqn hbq (Nat.le_refl _) (Or.inl rfl) hf hfb hq hbg (e.symm.trans (t_go_n (by omega)))
      · exact absurd (x_nge hq e1 (by omega) (by omega) h) (by omega)
    | succ m ih =>
      intro q M1 hm hqn hbq hb4 hf hfb hq hbg e
      have e1 : M1.1 36 0 7 = Int32.ofNat n := (hf.1 36 0 7 rfl).trans hn
      have e2 : M1.1 40 0 q = M.1 40 0 q := hf.1 40 0 q rfl
      have ed : M1.1 36 0 8 - M1.1 36 0 10 = Int32.ofNat (q - b) := by rw [hq, hbg, x_sub hbq (by omega)]
      refine hK _ _ _ _ (hK _ _ _ _ (hK _ _ _ _ (hK _ _ _ _ (hK _ _ _ _ ⟨fun h => ?_, fun h => ?_⟩))))
      · exact absurd (x_ge hq e1 (by omega) (by omega) h) (by omega)
      · refine hK _ _ _ _ (hK _ _ _ _ (hK _ _ _ _ (hK _ _ _ _ (hK _ _ _ _ ⟨x_vp hq (show q < 400 by omega) (by decide), ?_⟩))))
        rw [x_cl hq (by omega)]
        refine hK _ _ _ _ (hK _ _ _ _ (hK _ _ _ _ ⟨_, t_isIn, rfl, fun v48 M48 g48 => ?_⟩))
        obtain ⟨rfl, rfl⟩ := g48
        refine hK _ _ _ _ ⟨fun h2 => ?_, fun h2 => ?_⟩
        · exact tail q q M1 hqn hbq (Nat.le_refl _) (Or.inl rfl) hf hfb hq hbg (e.symm.trans (t_go_x (by
            cases hz : t_09 (M.1 40 0) q with
            | false => rfl
            | true =>
              unfold t_09 at hz
              rw [Bool.and_eq_true, decide_eq_true_eq, decide_eq_true_eq, ← e2] at hz
              rw [if_pos hz] at h2
              exact absurd h2 (by decide))))
        · refine hK _ _ _ _ (hK _ _ _ _ (hK _ _ _ _ (hK _ _ _ _ (hK _ _ _ _ (hK _ _ _ _ (hK _ _ _ _ ⟨fun h5 => ?_, fun h5 => ?_⟩))))))
          · have h6 := x_ge ed (y := 4) rfl (by omega) (by decide) h5
            exact tail q _ M1 hqn hbq (by rw [← e]; exact t_go_ge0) (Or.inr (by omega)) hf hfb hq hbg rfl
          · have h6 := x_nge ed (y := 4) rfl (by omega) (by decide) h5
            refine hK _ _ _ _ (hK _ _ _ _ (hK _ _ _ _ (hK _ _ _ _ (hK _ _ _ _ (hK _ _ _ _ (hK _ _ _ _ (hK _ _ _ _ ⟨x_vp hq (show q < 400 by omega) (by decide), ?_⟩)))))))
            rw [x_cl hq (by omega)]
            refine hK _ _ _ _ (hK _ _ _ _ (hK _ _ _ _ (hK _ _ _ _ (hK _ _ _ _ (hK _ _ _ _ (hK _ _ _ _ (hK _ _ _ _ (hK _ _ _ _ (hK _ _ _ _ (hK _ _ _ _ ?_))))))))))
            have hz : 48 ≤ M.1 40 0 q ∧ M.1 40 0 q ≤ 57 := by
              rw [← e2]
              by_cases hz : 48 ≤ M1.1 40 0 q ∧ M1.1 40 0 q ≤ 57
              · exact hz
              · rw [if_neg hz] at h2
                exact absurd rfl h2
            have e3 := ih (q + 1) (a_pI M1 36 0 8 (M1.1 36 0 8 + 1)) (by omega) (by omega) (by omega) (by omega) (fr_p hf rfl) ((x_pn (by decide)).trans hfb) (x_pe.trans (x_s hq)) ((x_pn (by decide)).trans hbg) ((t_go_s (by omega) (t_09_t hz.1 hz.2)).symm.trans e)
            rw [show q + 1 - b = (q - b) + 1 by omega] at e3
            have e4 : t_val (M.1 40 0) b (q - b + 1) = 10 * t_val (M.1 40 0) b (q - b) + M1.1 40 0 q - 48 := by
              show t_val (M.1 40 0) b (q - b) * 10 + M.1 40 0 (b + (q - b)) - 48 = _
              rw [show b + (q - b) = q by omega, e2, Int32.mul_comm]
            rw [e4] at e3
            exact e3
  refine hK _ _ _ _ (hK _ _ _ _ (hK _ _ _ _ (hK _ _ _ _ ⟨fun _ => ?_, fun h => absurd hfa h⟩)))
  refine hK _ _ _ _ (hK _ _ _ _ ⟨_, t_skip hn h4 hp (pn), rfl, fun v1 M1 g1 => ?_⟩)
  obtain ⟨rfl, hf0, hq0⟩ := g1
  rw [hb] at hq0
  refine hK _ _ _ _ (hK _ _ _ _ (hK _ _ _ _ (hK _ _ _ _ (hK _ _ _ _ (hK _ _ _ _ ?_)))))
  have e3 := lp _ b _ rfl sn (Nat.le_refl _) (by omega) (fr_p (P8_w hf0) rfl) ((x_pn (by decide)).trans ((hf0.1 36 0 9 rfl).trans hfa)) ((x_pn (by decide)).trans hq0) (x_pe.trans hq0) rfl
  rw [Nat.sub_self] at e3
  exact e3
theorem t_figures {nS d : Nat} {M : aM} {n p : Nat} {lo hi : Int32} (hfa : M.1 36 0 9 = -1) (hn : M.1 36 0 7 = Int32.ofNat n) (h4 : n ≤ 400) (hp : M.1 36 0 8 = Int32.ofNat p) (pn : p ≤ n) : aC nS (d + 2) 206 [vR 36 0, vI lo, vI hi] M (fun v M' => fr P36 M M' ∧ (∃ x, v = some (vI x) ∧ ((∃ q, t_num (M.1 40 0) n p lo hi = some (x, q) ∧ M'.1 36 0 8 = Int32.ofNat q ∧ M'.1 36 0 9 = -1 ∧ ∃ b, b ≤ n ∧ M'.1 36 0 10 = Int32.ofNat b) ∨ (t_num (M.1 40 0) n p lo hi = none ∧ ¬ M'.1 36 0 9 = -1 ∧ ∃ q, q ≤ n ∧ M'.1 36 0 8 = Int32.ofNat q)))) (fun _ _ => False) := by
  have h := t_figures0 (nS := nS) (d := d) (lo := lo) (hi := hi) hfa hn h4 hp (Nat.le_trans pn h4)
  rw [Nat.max_eq_left pn] at h
  refine aC_post h (fun v M' hv => ?_) (fun _ _ z => z)
  obtain ⟨h1, x, h2, h3⟩ := hv
  refine ⟨h1, x, h2, ?_⟩
  rcases h3 with h3 | ⟨h3, h4, h5, -⟩
  · exact Or.inl h3
  · exact Or.inr ⟨h3, h4, h5⟩
