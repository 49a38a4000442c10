theorem t_refuse {nS d : Nat} {M : aM} {j : Int32} : aC nS (d + 1) 94 [vR 3 0, vI j] M (fun v M' => v = some (vI 0) ∧ fr P3 M M' ∧ M'.1 3 0 5 = j) (fun _ _ => False) := by
  refine aC_mk rfl rfl ?_
  intro K hK _
  exact hK _ _ _ _ (hK _ _ _ _ (hK _ _ _ _ (hK _ _ _ _ (hK _ _ _ _ ⟨Or.inl rfl, rfl, fr_p fr_r rfl, x_pe⟩))))
theorem t_refuseLatest {nS d : Nat} {M : aM} : aC nS (d + 2) 95 [vR 3 0] M (fun v M' => v = some (vI 0) ∧ fr P3 M M') (fun _ _ => False) := by
  refine aC_mk rfl rfl ?_
  intro K hK _
  refine hK _ _ _ _ (hK _ _ _ _ (hK _ _ _ _ (hK _ _ _ _ ⟨_, t_refuse, rfl, fun v5 M5 g5 => ?_⟩)))
  obtain ⟨rfl, hf, -⟩ := g5
  exact hK _ _ _ _ ⟨Or.inl rfl, rfl, hf⟩
theorem t_first {nS d : Nat} {M : aM} : aC nS (d + 1) 92 [vR 3 0] M (fun v M' => v = some (vI (M.1 3 0 3)) ∧ M = M') (fun _ _ => False) := by
  refine aC_mk rfl rfl ?_
  intro K hK _
  exact hK _ _ _ _ (hK _ _ _ _ (hK _ _ _ _ ⟨rfl, rfl⟩))
theorem t_second {nS d : Nat} {M : aM} : aC nS (d + 1) 93 [vR 3 0] M (fun v M' => v = some (vI (M.1 3 0 4)) ∧ M = M') (fun _ _ => False) := by
  refine aC_mk rfl rfl ?_
  intro K hK _
  exact hK _ _ _ _ (hK _ _ _ _ (hK _ _ _ _ ⟨rfl, rfl⟩))
theorem t_open {nS d : Nat} {M : aM} : aC nS (d + 1) 89 [vR 3 0] M (fun v M' => v = none ∧ fr P3 M M' ∧ M'.1 3 0 1 = 0) (fun _ _ => False) := by
  refine aC_mk rfl rfl ?_
  intro K hK _
  exact hK _ _ _ _ (hK _ _ _ _ (hK _ _ _ _ (hK _ _ _ _ (hK _ _ _ _ (hK _ _ _ _ (hK _ _ _ _ ⟨rfl, fr_p (fr_p fr_r rfl) rfl, (x_pn (by decide)).trans x_pe⟩))))))
theorem t_refuseNext {nS d : Nat} {M : aM} {n p : Nat} (hn : M.1 1 0 1 = Int32.ofNat n) (h4 : n ≤ 400) (hp : M.1 3 0 1 = Int32.ofNat p) (pn : p ≤ n) : aC nS (d + 3) 96 [vR 3 0] M (fun v M' => v = some (vI 0) ∧ fr P3 M M') (fun _ _ => False) := by
  refine aC_mk rfl rfl ?_
  intro K hK _
  refine hK _ _ _ _ (hK _ _ _ _ ⟨_, t_more hn h4 hp pn, rfl, fun v1 M1 g1 => ?_⟩)
  obtain ⟨rfl, hf, hq⟩ := g1
  refine hK _ _ _ _ (hK _ _ _ _ (hK _ _ _ _ (hK _ _ _ _ (hK _ _ _ _ ⟨_, t_refuse, rfl, fun v10 M10 g10 => ?_⟩))))
  obtain ⟨rfl, hf2, -⟩ := g10
  exact hK _ _ _ _ ⟨Or.inl rfl, rfl, fr_t hf hf2⟩
theorem t_number {nS d : Nat} {M : aM} {n p : Nat} {lo hi : Int32} (hn : M.1 1 0 1 = Int32.ofNat n) (h4 : n ≤ 400) (hp : M.1 3 0 1 = Int32.ofNat p) (pn : p ≤ n) : aC nS (d + 3) 102 [vR 3 0, vI lo, vI hi] M (fun v M' => fr P3 M M' ∧ ((∃ x q, t_num (M.1 2 0) n p lo hi = some (x, q) ∧ v = some (vI x) ∧ M'.1 3 0 1 = Int32.ofNat q) ∨ (t_num (M.1 2 0) n p lo hi = none ∧ v = some (vI (-1))))) (fun _ _ => False) := by
  refine aC_mk rfl rfl ?_
  intro K hK _
  have sn : t_sk (M.1 2 0) n p ≤ n := t_go_le pn
  obtain ⟨b, hb⟩ : ∃ b, t_sk (M.1 2 0) n p = b := ⟨_, rfl⟩
  rw [hb] at sn
  have tail : ∀ (q : Nat) (M1 : aM), q ≤ n → b ≤ q → fr P3 M M1 → M1.1 3 0 1 = Int32.ofNat q → M1.1 3 0 2 = Int32.ofNat b → t_go (t_09 (M.1 2 0)) n b = q → K 94 [some (vR 3 0), some (vI lo), some (vI hi), some (vI (t_val (M.1 2 0) b (q - b))), none] [] M1 := by
    intro q M1 hqn hbq hf hq hbg e
    have ed : M1.1 3 0 1 - M1.1 3 0 2 = Int32.ofNat (q - b) := by rw [hq, hbg, x_sub hbq (by omega)]
    have bad : ∀ x4, ¬ (1 ≤ q - b ∧ q - b ≤ 3 ∧ lo ≤ t_val (M.1 2 0) b (q - b) ∧ t_val (M.1 2 0) b (q - b) ≤ hi) → K 127 [some (vR 3 0), some (vI lo), some (vI hi), some (vI (t_val (M.1 2 0) b (q - b))), some (vI x4)] [] M1 := by
      intro x4 hx
      refine hK _ _ _ _ (hK _ _ _ _ (hK _ _ _ _ (hK _ _ _ _ ⟨_, t_refuse, rfl, fun v132 M132 g132 => ?_⟩)))
      obtain ⟨rfl, hf2, -⟩ := g132
      exact hK _ _ _ _ (hK _ _ _ _ (hK _ _ _ _ ⟨fr_t hf hf2, Or.inr ⟨t_num_n hb e hx, rfl⟩⟩))
    refine hK _ _ _ _ (hK _ _ _ _ (hK _ _ _ _ (hK _ _ _ _ (hK _ _ _ _ (hK _ _ _ _ (hK _ _ _ _ (hK _ _ _ _ (hK _ _ _ _ ⟨fun h => ?_, fun h1 => ?_⟩))))))))
    · exact bad _ (fun z => absurd (x_lt ed (y := 1) rfl (by omega) (by decide) h) (by omega))
    · refine hK _ _ _ _ (hK _ _ _ _ (hK _ _ _ _ ⟨fun h => ?_, fun h2 => ?_⟩))
      · exact bad _ (fun z => absurd (x_lt (x := 3) rfl ed (by decide) (by omega) h) (by omega))
      · refine hK _ _ _ _ (hK _ _ _ _ (hK _ _ _ _ ⟨fun h => ?_, fun h3 => ?_⟩))
        · exact bad _ (fun z => x_nle h z.2.2.1)
        · refine hK _ _ _ _ (hK _ _ _ _ (hK _ _ _ _ ⟨fun h5 => ?_, fun h => ?_⟩))
          · exact hK _ _ _ _ (hK _ _ _ _ ⟨hf, Or.inl ⟨_, _, t_num_y hb e (x_nlt ed (y := 1) rfl (by omega) (by decide) h1) (x_nlt (x := 3) rfl ed (by decide) (by omega) h2) (x_gen h3) h5, rfl, hq⟩⟩)
          · exact bad _ (fun z => h z.2.2.2)
  have lp : ∀ (m q : Nat) (M1 : aM), n - q = m → q ≤ n → b ≤ q → fr P3 M M1 → M1.1 3 0 1 = Int32.ofNat q → M1.1 3 0 2 = Int32.ofNat b → t_go (t_09 (M.1 2 0)) n q = t_go (t_09 (M.1 2 0)) n b → K 15 [some (vR 3 0), some (vI lo), some (vI hi), some (vI (t_val (M.1 2 0) b (q - b))), none] [] M1 := by
    intro m
    induction m with
    | zero =>
      intro q M1 hm hqn hbq hf hq hbg e
      have e1 : M1.1 1 0 1 = Int32.ofNat n := (hf.1 1 0 1 rfl).trans hn
      refine hK _ _ _ _ (hK _ _ _ _ (hK _ _ _ _ (hK _ _ _ _ (hK _ _ _ _ ⟨_, t_size, rfl, fun v23 M23 g23 => ?_⟩))))
      obtain ⟨rfl, rfl⟩ := g23
      refine hK _ _ _ _ ⟨fun h => ?_, fun h => ?_⟩
      · exact tail q M1 hqn hbq hf hq hbg (e.symm.trans (t_go_n (by omega)))
      · exact absurd (x_nge hq e1 (by omega) (by omega) h) (by omega)
    | succ m ih =>
      intro q M1 hm hqn hbq hf hq hbg e
      have e1 : M1.1 1 0 1 = Int32.ofNat n := (hf.1 1 0 1 rfl).trans hn
      have e2 : M1.1 2 0 q = M.1 2 0 q := hf.1 2 0 q rfl
      have tl : t_09 (M.1 2 0) q = false → K 94 [some (vR 3 0), some (vI lo), some (vI hi), some (vI (t_val (M.1 2 0) b (q - b))), none] [] M1 := fun z => tail q M1 hqn hbq hf hq hbg (e.symm.trans (t_go_x z))
      refine hK _ _ _ _ (hK _ _ _ _ (hK _ _ _ _ (hK _ _ _ _ (hK _ _ _ _ ⟨_, t_size, rfl, fun v23 M23 g23 => ?_⟩))))
      obtain ⟨rfl, rfl⟩ := g23
      refine hK _ _ _ _ ⟨fun h => ?_, fun h => ?_⟩
      · exact absurd (x_ge hq e1 (by omega) (by omega) h) (by omega)
      · refine hK _ _ _ _ (hK _ _ _ _ (hK _ _ _ _ (hK _ _ _ _ (hK _ _ _ _ ⟨_, t_byteAt e1 h4 hq (by omega), rfl, fun v37 M37 g37 => ?_⟩))))
        obtain ⟨rfl, rfl⟩ := g37
        refine hK _ _ _ _ (hK _ _ _ _ ⟨fun h2 => ?_, fun h2 => ?_⟩)
        · exact tl (t_09_1 (fun z => x_nle h2 (by rw [e2]; exact z)))
        · refine hK _ _ _ _ (hK _ _ _ _ (hK _ _ _ _ (hK _ _ _ _ (hK _ _ _ _ ⟨_, t_byteAt e1 h4 hq (by omega), rfl, fun v53 M53 g53 => ?_⟩))))
          obtain ⟨rfl, rfl⟩ := g53
          refine hK _ _ _ _ (hK _ _ _ _ ⟨fun h3 => ?_, fun h3 => ?_⟩)
          · exact tl (t_09_2 (fun z => x_nle h3 (by rw [e2]; exact z)))
          · refine hK _ _ _ _ (hK _ _ _ _ (hK _ _ _ _ (hK _ _ _ _ (hK _ _ _ _ (hK _ _ _ _ (hK _ _ _ _ (hK _ _ _ _ ⟨_, t_byteAt e1 h4 hq (by omega), rfl, fun v73 M73 g73 => ?_⟩)))))))
            obtain ⟨rfl, rfl⟩ := g73
            refine hK _ _ _ _ (hK _ _ _ _ (hK _ _ _ _ (hK _ _ _ _ (hK _ _ _ _ (hK _ _ _ _ (hK _ _ _ _ (hK _ _ _ _ (hK _ _ _ _ (hK _ _ _ _ (hK _ _ _ _ ?_))))))))))
            have e3 := ih (q + 1) (a_pI M1 3 0 1 (M1.1 3 0 1 + 1)) (by omega) (by omega) (by omega) (fr_p hf rfl) (x_pe.trans (x_s hq)) ((x_pn (by decide)).trans hbg) ((t_go_s (by omega) (t_09_t (by rw [← e2]; exact x_gen h2) (by rw [← e2]; exact x_len h3))).symm.trans e)
            rw [show q + 1 - b = (q - b) + 1 by omega] at e3
            have e4 : t_val (M.1 2 0) b (q - b + 1) = t_val (M.1 2 0) b (q - b) * 10 + M1.1 2 0 q - 48 := by
              show t_val (M.1 2 0) b (q - b) * 10 + M.1 2 0 (b + (q - b)) - 48 = _
              rw [show b + (q - b) = q by omega, e2]
            rw [e4] at e3
            exact e3
  refine hK _ _ _ _ (hK _ _ _ _ ⟨_, t_more hn h4 hp pn, rfl, fun v1 M1 g1 => ?_⟩)
  obtain ⟨rfl, hf0, hq0⟩ := g1
  rw [hb] at hq0
  refine hK _ _ _ _ (hK _ _ _ _ (hK _ _ _ _ (hK _ _ _ _ (hK _ _ _ _ (hK _ _ _ _ (hK _ _ _ _ ?_))))))
  have e3 := lp _ b _ rfl sn (Nat.le_refl _) (fr_p hf0 rfl) ((x_pn (by decide)).trans hq0) (x_pe.trans hq0) rfl
  rw [Nat.sub_self] at e3
  exact e3
def t_semi (r : Nat → Int32) (n p : Nat) : Bool := Nat.blt (t_sk r n p) n && decide (r (t_sk r n p) = 59)
theorem x_blt {a b : Nat} (h : a < b) : Nat.blt a b = true := Nat.ble_eq_true_of_le h
theorem x_nblt {a b : Nat} (h : ¬ a < b) : Nat.blt a b = false := by
  cases hb : Nat.blt a b with
  | false => rfl
  | true => exact absurd (Nat.le_of_ble_eq_true hb) h
theorem t_passSemicolon {nS d : Nat} {M : aM} {n p : Nat} (hn : M.1 1 0 1 = Int32.ofNat n) (h4 : n ≤ 400) (hp : M.1 3 0 1 = Int32.ofNat p) (pn : p ≤ n) : aC nS (d + 3) 99 [vR 3 0] M (fun v M' => fr P3 M M' ∧ ((t_semi (M.1 2 0) n p = true ∧ v = some (vI 1) ∧ M'.1 3 0 1 = Int32.ofNat (t_sk (M.1 2 0) n p + 1)) ∨ (t_semi (M.1 2 0) n p = false ∧ v = some (vI 0) ∧ M'.1 3 0 1 = Int32.ofNat (t_sk (M.1 2 0) n p)))) (fun _ _ => False) := by
  refine aC_mk rfl rfl ?_
  intro K hK _
  have sn : t_sk (M.1 2 0) n p ≤ n := t_go_le pn
  refine hK _ _ _ _ (hK _ _ _ _ ⟨_, t_more hn h4 hp pn, rfl, fun v1 M1 g1 => ?_⟩)
  obtain ⟨rfl, hf, hq⟩ := g1
  have e1 : M1.1 1 0 1 = Int32.ofNat n := (hf.1 1 0 1 rfl).trans hn
  refine hK _ _ _ _ ⟨fun h => ?_, fun h => ?_⟩
  · have hx : ¬ t_sk (M.1 2 0) n p < n := fun z => by rw [if_pos z] at h; exact absurd h (by decide)
    exact hK _ _ _ _ (hK _ _ _ _ ⟨Or.inl rfl, hf, Or.inr ⟨by unfold t_semi; rw [x_nblt hx]; rfl, rfl, hq⟩⟩)
  · have hx : t_sk (M.1 2 0) n p < n := by
      by_cases z : t_sk (M.1 2 0) n p < n
      · exact z
      · rw [if_neg z] at h
        exact absurd rfl h
    have e2 : M1.1 2 0 (t_sk (M.1 2 0) n p) = M.1 2 0 (t_sk (M.1 2 0) n p) := hf.1 2 0 _ rfl
    refine hK _ _ _ _ (hK _ _ _ _ (hK _ _ _ _ (hK _ _ _ _ (hK _ _ _ _ ⟨_, t_byteAt e1 h4 hq hx, rfl, fun v15 M15 g15 => ?_⟩))))
    obtain ⟨rfl, rfl⟩ := g15
    refine hK _ _ _ _ (hK _ _ _ _ ⟨fun h2 => ?_, fun h2 => ?_⟩)
    · exact hK _ _ _ _ (hK _ _ _ _ (hK _ _ _ _ (hK _ _ _ _ (hK _ _ _ _ (hK _ _ _ _ (hK _ _ _ _ (hK _ _ _ _ ⟨Or.inr rfl, fr_p hf rfl, Or.inl ⟨by unfold t_semi; rw [x_blt hx, decide_eq_true (e2.symm.trans h2)]; rfl, rfl, x_pe.trans (x_s hq)⟩⟩)))))))
    · exact hK _ _ _ _ (hK _ _ _ _ ⟨Or.inl rfl, hf, Or.inr ⟨by unfold t_semi; rw [decide_eq_false (fun z => h2 (e2.trans z)), Bool.and_false], rfl, hq⟩⟩)
theorem t_isEnded {nS d : Nat} {M : aM} {n p : Nat} (hn : M.1 1 0 1 = Int32.ofNat n) (h4 : n ≤ 400) (hp : M.1 3 0 1 = Int32.ofNat p) (pn : p ≤ n) : aC nS (d + 3) 98 [vR 3 0] M (fun v M' => fr P3 M M' ∧ v = some (vI (if t_sk (M.1 2 0) n p < n then 0 else 1))) (fun _ _ => False) := by
  refine aC_mk rfl rfl ?_
  intro K hK _
  refine hK _ _ _ _ (hK _ _ _ _ ⟨_, t_more hn h4 hp pn, rfl, fun v1 M1 g1 => ?_⟩)
  obtain ⟨rfl, hf, hq⟩ := g1
  refine hK _ _ _ _ ⟨fun h => ?_, fun h => ?_⟩
  · have hx : ¬ t_sk (M.1 2 0) n p < n := fun z => by rw [if_pos z] at h; exact absurd h (by decide)
    exact hK _ _ _ _ (hK _ _ _ _ (hK _ _ _ _ ⟨Or.inr rfl, hf, by rw [if_neg hx]⟩))
  · have hx : t_sk (M.1 2 0) n p < n := by
      by_cases z : t_sk (M.1 2 0) n p < n
      · exact z
      · rw [if_neg z] at h
        exact absurd rfl h
    refine hK _ _ _ _ (hK _ _ _ _ (hK _ _ _ _ (hK _ _ _ _ ⟨_, t_refuse, rfl, fun v12 M12 g12 => ?_⟩)))
    obtain ⟨rfl, hf2, -⟩ := g12
    refine hK _ _ _ _ ⟨fun h2 => ?_, fun h2 => ?_⟩
    · exact hK _ _ _ _ (hK _ _ _ _ ⟨Or.inl rfl, fr_t hf hf2, by rw [if_pos hx]⟩)
    · exact absurd rfl h2
def t_two (r : Nat → Int32) (n p : Nat) (a b c e : Int32) : Option ((Int32 × Int32) × Nat) := match t_num r n p a b with
  | none => none
  | some (x, q) => match t_num r n q c e with
    | none => none
    | some (y, s) => some ((x, y), s)
theorem t_two_1 {r : Nat → Int32} {n p : Nat} {a b c e : Int32} (h : t_num r n p a b = none) : t_two r n p a b c e = none := by
  unfold t_two
  rw [h]
theorem t_two_2 {r : Nat → Int32} {n p q : Nat} {x a b c e : Int32} (h : t_num r n p a b = some (x, q)) (h2 : t_num r n q c e = none) : t_two r n p a b c e = none := by
  unfold t_two
  rw [h]
  show (match t_num r n q c e with
    | none => none
    | some (y, s) => some ((x, y), s)) = none
  rw [h2]
theorem t_two_3 {r : Nat → Int32} {n p q s : Nat} {x y a b c e : Int32} (h : t_num r n p a b = some (x, q)) (h2 : t_num r n q c e = some (y, s)) : t_two r n p a b c e = some ((x, y), s) := by
  unfold t_two
  rw [h]
  show (match t_num r n q c e with
    | none => none
    | some (y, s) => some ((x, y), s)) = some ((x, y), s)
  rw [h2]
theorem t_passTwo {nS d : Nat} {M : aM} {n p : Nat} {a b c e : Int32} (ha : 0 ≤ a) (hc : 0 ≤ c) (hn : M.1 1 0 1 = Int32.ofNat n) (h4 : n ≤ 400) (hp : M.1 3 0 1 = Int32.ofNat p) (pn : p ≤ n) : aC nS (d + 4) 103 [vR 3 0, vI a, vI b, vI c, vI e] M (fun v M' => fr P3w M M' ∧ ((∃ x y s, t_two (M.1 2 0) n p a b c e = some ((x, y), s) ∧ v = some (vI 1) ∧ M'.1 3 0 3 = x ∧ M'.1 3 0 4 = y ∧ M'.1 3 0 1 = Int32.ofNat s) ∨ (t_two (M.1 2 0) n p a b c e = none ∧ v = some (vI 0)))) (fun _ _ => False) := by
  refine aC_mk rfl rfl ?_
  intro K hK _
  refine hK _ _ _ _ (hK _ _ _ _ (hK _ _ _ _ (hK _ _ _ _ (hK _ _ _ _ ⟨_, t_number hn h4 hp pn, rfl, fun v4 M4 g4 => ?_⟩))))
  obtain ⟨hf, hx⟩ := g4
  rcases hx with ⟨x, q, h1, rfl, hq⟩ | ⟨h1, rfl⟩
  · obtain ⟨l1, l2, l3, l4⟩ := t_num_ok h1 pn
    have hf2 : fr P3w M (a_pI M4 3 0 3 x) := fr_p (P3_w hf) rfl
    have e0 : (a_pI M4 3 0 3 x).1 2 0 = M.1 2 0 := by funext j; exact hf2.1 2 0 j rfl
    refine hK _ _ _ _ (hK _ _ _ _ (hK _ _ _ _ (hK _ _ _ _ (hK _ _ _ _ (hK _ _ _ _ ⟨fun h => ?_, fun h => ?_⟩)))))
    · refine hK _ _ _ _ (hK _ _ _ _ (hK _ _ _ _ (hK _ _ _ _ ⟨_, t_number (n := n) (p := q) ((hf2.1 1 0 1 rfl).trans hn) h4 ((x_pn (by decide)).trans hq) l4, rfl, fun v5 M5 g5 => ?_⟩)))
      obtain ⟨hf3, hy⟩ := g5
      rw [e0] at hy
      rcases hy with ⟨y, s, h2, rfl, hs⟩ | ⟨h2, rfl⟩
      · obtain ⟨k1, k2, k3, k4⟩ := t_num_ok h2 l4
        have hy0 : ¬ y = -1 := x_m1' (Int32.le_trans hc k1)
        refine hK _ _ _ _ (hK _ _ _ _ (hK _ _ _ _ (hK _ _ _ _ (hK _ _ _ _ ⟨fun h => absurd (x_pe.symm.trans h) hy0, fun h => ?_⟩))))
        exact hK _ _ _ _ (hK _ _ _ _ (hK _ _ _ _ ⟨Or.inr rfl, fr_p (fr_t hf2 (P3_w hf3)) rfl, Or.inl ⟨x, y, s, t_two_3 h1 h2, rfl, (x_pn (by decide)).trans ((hf3.1 3 0 3 rfl).trans x_pe), x_pe, (x_pn (by decide)).trans hs⟩⟩))
      · refine hK _ _ _ _ (hK _ _ _ _ (hK _ _ _ _ (hK _ _ _ _ (hK _ _ _ _ ⟨fun h => ?_, fun h => absurd x_pe h⟩))))
        exact hK _ _ _ _ (hK _ _ _ _ ⟨Or.inl rfl, fr_p (fr_t hf2 (P3_w hf3)) rfl, Or.inr ⟨t_two_2 h1 h2, rfl⟩⟩)
    · exact absurd (x_pe.symm.trans h) (x_m1' (Int32.le_trans ha l1))
  · have hf2 : fr P3w M (a_pI M4 3 0 3 (-1)) := fr_p (P3_w hf) rfl
    refine hK _ _ _ _ (hK _ _ _ _ (hK _ _ _ _ (hK _ _ _ _ (hK _ _ _ _ (hK _ _ _ _ ⟨fun h => absurd x_pe h, fun h => ?_⟩)))))
    refine hK _ _ _ _ (hK _ _ _ _ (hK _ _ _ _ (hK _ _ _ _ (hK _ _ _ _ (hK _ _ _ _ (hK _ _ _ _ ⟨fun h => ?_, fun h => absurd x_pe h⟩))))))
    exact hK _ _ _ _ (hK _ _ _ _ ⟨Or.inl rfl, fr_p hf2 rfl, Or.inr ⟨t_two_1 h1, rfl⟩⟩)
