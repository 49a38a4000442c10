/-- holes as the reference keeps them: bits of a whole number -/
def rH (x : Int32) (H : Nat → Int32) : Prop := ∃ b : Nat, b < 512 ∧ x = Int32.ofNat b ∧ (∀ X Y, X < 3 → Y < 3 → H (Y * 4 + X) = if b.testBit (3 * Y + X) = true then 1 else 0) ∧ ∀ j, j < 16 → ¬ (j % 4 < 3 ∧ j / 4 < 3) → H j = 0
/-- the reference's board (37: in use, 38: kept) -/
def rB (q : Nat) (M : aM) (e : xB) : Prop := e.1 ∈ gP ∧ okB e ∧ (M.1 q 0 1 = Int32.ofNat e.1.1 ∧ M.1 q 0 2 = Int32.ofNat e.1.2 ∧ M.1 q 0 3 = Int32.ofNat e.2.1.1 ∧ M.1 q 0 4 = Int32.ofNat e.2.1.2.1 ∧ M.1 q 0 5 = Int32.ofNat e.2.1.2.2) ∧ (∀ t, t < 8 → M.1 q 0 (10 + t) = e.2.2.1 t) ∧ rH (M.1 q 0 6) e.2.2.2.1
theorem rB_fr {q : Nat} {M M' : aM} {e : xB} (h : rB q M e) (hc : ∀ j, 1 ≤ j → j ≤ 17 → j ≠ 7 → j ≠ 8 → M'.1 q 0 j = M.1 q 0 j) : rB q M' e := by
  obtain ⟨a, b, ⟨c1, c2, c3, c4, c5⟩, d, f⟩ := h
  exact ⟨a, b, ⟨(hc 1 (by decide) (by decide) (by decide) (by decide)).trans c1, (hc 2 (by decide) (by decide) (by decide) (by decide)).trans c2, (hc 3 (by decide) (by decide) (by decide) (by decide)).trans c3, (hc 4 (by decide) (by decide) (by decide) (by decide)).trans c4, (hc 5 (by decide) (by decide) (by decide) (by decide)).trans c5⟩, fun t ht => (hc (10 + t) (by omega) (by omega) (by omega) (by omega)).trans (d t ht), by rw [hc 6 (by decide) (by decide) (by decide) (by decide)]; exact f⟩
theorem rH_0 : rH 0 (fun _ => 0) := ⟨0, by decide, rfl, fun X Y _ _ => by rw [Nat.zero_testBit]; rfl, fun _ _ _ => rfl⟩
theorem x_shl {i : Nat} (h : i < 9) : (1 : Int32) <<< (Int32.ofNat i &&& 31) = Int32.ofNat (2 ^ i) := by
  rcases (by omega : i = 0 ∨ i = 1 ∨ i = 2 ∨ i = 3 ∨ i = 4 ∨ i = 5 ∨ i = 6 ∨ i = 7 ∨ i = 8) with rfl | rfl | rfl | rfl | rfl | rfl | rfl | rfl | rfl <;> decide
theorem x_or {a b : Nat} (ha : a < 2147483648) (hb : b < 2147483648) : Int32.ofNat a ||| Int32.ofNat b = Int32.ofNat (a ||| b) := by
  apply Int32.toBitVec_inj.mp
  rw [Int32.toBitVec_or]
  show BitVec.ofNat 32 a ||| BitVec.ofNat 32 b = BitVec.ofNat 32 (a ||| b)
  rw [BitVec.ofNat_or]
theorem rH_or {x : Int32} {H : Nat → Int32} {a b : Nat} (h : rH x H) (ha : a < 3) (hb : b < 3) : rH (x ||| (1 : Int32) <<< (Int32.ofNat (3 * b + a) &&& 31)) (fun j => bif Nat.beq j (b * 4 + a) then 1 else H j) := by
  obtain ⟨c, h1, rfl, h2, h3⟩ := h
  have hp : 2 ^ (3 * b + a) < 512 := by
    have : 2 ^ (3 * b + a) ≤ 2 ^ 8 := Nat.pow_le_pow_right (by decide) (by omega)
    omega
  have hlt : c ||| 2 ^ (3 * b + a) < 512 := Nat.or_lt_two_pow (n := 9) h1 hp
  refine ⟨c ||| 2 ^ (3 * b + a), hlt, ?_, fun X Y hX hY => ?_, fun j hj hn => ?_⟩
  · rw [x_shl (by omega), x_or (by omega) (by omega)]
  · show (bif Nat.beq (Y * 4 + X) (b * 4 + a) then (1 : Int32) else H (Y * 4 + X)) = _
    rw [Nat.testBit_or, Nat.testBit_two_pow]
    by_cases he : Y * 4 + X = b * 4 + a
    · have e1 : Y = b := by omega
      have e2 : X = a := by omega
      rw [e1, e2, Nat.beq_refl, cond_true, if_pos]
      rw [decide_eq_true rfl, Bool.or_true]
    · rw [x_nbq he, cond_false, h2 X Y hX hY, decide_eq_false (show ¬ 3 * b + a = 3 * Y + X by omega), Bool.or_false]
  · show (bif Nat.beq j (b * 4 + a) then (1 : Int32) else H j) = _
    rw [x_nbq (fun z => hn (by omega)), cond_false]
    exact h3 j hj hn
/-- what a line of a text may change -/
def PLx : xF := fun k _ j => (Nat.beq k 36 && (Nat.beq j 8 || (Nat.beq j 9 || Nat.beq j 10))) || (Nat.beq k 37 && ((Nat.ble 1 j && Nat.ble j 6) || (Nat.ble 10 j && Nat.ble j 43)))
theorem P36_L {A B : aM} (h : fr P36 A B) : fr PLx A B := fr_w h (fun k i j z => by
  have z : ((Nat.beq k 36 && (Nat.beq j 8 || (Nat.beq j 9 || Nat.beq j 10))) || (Nat.beq k 37 && ((Nat.ble 1 j && Nat.ble j 6) || (Nat.ble 10 j && Nat.ble j 43)))) = false := z
  rw [Bool.or_eq_false_iff] at z
  exact z.1)
theorem PLx_r {A B : aM} (h : fr (fun k _ j => Nat.beq k 37 && (Nat.ble 20 j && Nat.ble j 43)) A B) : fr PLx A B := fr_w h (fun k i j z => by
  have z : ((Nat.beq k 36 && (Nat.beq j 8 || (Nat.beq j 9 || Nat.beq j 10))) || (Nat.beq k 37 && ((Nat.ble 1 j && Nat.ble j 6) || (Nat.ble 10 j && Nat.ble j 43)))) = false := z
  rw [Bool.or_eq_false_iff] at z
  show (Nat.beq k 37 && (Nat.ble 20 j && Nat.ble j 43)) = false
  cases h1 : Nat.beq k 37 with
  | false => rfl
  | true =>
    have z2 := z.2
    rw [h1, Bool.true_and, Bool.or_eq_false_iff] at z2
    cases h2 : Nat.ble 20 j with
    | false => rfl
    | true =>
      have z3 := z2.2
      rw [Nat.ble_eq_true_of_le (show 10 ≤ j by have := Nat.le_of_ble_eq_true h2; omega), Bool.true_and] at z3
      rw [z3]
      rfl)
/-- the reference's board with its lines -/
def rBL (q : Nat) (M : aM) (e : xB) : Prop := rB q M e ∧ LL q M e
theorem rBL_fr {q : Nat} {M M' : aM} {e : xB} (h : rBL q M e) (hc : ∀ j, 1 ≤ j → j ≤ 43 → j ≠ 7 → j ≠ 8 → M'.1 q 0 j = M.1 q 0 j) : rBL q M' e := ⟨rB_fr h.1 (fun j a b c d => hc j a (by omega) c d), LL_f h.1.2.1 h.2 (fun u hu => hc (20 + u) (by omega) (by omega) (by omega) (by omega))⟩
/-- between the words of the reference: the text is there, the board, the place -/
def MS (M : aM) (n p : Nat) (e : xB) : Prop := M.1 36 0 9 = -1 ∧ M.1 36 0 7 = Int32.ofNat n ∧ n ≤ 400 ∧ M.1 36 0 8 = Int32.ofNat p ∧ p ≤ n ∧ rBL 37 M e
def MR (n : Nat) (res : Option (xB × Nat)) (M : aM) : Prop := (∃ e q, res = some (e, q) ∧ q ≤ n ∧ rBL 37 M e ∧ M.1 36 0 8 = Int32.ofNat q ∧ M.1 36 0 9 = -1) ∨ (res = none ∧ ¬ M.1 36 0 9 = -1 ∧ ∃ q, q ≤ n ∧ M.1 36 0 8 = Int32.ofNat q)
theorem PLx_row {A B : aM} (h : fr PLx A B) : B.1 40 0 = A.1 40 0 := by
  funext j
  exact h.1 40 0 j rfl
theorem rB_36 {A B : aM} {e : xB} (h : fr P36 A B) (hB : rB 37 A e) : rB 37 B e := rB_fr hB (fun j _ _ _ _ => h.1 37 0 j rfl)
theorem r_isKin_x {nS d k o a b : Nat} {M : aM} {x : Int32} (hg : gM M k o) (hx : x = Int32.ofNat a) (ha : a < o) (hb : b < o) : aC nS (d + 3) 182 [vR 36 0, vI x, vI (Int32.ofNat b)] M (fun v M' => v = some (vI (if isk k o a b o = true then 1 else 0)) ∧ M = M') (fun _ _ => False) := by
  subst hx
  exact r_isKin hg ha hb
theorem x_nble {a b : Nat} (h : ¬ a ≤ b) : Nat.ble a b = false := by
  cases hb : Nat.ble a b with
  | true => exact absurd (Nat.le_of_ble_eq_true hb) h
  | false => rfl
theorem PLx_w {A B : aM} (h : fr (fun k _ j => Nat.beq k 37 && (Nat.ble 10 j && Nat.ble j 17)) A B) : fr PLx A B := fr_w h (fun k i j z => by
  have z : ((Nat.beq k 36 && (Nat.beq j 8 || (Nat.beq j 9 || Nat.beq j 10))) || (Nat.beq k 37 && ((Nat.ble 1 j && Nat.ble j 6) || (Nat.ble 10 j && Nat.ble j 43)))) = false := z
  rw [Bool.or_eq_false_iff] at z
  show (Nat.beq k 37 && (Nat.ble 10 j && Nat.ble j 17)) = false
  cases h1 : Nat.beq k 37 with
  | false => rfl
  | true =>
    have z2 := z.2
    rw [h1, Bool.true_and, Bool.or_eq_false_iff] at z2
    cases h2 : Nat.ble 10 j with
    | false => rfl
    | true =>
      have z3 := z2.2
      rw [h2, Bool.true_and] at z3
      cases h3 : Nat.ble j 17 with
      | false => rfl
      | true =>
        rw [Nat.ble_eq_true_of_le (show j ≤ 43 by have := Nat.le_of_ble_eq_true h3; omega)] at z3
        cases z3)
set_option maxRecDepth 10000 in
theorem r_group {nS d : Nat} {post : Option aV → aM → Prop} {px : Nat → aM → Prop} {K : aK} {M : aM} {n p : Nat} {e : xB} (hK : ∀ pc L S M, a_wp (d + 8) nS (fun y as M P => aC nS (d + 8) y as M P (fun _ _ => False)) none k_X11_boardLine post px K pc L S M → K pc L S M) (hM : MS M n p e) (out : ∀ M', fr PLx M M' → MR n (s_group (M.1 40 0) n e p) M' → post none M') : K 9 [some (vR 36 0), none, none, none] [] M := by
  obtain ⟨hfa, hn, h4, hp, pn, hB, hLL⟩ := hM
  have hg : gM M e.1.1 e.1.2 := ⟨hB.1, hB.2.2.1.1, hB.2.2.1.2.1⟩
  have hS : rS M e.2.1.1 e.2.1.2.1 e.2.1.2.2 := ⟨hB.2.2.1.2.2.1, hB.2.2.1.2.2.2.1, hB.2.2.1.2.2.2.2⟩
  obtain ⟨w1, w3, k1, k3, s2⟩ := hB.2.1
  obtain ⟨o2, o8, kk3⟩ := gP_o (k := e.1.1) (o := e.1.2) hB.1
  have bd : ∀ (x y : Int32) (M2 : aM), fr P36 M M2 → ¬ M2.1 36 0 9 = -1 → (∃ q, q ≤ n ∧ M2.1 36 0 8 = Int32.ofNat q) → t_two (M.1 40 0) n p 0 3 2 8 = none → K 24 [some (vR 36 0), some (vI x), some (vI y), none] [] M2 := by
    intro x y M2 hf2 hfa2 hq2 ht
    refine hK _ _ _ _ (hK _ _ _ _ (hK _ _ _ _ (hK _ _ _ _ ⟨fun q => ?_, fun q => ?_⟩)))
    · refine hK _ _ _ _ (hK _ _ _ _ (hK _ _ _ _ (hK _ _ _ _ ⟨fun q => ?_, fun q => ?_⟩)))
      · exact absurd q hfa2
      · exact hK _ _ _ _ (out M2 (P36_L hf2) (Or.inr ⟨by unfold s_group; rw [ht], hfa2, hq2⟩))
    · exact absurd q hfa2
  refine hK _ _ _ _ (hK _ _ _ _ (hK _ _ _ _ (hK _ _ _ _ ⟨_, t_figures hfa hn h4 hp pn, rfl, fun v1 M1 g1 => ?_⟩)))
  obtain ⟨hf1, x, rfl, hx⟩ := g1
  have er1 : M1.1 40 0 = M.1 40 0 := PLx_row (P36_L hf1)
  rcases hx with ⟨q1, h1, ha1, hfa1, -⟩ | ⟨h1, hfa1, q1, hq1, ha1⟩
  · obtain ⟨l1, l2, l3, l5⟩ := t_num_ok h1 pn
    refine hK _ _ _ _ (hK _ _ _ _ (hK _ _ _ _ (hK _ _ _ _ (hK _ _ _ _ ⟨_, t_figures hfa1 ((hf1.1 36 0 7 rfl).trans hn) h4 ha1 l5, rfl, fun v2 M2 g2 => ?_⟩))))
    obtain ⟨hf2, y, rfl, hy⟩ := g2
    rw [er1] at hy
    rcases hy with ⟨s, h2, ha2, hfa2, bg, hbg, hbg2⟩ | ⟨h2, hfa2, q2, hq2, ha2⟩
    · obtain ⟨m1, m2, m3, m5⟩ := t_num_ok h2 l5
      have hf3 : fr P36 M M2 := fr_t hf1 hf2
      have ht := t_two_3 h1 h2
      have hB2 := rB_36 hf3 hB
      have hL2 := LL_36 hf3 hB.2.1 hLL
      refine hK _ _ _ _ ?_
      obtain ⟨x1, x2⟩ := xn_le (m := 3) (by decide) l1 l2
      obtain ⟨y1, y2⟩ := xn_le (m := 8) (by decide) (Int32.le_trans (by decide) m1) m2
      have y3 : 2 ≤ xn y := xn_ge (m := 2) (by decide) m1
      refine hK _ _ _ _ (hK _ _ _ _ (hK _ _ _ _ (hK _ _ _ _ ⟨fun q => absurd hfa2 q, fun _ => ?_⟩)))
      refine hK _ _ _ _ (hK _ _ _ _ (hK _ _ _ _ ⟨_, b_isGroup x1 y1 x2 y3 y2, rfl, fun v3 M3 g3 => ?_⟩))
      obtain ⟨rfl, rfl⟩ := g3
      by_cases hgr : (xn x, xn y) ∈ gP
      · rw [if_pos hgr]
        refine hK _ _ _ _ ⟨fun _ => ?_, fun q => absurd q (by decide)⟩
        refine hK _ _ _ _ (hK _ _ _ _ (hK _ _ _ _ (hK _ _ _ _ ⟨fun _ => ?_, fun q => absurd hfa2 q⟩)))
        refine hK _ _ _ _ (hK _ _ _ _ (hK _ _ _ _ (hK _ _ _ _ (hK _ _ _ _ ⟨x_vp (a := 1) rfl (by decide) (by decide), ?_⟩))))
        rw [x_cl (j := 1) (a := 1) rfl (by decide)]
        refine hK _ _ _ _ (hK _ _ _ _ (hK _ _ _ _ (hK _ _ _ _ (hK _ _ _ _ ⟨x_vp (a := 2) rfl (by decide) (by decide), ?_⟩))))
        rw [x_cl (j := 2) (a := 2) rfl (by decide)]
        have f4 : fr PLx M (a_pI (a_pI M2 37 0 1 x) 37 0 2 y) := fr_p (fr_p (P36_L hf3) rfl) rfl
        refine hK _ _ _ _ (hK _ _ _ _ ⟨_, r_rests0, rfl, fun v5 M5 g5 => ?_⟩)
        obtain ⟨rfl, f5, z5⟩ := g5
        have f6 := fr_t f4 (PLx_r f5)
        have c5 : ∀ q j, (Nat.beq q 37 && (Nat.ble 20 j && Nat.ble j 43)) = false → M5.1 q 0 j = (a_pI (a_pI M2 37 0 1 x) 37 0 2 y).1 q 0 j := fun q j z => f5.1 q 0 j z
        have lp : ∀ (m u : Nat) (M6 : aM), 8 - u = m → u ≤ 8 → fr (fun k _ j => Nat.beq k 37 && (Nat.ble 10 j && Nat.ble j 17)) M5 M6 → (∀ j, j < u → M6.1 37 0 (10 + j) = 1) → K 77 [some (vR 36 0), some (vI x), some (vI y), some (vI (Int32.ofNat u))] [] M6 := by
          intro m
          induction m with
          | zero =>
            intro u M6 hm hu hf hj
            refine hK _ _ _ _ (hK _ _ _ _ (hK _ _ _ _ ⟨fun h => ?_, fun h => ?_⟩))
            · refine hK _ _ _ _ (hK _ _ _ _ ?_)
              have b6 : ∀ q j, (Nat.beq q 37 && (Nat.ble 10 j && Nat.ble j 17)) = false → (Nat.beq q 37 && (Nat.ble 20 j && Nat.ble j 43)) = false → M6.1 q 0 j = (a_pI (a_pI M2 37 0 1 x) 37 0 2 y).1 q 0 j := fun q j z1 z2 => (hf.1 q 0 j z1).trans (c5 q j z2)
              refine out M6 (fr_t f6 (PLx_w hf)) (Or.inl ⟨((xn x, xn y), (e.2.1, (fun _ => 1, (e.2.2.2.1, fun _ => 0)))), s, by unfold s_group; rw [ht]; exact if_pos hgr, m5, ⟨?_, ?_⟩, ?_, ?_⟩)
              · refine ⟨hgr, hB2.2.1, ⟨?_, ?_, ?_, ?_, ?_⟩, fun t ht => hj t (by omega), ?_⟩
                · exact (b6 37 1 rfl rfl).trans ((x_pn (by decide)).trans (x_pe.trans x1))
                · exact (b6 37 2 rfl rfl).trans (x_pe.trans y1)
                · exact (b6 37 3 rfl rfl).trans ((x_pn (by decide)).trans ((x_pn (by decide)).trans hB2.2.2.1.2.2.1))
                · exact (b6 37 4 rfl rfl).trans ((x_pn (by decide)).trans ((x_pn (by decide)).trans hB2.2.2.1.2.2.2.1))
                · exact (b6 37 5 rfl rfl).trans ((x_pn (by decide)).trans ((x_pn (by decide)).trans hB2.2.2.1.2.2.2.2))
                · rw [(b6 37 6 rfl rfl).trans ((x_pn (by decide)).trans (x_pn (by decide)))]
                  exact hB2.2.2.2.2
              · exact LL_0 (e := ((xn x, xn y), (e.2.1, (fun _ => 1, (e.2.2.2.1, fun _ => 0))))) hB2.2.1 (show 0 < xn y by omega) (fun u hu => (hf.1 37 0 (20 + u) x_1017).trans (z5 u hu)) (fun _ => rfl)
              · exact (b6 36 8 rfl rfl).trans ((x_pn (by decide)).trans ((x_pn (by decide)).trans ha2))
              · exact (b6 36 9 rfl rfl).trans ((x_pn (by decide)).trans ((x_pn (by decide)).trans hfa2))
            · exact absurd (x_nge (x := u) (y := 8) rfl rfl (by omega) (by decide) h) (by omega)
          | succ m ih =>
            intro u M6 hm hu hf hj
            have ei : (10 : Int32) + Int32.ofNat u = Int32.ofNat (10 + u) := hI_ad (a := 10)
            refine hK _ _ _ _ (hK _ _ _ _ (hK _ _ _ _ ⟨fun h => ?_, fun h => ?_⟩))
            · exact absurd (x_ge (x := u) (y := 8) rfl rfl (by omega) (by decide) h) (by omega)
            · refine hK _ _ _ _ (hK _ _ _ _ (hK _ _ _ _ (hK _ _ _ _ (hK _ _ _ _ (hK _ _ _ _ (hK _ _ _ _ ⟨x_vp ei (show 10 + u < 1010 by omega) (by decide), ?_⟩))))))
              rw [x_cl ei (by omega)]
              refine hK _ _ _ _ (hK _ _ _ _ ?_)
              rw [hI_s]
              refine ih (u + 1) _ (by omega) (by omega) (fr_p hf ?_) (fun j h2 => ?_)
              · show (Nat.beq 37 37 && (Nat.ble 10 (10 + u) && Nat.ble (10 + u) 17)) = true
                rw [Nat.ble_eq_true_of_le (show 10 ≤ 10 + u by omega), Nat.ble_eq_true_of_le (show 10 + u ≤ 17 by omega)]
                rfl
              · by_cases he : j = u
                · rw [he]
                  exact x_pe
                · rw [x_pn (fun z => he (by have := z.2.2; omega))]
                  exact hj j (by omega)
        refine hK _ _ _ _ (hK _ _ _ _ ?_)
        exact lp _ 0 M5 rfl (Nat.zero_le _) fr_r (fun j hj => absurd hj (Nat.not_lt_zero _))
      · rw [if_neg hgr]
        refine hK _ _ _ _ ⟨fun q => absurd rfl q, fun _ => ?_⟩
        refine hK _ _ _ _ (hK _ _ _ _ (hK _ _ _ _ (hK _ _ _ _ ⟨_, t_wrong hfa2, rfl, fun v4 M4 g4 => ?_⟩)))
        obtain ⟨rfl, hf4, ha4, hw4⟩ := g4
        rw [hbg2] at hw4
        have hfa4 : ¬ M4.1 36 0 9 = -1 := by rw [hw4]; exact x_m1 (by omega)
        refine hK _ _ _ _ (hK _ _ _ _ (hK _ _ _ _ (hK _ _ _ _ ⟨fun q => absurd q hfa4, fun _ => ?_⟩)))
        exact hK _ _ _ _ (out M4 (P36_L (fr_t hf3 hf4)) (Or.inr ⟨by unfold s_group; rw [ht]; exact if_neg hgr, hfa4, s, m5, ha4.trans ha2⟩))
    · refine hK _ _ _ _ ?_
      exact bd _ _ M2 (fr_t hf1 hf2) hfa2 ⟨q2, hq2, ha2⟩ (t_two_2 h1 h2)
  · refine hK _ _ _ _ (hK _ _ _ _ (hK _ _ _ _ (hK _ _ _ _ (hK _ _ _ _ ⟨_, t_fig0 hfa1, rfl, fun v2 M2 g2 => ?_⟩))))
    obtain ⟨rfl, rfl⟩ := g2
    refine hK _ _ _ _ ?_
    exact bd _ _ M1 hf1 hfa1 ⟨q1, hq1, ha1⟩ (t_two_1 h1)
set_option maxRecDepth 10000 in
theorem r_size {nS d : Nat} {post : Option aV → aM → Prop} {px : Nat → aM → Prop} {K : aK} {M : aM} {n p : Nat} {e : xB} (hK : ∀ pc L S M, a_wp (d + 8) nS (fun y as M P => aC nS (d + 8) y as M P (fun _ _ => False)) none k_X11_boardLine post px K pc L S M → K pc L S M) (hM : MS M n p e) (out : ∀ M', fr PLx M M' → MR n (s_size (M.1 40 0) n e p) M' → post none M') : K 111 [some (vR 36 0), none, none, none] [] M := by
  obtain ⟨hfa, hn, h4, hp, pn, hB, hLL⟩ := hM
  have hg : gM M e.1.1 e.1.2 := ⟨hB.1, hB.2.2.1.1, hB.2.2.1.2.1⟩
  have hS : rS M e.2.1.1 e.2.1.2.1 e.2.1.2.2 := ⟨hB.2.2.1.2.2.1, hB.2.2.1.2.2.2.1, hB.2.2.1.2.2.2.2⟩
  obtain ⟨w1, w3, k1, k3, s2⟩ := hB.2.1
  obtain ⟨o2, o8, kk3⟩ := gP_o (k := e.1.1) (o := e.1.2) hB.1
  have bd : ∀ (x y : Int32) (M2 : aM), fr P36 M M2 → ¬ M2.1 36 0 9 = -1 → (∃ q, q ≤ n ∧ M2.1 36 0 8 = Int32.ofNat q) → t_two (M.1 40 0) n p 1 3 1 3 = none → K 125 [some (vR 36 0), some (vI x), some (vI y), none] [] M2 := by
    intro x y M2 hf2 hfa2 hq2 ht
    refine hK _ _ _ _ (hK _ _ _ _ (hK _ _ _ _ (hK _ _ _ _ ⟨fun q => ?_, fun q => ?_⟩)))
    · exact absurd q hfa2
    · exact hK _ _ _ _ (out M2 (P36_L hf2) (Or.inr ⟨by unfold s_size; rw [ht], hfa2, hq2⟩))
  refine hK _ _ _ _ (hK _ _ _ _ (hK _ _ _ _ (hK _ _ _ _ ⟨_, t_figures hfa hn h4 hp pn, rfl, fun v1 M1 g1 => ?_⟩)))
  obtain ⟨hf1, x, rfl, hx⟩ := g1
  have er1 : M1.1 40 0 = M.1 40 0 := PLx_row (P36_L hf1)
  rcases hx with ⟨q1, h1, ha1, hfa1, -⟩ | ⟨h1, hfa1, q1, hq1, ha1⟩
  · obtain ⟨l1, l2, l3, l5⟩ := t_num_ok h1 pn
    refine hK _ _ _ _ (hK _ _ _ _ (hK _ _ _ _ (hK _ _ _ _ (hK _ _ _ _ ⟨_, t_figures hfa1 ((hf1.1 36 0 7 rfl).trans hn) h4 ha1 l5, rfl, fun v2 M2 g2 => ?_⟩))))
    obtain ⟨hf2, y, rfl, hy⟩ := g2
    rw [er1] at hy
    rcases hy with ⟨s, h2, ha2, hfa2, bg, hbg, hbg2⟩ | ⟨h2, hfa2, q2, hq2, ha2⟩
    · obtain ⟨m1, m2, m3, m5⟩ := t_num_ok h2 l5
      have hf3 : fr P36 M M2 := fr_t hf1 hf2
      have ht := t_two_3 h1 h2
      have hB2 := rB_36 hf3 hB
      have hL2 := LL_36 hf3 hB.2.1 hLL
      refine hK _ _ _ _ ?_
      obtain ⟨x1, x2⟩ := xn_le (m := 3) (by decide) (Int32.le_trans (by decide) l1) l2
      obtain ⟨y1, y2⟩ := xn_le (m := 3) (by decide) (Int32.le_trans (by decide) m1) m2
      have x3 : 1 ≤ xn x := xn_ge (m := 1) (by decide) l1
      have y3 : 1 ≤ xn y := xn_ge (m := 1) (by decide) m1
      refine hK _ _ _ _ (hK _ _ _ _ (hK _ _ _ _ (hK _ _ _ _ ⟨fun _ => ?_, fun q => absurd hfa2 q⟩)))
      refine hK _ _ _ _ (hK _ _ _ _ (hK _ _ _ _ (hK _ _ _ _ (hK _ _ _ _ ⟨x_vp (a := 3) rfl (by decide) (by decide), ?_⟩))))
      rw [x_cl (j := 3) (a := 3) rfl (by decide)]
      refine hK _ _ _ _ (hK _ _ _ _ (hK _ _ _ _ (hK _ _ _ _ (hK _ _ _ _ ⟨x_vp (a := 4) rfl (by decide) (by decide), ?_⟩))))
      rw [x_cl (j := 4) (a := 4) rfl (by decide)]
      refine hK _ _ _ _ (hK _ _ _ _ (hK _ _ _ _ (hK _ _ _ _ (hK _ _ _ _ ⟨x_vp (a := 6) rfl (by decide) (by decide), ?_⟩))))
      rw [x_cl (j := 6) (a := 6) rfl (by decide)]
      have f4 : fr PLx M (a_pI (a_pI (a_pI M2 37 0 3 x) 37 0 4 y) 37 0 6 0) := fr_p (fr_p (fr_p (P36_L hf3) rfl) rfl) rfl
      refine hK _ _ _ _ (hK _ _ _ _ ⟨_, r_rests0, rfl, fun v5 M5 g5 => ?_⟩)
      obtain ⟨rfl, f5, z5⟩ := g5
      refine hK _ _ _ _ (hK _ _ _ _ ?_)
      have c5 : ∀ q j, (Nat.beq q 37 && (Nat.ble 20 j && Nat.ble j 43)) = false → ¬ (q = 37 ∧ (j = 3 ∨ j = 4 ∨ j = 6)) → M5.1 q 0 j = M2.1 q 0 j := fun q j z1 z2 => (f5.1 q 0 j z1).trans ((x_pn (fun z => z2 ⟨z.1, Or.inr (Or.inr z.2.2)⟩)).trans ((x_pn (fun z => z2 ⟨z.1, Or.inr (Or.inl z.2.2)⟩)).trans (x_pn (fun z => z2 ⟨z.1, Or.inl z.2.2⟩))))
      refine out M5 (fr_t f4 (PLx_r f5)) (Or.inl ⟨(e.1, ((xn x, xn y, e.2.1.2.2), (e.2.2.1, (fun _ => 0, fun _ => 0)))), s, by unfold s_size; rw [ht], m5, ⟨⟨hB2.1, ⟨x3, x2, y3, y2, s2⟩, ⟨(c5 37 1 rfl (by decide)).trans hB2.2.2.1.1, (c5 37 2 rfl (by decide)).trans hB2.2.2.1.2.1, ?_, ?_, (c5 37 5 rfl (by decide)).trans hB2.2.2.1.2.2.2.2⟩, fun t ht => (c5 37 (10 + t) ?_ (by omega)).trans (hB2.2.2.2.1 t ht), ?_⟩, LL_0 (e := (e.1, ((xn x, xn y, e.2.1.2.2), (e.2.2.1, (fun _ => 0, fun _ => 0))))) ⟨x3, x2, y3, y2, s2⟩ (show 0 < e.1.2 by omega) z5 (fun _ => rfl)⟩, (c5 36 8 rfl (by decide)).trans ha2, (c5 36 9 rfl (by decide)).trans hfa2⟩)
      · exact (f5.1 37 0 3 rfl).trans ((x_pn (by decide)).trans ((x_pn (by decide)).trans (x_pe.trans x1)))
      · exact (f5.1 37 0 4 rfl).trans ((x_pn (by decide)).trans (x_pe.trans y1))
      · rw [x_nble (show ¬ 20 ≤ 10 + t by omega)]
        rfl
      · rw [(f5.1 37 0 6 rfl).trans x_pe]
        exact rH_0
    · refine hK _ _ _ _ ?_
      exact bd _ _ M2 (fr_t hf1 hf2) hfa2 ⟨q2, hq2, ha2⟩ (t_two_2 h1 h2)
  · refine hK _ _ _ _ (hK _ _ _ _ (hK _ _ _ _ (hK _ _ _ _ (hK _ _ _ _ ⟨_, t_fig0 hfa1, rfl, fun v2 M2 g2 => ?_⟩))))
    obtain ⟨rfl, rfl⟩ := g2
    refine hK _ _ _ _ ?_
    exact bd _ _ M1 hf1 hfa1 ⟨q1, hq1, ha1⟩ (t_two_1 h1)
set_option maxRecDepth 10000 in
theorem r_shape {nS d : Nat} {post : Option aV → aM → Prop} {px : Nat → aM → Prop} {K : aK} {M : aM} {n p : Nat} {e : xB} (hK : ∀ pc L S M, a_wp (d + 8) nS (fun y as M P => aC nS (d + 8) y as M P (fun _ _ => False)) none k_X11_boardLine post px K pc L S M → K pc L S M) (hM : MS M n p e) (out : ∀ M', fr PLx M M' → MR n (s_shape (M.1 40 0) n e p) M' → post none M') : K 172 [some (vR 36 0), none, none, none] [] M := by
  obtain ⟨hfa, hn, h4, hp, pn, hB, hLL⟩ := hM
  have hg : gM M e.1.1 e.1.2 := ⟨hB.1, hB.2.2.1.1, hB.2.2.1.2.1⟩
  have hS : rS M e.2.1.1 e.2.1.2.1 e.2.1.2.2 := ⟨hB.2.2.1.2.2.1, hB.2.2.1.2.2.2.1, hB.2.2.1.2.2.2.2⟩
  obtain ⟨w1, w3, k1, k3, s2⟩ := hB.2.1
  obtain ⟨o2, o8, kk3⟩ := gP_o (k := e.1.1) (o := e.1.2) hB.1
  refine hK _ _ _ _ (hK _ _ _ _ (hK _ _ _ _ (hK _ _ _ _ ⟨_, t_figures hfa hn h4 hp pn, rfl, fun v1 M2 g1 => ?_⟩)))
  obtain ⟨hf3, x, rfl, hx⟩ := g1
  have hB2 := rB_36 hf3 hB
  have hL2 := LL_36 hf3 hB.2.1 hLL
  rcases hx with ⟨s, ht, ha2, hfa2, -⟩ | ⟨ht, hfa2, q1, hq1, ha1⟩
  · obtain ⟨l1, l2, l3, m5⟩ := t_num_ok ht pn
    obtain ⟨x1, x2⟩ := xn_le (m := 2) (by decide) l1 l2
    refine hK _ _ _ _ (hK _ _ _ _ (hK _ _ _ _ (hK _ _ _ _ (hK _ _ _ _ ⟨fun _ => ?_, fun q => absurd hfa2 q⟩))))
    refine hK _ _ _ _ (hK _ _ _ _ (hK _ _ _ _ (hK _ _ _ _ (hK _ _ _ _ ⟨x_vp (a := 5) rfl (by decide) (by decide), ?_⟩))))
    rw [x_cl (j := 5) (a := 5) rfl (by decide)]
    refine hK _ _ _ _ (hK _ _ _ _ (hK _ _ _ _ (hK _ _ _ _ (hK _ _ _ _ ⟨x_vp (a := 6) rfl (by decide) (by decide), ?_⟩))))
    rw [x_cl (j := 6) (a := 6) rfl (by decide)]
    have f4 : fr PLx M (a_pI (a_pI M2 37 0 5 x) 37 0 6 0) := fr_p (fr_p (P36_L hf3) rfl) rfl
    refine hK _ _ _ _ (hK _ _ _ _ ⟨_, r_rests0, rfl, fun v5 M5 g5 => ?_⟩)
    obtain ⟨rfl, f5, z5⟩ := g5
    refine hK _ _ _ _ (hK _ _ _ _ ?_)
    have c5 : ∀ q j, (Nat.beq q 37 && (Nat.ble 20 j && Nat.ble j 43)) = false → ¬ (q = 37 ∧ (j = 5 ∨ j = 6)) → M5.1 q 0 j = M2.1 q 0 j := fun q j z1 z2 => (f5.1 q 0 j z1).trans ((x_pn (fun z => z2 ⟨z.1, Or.inr z.2.2⟩)).trans (x_pn (fun z => z2 ⟨z.1, Or.inl z.2.2⟩)))
    refine out M5 (fr_t f4 (PLx_r f5)) (Or.inl ⟨(e.1, ((e.2.1.1, e.2.1.2.1, xn x), (e.2.2.1, (fun _ => 0, fun _ => 0)))), s, by unfold s_shape; rw [ht], m5, ⟨⟨hB2.1, ⟨w1, w3, k1, k3, x2⟩, ⟨(c5 37 1 rfl (by decide)).trans hB2.2.2.1.1, (c5 37 2 rfl (by decide)).trans hB2.2.2.1.2.1, (c5 37 3 rfl (by decide)).trans hB2.2.2.1.2.2.1, (c5 37 4 rfl (by decide)).trans hB2.2.2.1.2.2.2.1, ?_⟩, fun t ht => (c5 37 (10 + t) ?_ (by omega)).trans (hB2.2.2.2.1 t ht), ?_⟩, LL_0 (e := (e.1, ((e.2.1.1, e.2.1.2.1, xn x), (e.2.2.1, (fun _ => 0, fun _ => 0))))) ⟨w1, w3, k1, k3, x2⟩ (show 0 < e.1.2 by omega) z5 (fun _ => rfl)⟩, (c5 36 8 rfl (by decide)).trans ha2, (c5 36 9 rfl (by decide)).trans hfa2⟩)
    · exact (f5.1 37 0 5 rfl).trans ((x_pn (by decide)).trans (x_pe.trans x1))
    · rw [x_nble (show ¬ 20 ≤ 10 + t by omega)]
      rfl
    · rw [(f5.1 37 0 6 rfl).trans x_pe]
      exact rH_0
  · refine hK _ _ _ _ (hK _ _ _ _ (hK _ _ _ _ (hK _ _ _ _ (hK _ _ _ _ ⟨fun q => absurd q hfa2, fun _ => ?_⟩))))
    exact hK _ _ _ _ (out M2 (P36_L hf3) (Or.inr ⟨by unfold s_shape; rw [ht], hfa2, q1, hq1, ha1⟩))
set_option maxRecDepth 10000 in
theorem r_weight {nS d : Nat} {post : Option aV → aM → Prop} {px : Nat → aM → Prop} {K : aK} {M : aM} {n p : Nat} {e : xB} (hK : ∀ pc L S M, a_wp (d + 8) nS (fun y as M P => aC nS (d + 8) y as M P (fun _ _ => False)) none k_X11_boardLine post px K pc L S M → K pc L S M) (hM : MS M n p e) (out : ∀ M', fr PLx M M' → MR n (s_weight (M.1 40 0) n e p) M' → post none M') : K 219 [some (vR 36 0), none, none, none] [] M := by
  obtain ⟨hfa, hn, h4, hp, pn, hB, hLL⟩ := hM
  have hg : gM M e.1.1 e.1.2 := ⟨hB.1, hB.2.2.1.1, hB.2.2.1.2.1⟩
  have hS : rS M e.2.1.1 e.2.1.2.1 e.2.1.2.2 := ⟨hB.2.2.1.2.2.1, hB.2.2.1.2.2.2.1, hB.2.2.1.2.2.2.2⟩
  obtain ⟨w1, w3, k1, k3, s2⟩ := hB.2.1
  obtain ⟨o2, o8, kk3⟩ := gP_o (k := e.1.1) (o := e.1.2) hB.1
  have bd : ∀ (x y : Int32) (M2 : aM), fr P36 M M2 → ¬ M2.1 36 0 9 = -1 → (∃ q, q ≤ n ∧ M2.1 36 0 8 = Int32.ofNat q) → t_two (M.1 40 0) n p 0 (Int32.ofNat e.1.2 - 1) 0 9 = none → K 241 [some (vR 36 0), some (vI x), some (vI y), none] [] M2 := by
    intro x y M2 hf2 hfa2 hq2 ht
    refine hK _ _ _ _ (hK _ _ _ _ (hK _ _ _ _ (hK _ _ _ _ ⟨fun q => ?_, fun q => ?_⟩)))
    · exact absurd q hfa2
    · exact hK _ _ _ _ (out M2 (P36_L hf2) (Or.inr ⟨by unfold s_weight; rw [ht], hfa2, hq2⟩))
  refine hK _ _ _ _ (hK _ _ _ _ (hK _ _ _ _ (hK _ _ _ _ (hK _ _ _ _ (hK _ _ _ _ ⟨x_vp (a := 2) rfl (by decide) (by decide), ?_⟩)))))
  rw [x_cl (j := 2) (a := 2) rfl (by decide), hg.2.2]
  refine hK _ _ _ _ (hK _ _ _ _ (hK _ _ _ _ ⟨_, t_figures hfa hn h4 hp pn, rfl, fun v1 M1 g1 => ?_⟩))
  obtain ⟨hf1, x, rfl, hx⟩ := g1
  have er1 : M1.1 40 0 = M.1 40 0 := PLx_row (P36_L hf1)
  rcases hx with ⟨q1, h1, ha1, hfa1, -⟩ | ⟨h1, hfa1, q1, hq1, ha1⟩
  · obtain ⟨l1, l2, l3, l5⟩ := t_num_ok h1 pn
    refine hK _ _ _ _ (hK _ _ _ _ (hK _ _ _ _ (hK _ _ _ _ (hK _ _ _ _ ⟨_, t_figures hfa1 ((hf1.1 36 0 7 rfl).trans hn) h4 ha1 l5, rfl, fun v2 M2 g2 => ?_⟩))))
    obtain ⟨hf2, y, rfl, hy⟩ := g2
    rw [er1] at hy
    rcases hy with ⟨s, h2, ha2, hfa2, bg, hbg, hbg2⟩ | ⟨h2, hfa2, q2, hq2, ha2⟩
    · obtain ⟨m1, m2, m3, m5⟩ := t_num_ok h2 l5
      have hf3 : fr P36 M M2 := fr_t hf1 hf2
      have ht := t_two_3 h1 h2
      have hB2 := rB_36 hf3 hB
      have hL2 := LL_36 hf3 hB.2.1 hLL
      refine hK _ _ _ _ ?_
      obtain ⟨x1, x2⟩ := xn_le (m := e.1.2 - 1) (by omega) l1 (by rw [← x_sub (y := 1) (by omega) (by omega)]; exact l2)
      have hg2 : gM M2 e.1.1 e.1.2 := ⟨hB2.1, hB2.2.2.1.1, hB2.2.2.1.2.1⟩
      refine hK _ _ _ _ (hK _ _ _ _ (hK _ _ _ _ (hK _ _ _ _ ⟨fun _ => ?_, fun q => absurd hfa2 q⟩)))
      have lp : ∀ (m u : Nat) (M6 : aM), e.1.2 - u = m → u ≤ e.1.2 → fr (fun k _ j => Nat.beq k 37 && (Nat.ble 10 j && Nat.ble j 17)) M2 M6 → (∀ j, j < 8 → M6.1 37 0 (10 + j) = bif Nat.blt j u then kset e.1.1 e.1.2 (xn x) y e.2.2.1 j else e.2.2.1 j) → K 252 [some (vR 36 0), some (vI x), some (vI y), some (vI (Int32.ofNat u))] [] M6 := by
        intro m
        induction m with
        | zero =>
          intro u M6 hm hu hf hj
          have hg6 : M6.1 37 0 2 = Int32.ofNat e.1.2 := (hf.1 37 0 2 rfl).trans hg2.2.2
          refine hK _ _ _ _ (hK _ _ _ _ (hK _ _ _ _ (hK _ _ _ _ (hK _ _ _ _ ⟨x_vp (a := 2) rfl (by decide) (by decide), ?_⟩))))
          rw [x_cl (j := 2) (a := 2) rfl (by decide), hg6]
          refine hK _ _ _ _ ⟨fun h => ?_, fun h => ?_⟩
          · refine hK _ _ _ _ (hK _ _ _ _ ?_)
            refine out M6 (fr_t (P36_L hf3) (PLx_w hf)) (Or.inl ⟨(e.1, (e.2.1, (kset e.1.1 e.1.2 (xn x) y e.2.2.1, e.2.2.2))), s, by unfold s_weight; rw [ht], m5, ⟨⟨hB2.1, hB2.2.1, ⟨(hf.1 37 0 1 rfl).trans hB2.2.2.1.1, (hf.1 37 0 2 rfl).trans hB2.2.2.1.2.1, (hf.1 37 0 3 rfl).trans hB2.2.2.1.2.2.1, (hf.1 37 0 4 rfl).trans hB2.2.2.1.2.2.2.1, (hf.1 37 0 5 rfl).trans hB2.2.2.1.2.2.2.2⟩, fun t ht => ?_, ?_⟩, LL_f (e := e) hB2.2.1 hL2 (fun u _ => hf.1 37 0 (20 + u) x_1017)⟩, (hf.1 36 0 8 rfl).trans ha2, (hf.1 36 0 9 rfl).trans hfa2⟩)
            · rw [hj t ht]
              show _ = kset e.1.1 e.1.2 (xn x) y e.2.2.1 t
              cases hb : Nat.blt t u with
              | true => rfl
              | false =>
                rw [cond_false]
                unfold kset
                rw [show Nat.blt t e.1.2 = false by rw [show e.1.2 = u by omega]; exact hb]
                rfl
            · rw [hf.1 37 0 6 rfl]
              exact hB2.2.2.2.2
          · exact absurd (x_nge (x := u) (y := e.1.2) rfl rfl (by omega) (by omega) h) (by omega)
        | succ m ih =>
          intro u M6 hm hu hf hj
          have huo : u < e.1.2 := by omega
          have hg6 : gM M6 e.1.1 e.1.2 := ⟨hg2.1, (hf.1 37 0 1 rfl).trans hg2.2.1, (hf.1 37 0 2 rfl).trans hg2.2.2⟩
          have ei : (10 : Int32) + Int32.ofNat u = Int32.ofNat (10 + u) := hI_ad (a := 10)
          refine hK _ _ _ _ (hK _ _ _ _ (hK _ _ _ _ (hK _ _ _ _ (hK _ _ _ _ ⟨x_vp (a := 2) rfl (by decide) (by decide), ?_⟩))))
          rw [x_cl (j := 2) (a := 2) rfl (by decide), hg6.2.2]
          refine hK _ _ _ _ ⟨fun h => ?_, fun h => ?_⟩
          · exact absurd (x_ge (x := u) (y := e.1.2) rfl rfl (by omega) (by omega) h) (by omega)
          · refine hK _ _ _ _ (hK _ _ _ _ (hK _ _ _ _ (hK _ _ _ _ ⟨_, r_isKin_x hg6 x1 (show xn x < e.1.2 by omega) huo, rfl, fun v265 M265 g265 => ?_⟩)))
            obtain ⟨rfl, rfl⟩ := g265
            refine hK _ _ _ _ ⟨fun q => ?_, fun q => ?_⟩
            · refine hK _ _ _ _ (hK _ _ _ _ ?_)
              rw [hI_s]
              refine ih (u + 1) M6 (by omega) (by omega) hf (fun j h8 => ?_)
              rw [hj j h8]
              have q2 := x_ifn q
              rw [isk_kn hg6.1 (show xn x < e.1.2 by omega) huo] at q2
              by_cases he : j = u
              · rw [he, x_nblt (Nat.lt_irrefl u), x_blt (Nat.lt_succ_self u)]
                unfold kset
                rw [show Nat.beq (kn e.1.1 e.1.2 u) (kn e.1.1 e.1.2 (xn x)) = false by cases hz : Nat.beq (kn e.1.1 e.1.2 u) (kn e.1.1 e.1.2 (xn x)) with | true => exact absurd hz q2 | false => rfl, Bool.and_false]
                rfl
              · by_cases hl : j < u
                · rw [x_blt hl, x_blt (show j < u + 1 by omega)]
                · rw [x_nblt hl, x_nblt (show ¬ j < u + 1 by omega)]
            · have q2 := x_if q
              rw [isk_kn hg6.1 (show xn x < e.1.2 by omega) huo] at q2
              refine hK _ _ _ _ (hK _ _ _ _ (hK _ _ _ _ (hK _ _ _ _ (hK _ _ _ _ (hK _ _ _ _ (hK _ _ _ _ ⟨x_vp ei (show 10 + u < 1010 by omega) (by decide), ?_⟩))))))
              rw [x_cl ei (by omega)]
              refine hK _ _ _ _ (hK _ _ _ _ ?_)
              rw [hI_s]
              refine ih (u + 1) _ (by omega) (by omega) (fr_p hf ?_) (fun j h8 => ?_)
              · show (Nat.beq 37 37 && (Nat.ble 10 (10 + u) && Nat.ble (10 + u) 17)) = true
                rw [Nat.ble_eq_true_of_le (show 10 ≤ 10 + u by omega), Nat.ble_eq_true_of_le (show 10 + u ≤ 17 by omega)]
                rfl
              · by_cases he : j = u
                · rw [he, x_pe, x_blt (Nat.lt_succ_self u)]
                  unfold kset
                  rw [x_blt huo, q2]
                  rfl
                · rw [x_pn (fun z => he (by have := z.2.2; omega)), hj j h8]
                  by_cases hl : j < u
                  · rw [x_blt hl, x_blt (show j < u + 1 by omega)]
                  · rw [x_nblt hl, x_nblt (show ¬ j < u + 1 by omega)]
      refine hK _ _ _ _ (hK _ _ _ _ ?_)
      refine lp _ 0 M2 rfl (Nat.zero_le _) fr_r (fun j hj => ?_)
      rw [x_nblt (Nat.not_lt_zero j)]
      exact hB2.2.2.2.1 j hj
    · refine hK _ _ _ _ ?_
      exact bd _ _ M2 (fr_t hf1 hf2) hfa2 ⟨q2, hq2, ha2⟩ (t_two_2 h1 h2)
  · refine hK _ _ _ _ (hK _ _ _ _ (hK _ _ _ _ (hK _ _ _ _ (hK _ _ _ _ ⟨_, t_fig0 hfa1, rfl, fun v2 M2 g2 => ?_⟩))))
    obtain ⟨rfl, rfl⟩ := g2
    refine hK _ _ _ _ ?_
    exact bd _ _ M1 hf1 hfa1 ⟨q1, hq1, ha1⟩ (t_two_1 h1)
set_option maxRecDepth 10000 in
theorem r_hole {nS d : Nat} {post : Option aV → aM → Prop} {px : Nat → aM → Prop} {K : aK} {M : aM} {n p : Nat} {e : xB} (hK : ∀ pc L S M, a_wp (d + 8) nS (fun y as M P => aC nS (d + 8) y as M P (fun _ _ => False)) none k_X11_boardLine post px K pc L S M → K pc L S M) (hM : MS M n p e) (out : ∀ M', fr PLx M M' → MR n (s_hole (M.1 40 0) n e p) M' → post none M') : K 299 [some (vR 36 0), none, none, none] [] M := by
  obtain ⟨hfa, hn, h4, hp, pn, hB, hLL⟩ := hM
  have hg : gM M e.1.1 e.1.2 := ⟨hB.1, hB.2.2.1.1, hB.2.2.1.2.1⟩
  have hS : rS M e.2.1.1 e.2.1.2.1 e.2.1.2.2 := ⟨hB.2.2.1.2.2.1, hB.2.2.1.2.2.2.1, hB.2.2.1.2.2.2.2⟩
  obtain ⟨w1, w3, k1, k3, s2⟩ := hB.2.1
  obtain ⟨o2, o8, kk3⟩ := gP_o (k := e.1.1) (o := e.1.2) hB.1
  have bd : ∀ (x y : Int32) (M2 : aM), fr P36 M M2 → ¬ M2.1 36 0 9 = -1 → (∃ q, q ≤ n ∧ M2.1 36 0 8 = Int32.ofNat q) → t_two (M.1 40 0) n p 0 3 0 3 = none → K 313 [some (vR 36 0), some (vI x), some (vI y), none] [] M2 := by
    intro x y M2 hf2 hfa2 hq2 ht
    refine hK _ _ _ _ (hK _ _ _ _ (hK _ _ _ _ (hK _ _ _ _ ⟨fun q => ?_, fun q => ?_⟩)))
    · refine hK _ _ _ _ (hK _ _ _ _ (hK _ _ _ _ (hK _ _ _ _ ⟨fun q => ?_, fun q => ?_⟩)))
      · exact hK _ _ _ _ (hK _ _ _ _ (out M2 (P36_L hf2) (Or.inr ⟨by unfold s_hole; rw [ht], hfa2, hq2⟩)))
      · exact absurd q hfa2
    · exact absurd q hfa2
  refine hK _ _ _ _ (hK _ _ _ _ (hK _ _ _ _ (hK _ _ _ _ ⟨_, t_figures hfa hn h4 hp pn, rfl, fun v1 M1 g1 => ?_⟩)))
  obtain ⟨hf1, x, rfl, hx⟩ := g1
  have er1 : M1.1 40 0 = M.1 40 0 := PLx_row (P36_L hf1)
  rcases hx with ⟨q1, h1, ha1, hfa1, -⟩ | ⟨h1, hfa1, q1, hq1, ha1⟩
  · obtain ⟨l1, l2, l3, l5⟩ := t_num_ok h1 pn
    refine hK _ _ _ _ (hK _ _ _ _ (hK _ _ _ _ (hK _ _ _ _ (hK _ _ _ _ ⟨_, t_figures hfa1 ((hf1.1 36 0 7 rfl).trans hn) h4 ha1 l5, rfl, fun v2 M2 g2 => ?_⟩))))
    obtain ⟨hf2, y, rfl, hy⟩ := g2
    rw [er1] at hy
    rcases hy with ⟨s, h2, ha2, hfa2, bg, hbg, hbg2⟩ | ⟨h2, hfa2, q2, hq2, ha2⟩
    · obtain ⟨m1, m2, m3, m5⟩ := t_num_ok h2 l5
      have hf3 : fr P36 M M2 := fr_t hf1 hf2
      have ht := t_two_3 h1 h2
      have hB2 := rB_36 hf3 hB
      have hL2 := LL_36 hf3 hB.2.1 hLL
      refine hK _ _ _ _ ?_
      obtain ⟨x1, x2⟩ := xn_le (m := 3) (by decide) l1 l2
      obtain ⟨y1, y2⟩ := xn_le (m := 3) (by decide) m1 m2
      have hS2 : rS M2 e.2.1.1 e.2.1.2.1 e.2.1.2.2 := ⟨hB2.2.2.1.2.2.1, hB2.2.2.1.2.2.2.1, hB2.2.2.1.2.2.2.2⟩
      refine hK _ _ _ _ (hK _ _ _ _ (hK _ _ _ _ (hK _ _ _ _ ⟨fun q => absurd hfa2 q, fun _ => ?_⟩)))
      refine hK _ _ _ _ (hK _ _ _ _ (hK _ _ _ _ (hK _ _ _ _ ⟨_, r_isSquare hS2 w1 w3 k1 k3, rfl, fun v3 M3 g3 => ?_⟩)))
      obtain ⟨hsq, rfl⟩ := g3
      rcases hsq with ⟨⟨a, b, ha, hb, ea, eb⟩, rfl⟩ | ⟨hno, rfl⟩
      · have xa : xn x = a := x_inj (by omega) (by omega) (x1.symm.trans ea)
        have yb : xn y = b := x_inj (by omega) (by omega) (y1.symm.trans eb)
        refine hK _ _ _ _ ⟨fun _ => ?_, fun q => absurd q (by decide)⟩
        refine hK _ _ _ _ (hK _ _ _ _ (hK _ _ _ _ (hK _ _ _ _ ⟨fun q => absurd hfa2 q, fun _ => ?_⟩)))
        refine hK _ _ _ _ (hK _ _ _ _ (hK _ _ _ _ (hK _ _ _ _ (hK _ _ _ _ (hK _ _ _ _ (hK _ _ _ _ ⟨x_vp (a := 6) rfl (by decide) (by decide), ?_⟩))))))
        rw [x_cl (j := 6) (a := 6) rfl (by decide)]
        refine hK _ _ _ _ (hK _ _ _ _ (hK _ _ _ _ (hK _ _ _ _ (hK _ _ _ _ (hK _ _ _ _ (hK _ _ _ _ (hK _ _ _ _ (hK _ _ _ _ ⟨x_vp (a := 6) rfl (by decide) (by decide), ?_⟩))))))))
        rw [x_cl (j := 6) (a := 6) rfl (by decide)]
        refine hK _ _ _ _ (hK _ _ _ _ ?_)
        refine out _ (fr_p (P36_L hf3) rfl) (Or.inl ⟨(e.1, (e.2.1, (e.2.2.1, (fun j => bif Nat.beq j (xn y * 4 + xn x) then 1 else e.2.2.2.1 j, e.2.2.2.2)))), s, by unfold s_hole; rw [ht]; exact if_pos ⟨by rw [xa]; exact ha, by rw [yb]; exact hb⟩, m5, ⟨⟨hB2.1, hB2.2.1, ⟨(x_pn (by decide)).trans hB2.2.2.1.1, (x_pn (by decide)).trans hB2.2.2.1.2.1, (x_pn (by decide)).trans hB2.2.2.1.2.2.1, (x_pn (by decide)).trans hB2.2.2.1.2.2.2.1, (x_pn (by decide)).trans hB2.2.2.1.2.2.2.2⟩, fun t ht => (x_pn (fun z => by have := z.2.2; omega)).trans (hB2.2.2.2.1 t ht), ?_⟩, LL_f (e := e) hB2.2.1 hL2 (fun u _ => x_pn (fun z => by have := z.2.2; omega))⟩, (x_pn (by decide)).trans ha2, (x_pn (by decide)).trans hfa2⟩)
        rw [x_pe, xa, yb, ea, eb, show (3 : Int32) = Int32.ofNat 3 from rfl, ← Int32.ofNat_mul, hI_ad]
        exact rH_or hB2.2.2.2.2 (by omega) (by omega)
      · refine hK _ _ _ _ ⟨fun q => absurd rfl q, fun _ => ?_⟩
        refine hK _ _ _ _ (hK _ _ _ _ (hK _ _ _ _ (hK _ _ _ _ ⟨_, t_wrong hfa2, rfl, fun v4 M4 g4 => ?_⟩)))
        obtain ⟨rfl, hf4, ha4, hw4⟩ := g4
        rw [hbg2] at hw4
        have hfa4 : ¬ M4.1 36 0 9 = -1 := by rw [hw4]; exact x_m1 (by omega)
        refine hK _ _ _ _ (hK _ _ _ _ (hK _ _ _ _ (hK _ _ _ _ ⟨fun _ => ?_, fun q => absurd q hfa4⟩)))
        exact hK _ _ _ _ (hK _ _ _ _ (out M4 (P36_L (fr_t hf3 hf4)) (Or.inr ⟨by unfold s_hole; rw [ht]; exact if_neg (fun z => hno ⟨xn x, xn y, z.1, z.2, x1, y1⟩), hfa4, s, m5, ha4.trans ha2⟩)))
    · refine hK _ _ _ _ ?_
      exact bd _ _ M2 (fr_t hf1 hf2) hfa2 ⟨q2, hq2, ha2⟩ (t_two_2 h1 h2)
  · refine hK _ _ _ _ (hK _ _ _ _ (hK _ _ _ _ (hK _ _ _ _ (hK _ _ _ _ ⟨_, t_fig0 hfa1, rfl, fun v2 M2 g2 => ?_⟩))))
    obtain ⟨rfl, rfl⟩ := g2
    refine hK _ _ _ _ ?_
    exact bd _ _ M1 hf1 hfa1 ⟨q1, hq1, ha1⟩ (t_two_1 h1)
theorem r_lineTold {nS d n p z : Nat} {M : aM} {e : xB} {zz : Int32} (hz : z ≤ 1) (hzn : zz = Int32.ofNat z) (hM : MS M n p e) : aC nS (d + 4) 208 [vR 36 0, vI zz] M (fun v M' => v = none ∧ fr PLx M M' ∧ MR n (s_line z (M.1 40 0) n e p) M') (fun _ _ => False) := by
  obtain ⟨hfa, hn, h4, hp, pn, hB, hLL⟩ := hM
  have hg : gM M e.1.1 e.1.2 := ⟨hB.1, hB.2.2.1.1, hB.2.2.1.2.1⟩
  have hS : rS M e.2.1.1 e.2.1.2.1 e.2.1.2.2 := ⟨hB.2.2.1.2.2.1, hB.2.2.1.2.2.2.1, hB.2.2.1.2.2.2.2⟩
  obtain ⟨w1, w3, k1, k3, s2⟩ := hB.2.1
  obtain ⟨o2, o8, kk3⟩ := gP_o (k := e.1.1) (o := e.1.2) hB.1
  refine aC_mk rfl rfl ?_
  intro K hK _
  have bd : ∀ (x y : Int32) (M2 : aM), fr P36 M M2 → ¬ M2.1 36 0 9 = -1 → (∃ q, q ≤ n ∧ M2.1 36 0 8 = Int32.ofNat q) → t_two (M.1 40 0) n p 0 3 0 3 = none → K 14 [some (vR 36 0), some (vI zz), some (vI x), some (vI y), none, none] [] M2 := by
    intro x y M2 hf2 hfa2 hq2 ht
    refine hK _ _ _ _ (hK _ _ _ _ (hK _ _ _ _ (hK _ _ _ _ ⟨fun q => ?_, fun q => ?_⟩)))
    · refine hK _ _ _ _ (hK _ _ _ _ (hK _ _ _ _ (hK _ _ _ _ (hK _ _ _ _ (hK _ _ _ _ ⟨fun q => ?_, fun q => ?_⟩)))))
      · refine hK _ _ _ _ (hK _ _ _ _ (hK _ _ _ _ (hK _ _ _ _ (hK _ _ _ _ (hK _ _ _ _ ⟨x_vp (a := 2) rfl (by decide) (by decide), ?_⟩)))))
        rw [x_cl (j := 2) (a := 2) rfl (by decide)]
        refine hK _ _ _ _ (hK _ _ _ _ (hK _ _ _ _ ⟨_, t_fig0 hfa2, rfl, fun v67 M67 g67 => ?_⟩))
        obtain ⟨rfl, rfl⟩ := g67
        refine hK _ _ _ _ (hK _ _ _ _ (hK _ _ _ _ (hK _ _ _ _ (hK _ _ _ _ ⟨fun q => ?_, fun q => ?_⟩))))
        · exact hK _ _ _ _ ⟨rfl, P36_L hf2, Or.inr ⟨by unfold s_line; rw [ht], hfa2, hq2⟩⟩
        · exact absurd q hfa2
      · exact absurd q hfa2
    · exact absurd q hfa2
  refine hK _ _ _ _ (hK _ _ _ _ (hK _ _ _ _ (hK _ _ _ _ ⟨_, t_figures hfa hn h4 hp pn, rfl, fun v1 M1 g1 => ?_⟩)))
  obtain ⟨hf1, x, rfl, hx⟩ := g1
  have er1 : M1.1 40 0 = M.1 40 0 := PLx_row (P36_L hf1)
  rcases hx with ⟨q1, h1, ha1, hfa1, -⟩ | ⟨h1, hfa1, q1, hq1, ha1⟩
  · obtain ⟨l1, l2, l3, l5⟩ := t_num_ok h1 pn
    refine hK _ _ _ _ (hK _ _ _ _ (hK _ _ _ _ (hK _ _ _ _ (hK _ _ _ _ ⟨_, t_figures hfa1 ((hf1.1 36 0 7 rfl).trans hn) h4 ha1 l5, rfl, fun v2 M2 g2 => ?_⟩))))
    obtain ⟨hf2, y, rfl, hy⟩ := g2
    rw [er1] at hy
    rcases hy with ⟨s, h2, ha2, hfa2, bg, hbg, hbg2⟩ | ⟨h2, hfa2, q2, hq2, ha2⟩
    · obtain ⟨m1, m2, m3, m5⟩ := t_num_ok h2 l5
      have hf3 : fr P36 M M2 := fr_t hf1 hf2
      have ht := t_two_3 h1 h2
      have hB2 := rB_36 hf3 hB
      have hL2 := LL_36 hf3 hB.2.1 hLL
      refine hK _ _ _ _ ?_
      obtain ⟨x1, x2⟩ := xn_le (m := 3) (by decide) l1 l2
      obtain ⟨y1, y2⟩ := xn_le (m := 3) (by decide) m1 m2
      have hS2 : rS M2 e.2.1.1 e.2.1.2.1 e.2.1.2.2 := ⟨hB2.2.2.1.2.2.1, hB2.2.2.1.2.2.2.1, hB2.2.2.1.2.2.2.2⟩
      have er2 : M2.1 40 0 = M.1 40 0 := PLx_row (P36_L hf3)
      have hn2 : M2.1 36 0 7 = Int32.ofNat n := (hf3.1 36 0 7 rfl).trans hn
      refine hK _ _ _ _ (hK _ _ _ _ (hK _ _ _ _ (hK _ _ _ _ ⟨fun q => absurd hfa2 q, fun _ => ?_⟩)))
      refine hK _ _ _ _ (hK _ _ _ _ (hK _ _ _ _ (hK _ _ _ _ (hK _ _ _ _ ⟨_, r_lineOf hS2 w1 w3 k1 k3 s2 hz hzn, rfl, fun v3 M3 g3 => ?_⟩))))
      obtain ⟨hq, rfl⟩ := g3
      have nol : s_line z (M.1 40 0) n e p = none → K 33 [some (vR 36 0), some (vI zz), some (vI x), some (vI y), none, none] [vI (-1)] M2 := by
        intro hno
        refine hK _ _ _ _ (hK _ _ _ _ (hK _ _ _ _ (hK _ _ _ _ (hK _ _ _ _ ⟨fun q => absurd hfa2 q, fun _ => ?_⟩))))
        refine hK _ _ _ _ (hK _ _ _ _ (hK _ _ _ _ ⟨fun q => absurd rfl q, fun _ => ?_⟩))
        refine hK _ _ _ _ (hK _ _ _ _ (hK _ _ _ _ (hK _ _ _ _ ⟨_, t_wrong hfa2, rfl, fun v4 M4 g4 => ?_⟩)))
        obtain ⟨rfl, hf4, ha4, hw4⟩ := g4
        rw [hbg2] at hw4
        have hfa4 : ¬ M4.1 36 0 9 = -1 := by rw [hw4]; exact x_m1 (by omega)
        refine hK _ _ _ _ (hK _ _ _ _ (hK _ _ _ _ (hK _ _ _ _ (hK _ _ _ _ (hK _ _ _ _ ⟨x_vp (a := 2) rfl (by decide) (by decide), ?_⟩)))))
        rw [x_cl (j := 2) (a := 2) rfl (by decide)]
        refine hK _ _ _ _ (hK _ _ _ _ (hK _ _ _ _ ⟨_, t_fig0 hfa4, rfl, fun v5 M5 g5 => ?_⟩))
        obtain ⟨rfl, rfl⟩ := g5
        refine hK _ _ _ _ (hK _ _ _ _ (hK _ _ _ _ (hK _ _ _ _ (hK _ _ _ _ ⟨fun _ => ?_, fun q => absurd q hfa4⟩))))
        exact hK _ _ _ _ ⟨rfl, P36_L (fr_t hf3 hf4), Or.inr ⟨hno, hfa4, s, m5, ha4.trans ha2⟩⟩
      rcases hq with ⟨a, b, ha, hb, ea, eb, hq⟩ | ⟨hno, rfl⟩
      · have xa : xn x = a := x_inj (by omega) (by omega) (x1.symm.trans ea)
        have yb : xn y = b := x_inj (by omega) (by omega) (y1.symm.trans eb)
        rcases hq with ⟨hv, rfl⟩ | ⟨hv, rfl⟩
        · have lb := rln_lt w1 w3 k1 k3 s2 hz ha hb hv
          refine hK _ _ _ _ (hK _ _ _ _ ?_)
          refine hK _ _ _ _ (hK _ _ _ _ (hK _ _ _ _ (hK _ _ _ _ ⟨fun q => absurd hfa2 q, fun _ => ?_⟩)))
          refine hK _ _ _ _ (hK _ _ _ _ (hK _ _ _ _ ⟨fun _ => ?_, fun q => absurd q (x_m1 (by omega))⟩))
          refine hK _ _ _ _ (hK _ _ _ _ (hK _ _ _ _ (hK _ _ _ _ (hK _ _ _ _ (hK _ _ _ _ ⟨x_vp (a := 2) rfl (by decide) (by decide), ?_⟩)))))
          rw [x_cl (j := 2) (a := 2) rfl (by decide), hB2.2.2.1.2.1]
          refine hK _ _ _ _ (hK _ _ _ _ (hK _ _ _ _ ⟨_, t_figures hfa2 hn2 h4 ha2 m5, rfl, fun v5 M5 g5 => ?_⟩))
          obtain ⟨hf5, t, rfl, ht5⟩ := g5
          rw [er2] at ht5
          rcases ht5 with ⟨q, h5, ha5, hfa5, -⟩ | ⟨h5, hfa5, q5, hq5, ha5⟩
          · obtain ⟨u1, u2, u3, u5⟩ := t_num_ok h5 m5
            have ei : (20 : Int32) + Int32.ofNat (rln e.2.1.1 e.2.1.2.1 e.2.1.2.2 a b z) = Int32.ofNat (20 + rln e.2.1.1 e.2.1.2.1 e.2.1.2.2 a b z) := hI_ad (a := 20)
            have hB5 := rB_36 hf5 hB2
            have hL5 := LL_36 hf5 hB2.2.1 hL2
            obtain ⟨et, lt⟩ := xn_le (m := e.1.2 - 1) (by omega) u1 (by rw [← x_sub (y := 1) (by omega) (by omega)]; exact u2)
            refine hK _ _ _ _ (hK _ _ _ _ (hK _ _ _ _ (hK _ _ _ _ (hK _ _ _ _ ⟨fun q => absurd hfa5 q, fun _ => ?_⟩))))
            refine hK _ _ _ _ (hK _ _ _ _ (hK _ _ _ _ (hK _ _ _ _ (hK _ _ _ _ (hK _ _ _ _ (hK _ _ _ _ ⟨x_vp ei (show 20 + rln e.2.1.1 e.2.1.2.1 e.2.1.2.2 a b z < 1010 by omega) (by decide), ?_⟩))))))
            rw [x_cl ei (by omega)]
            have c9 : ∀ q j, ¬ (q = 37 ∧ 20 ≤ j) → (a_pI M5 37 0 (20 + rln e.2.1.1 e.2.1.2.1 e.2.1.2.2 a b z) t).1 q 0 j = M5.1 q 0 j := fun q j z9 => x_pn (fun z => z9 ⟨z.1, by have := z.2.2; omega⟩)
            refine hK _ _ _ _ ⟨rfl, fr_p (P36_L (fr_t hf3 hf5)) ?_, Or.inl ⟨(e.1, (e.2.1, (e.2.2.1, (e.2.2.2.1, fun j => bif Nat.beq j (xln e.2.1.1 e.2.1.2.1 e.2.1.2.2 (xn x) (xn y) z) then t else e.2.2.2.2 j)))), q, by unfold s_line; rw [t_two_3 h1 h2]; dsimp only; rw [xa, yb, if_pos hv, h5], u5, ⟨rB_fr hB5 (fun j j1 j2 _ _ => c9 37 j (by omega)), LL_line hB5.2.1 hL5 ha hb hz hv xa yb ⟨xn t, by omega, et⟩⟩, (c9 36 8 (by omega)).trans ha5, (c9 36 9 (by omega)).trans hfa5⟩⟩
            show ((Nat.beq 37 36 && _) || (Nat.beq 37 37 && (_ || (Nat.ble 10 (20 + rln e.2.1.1 e.2.1.2.1 e.2.1.2.2 a b z) && Nat.ble (20 + rln e.2.1.1 e.2.1.2.1 e.2.1.2.2 a b z) 43)))) = true
            rw [Nat.ble_eq_true_of_le (show 10 ≤ 20 + rln e.2.1.1 e.2.1.2.1 e.2.1.2.2 a b z by omega), Nat.ble_eq_true_of_le (show 20 + rln e.2.1.1 e.2.1.2.1 e.2.1.2.2 a b z ≤ 43 by omega)]
            rw [Bool.and_self, Bool.or_true]
            rfl
          · refine hK _ _ _ _ (hK _ _ _ _ (hK _ _ _ _ (hK _ _ _ _ (hK _ _ _ _ ⟨fun _ => ?_, fun q => absurd q hfa5⟩))))
            exact hK _ _ _ _ ⟨rfl, P36_L (fr_t hf3 hf5), Or.inr ⟨by unfold s_line; rw [t_two_3 h1 h2]; dsimp only; rw [xa, yb, if_pos hv, h5], hfa5, q5, hq5, ha5⟩⟩
        · refine hK _ _ _ _ ?_
          refine nol ?_
          unfold s_line
          rw [t_two_3 h1 h2]
          dsimp only
          rw [xa, yb, hv]
          rfl
      · refine hK _ _ _ _ ?_
        refine nol ?_
        unfold s_line
        rw [t_two_3 h1 h2]
        dsimp only
        rw [if_neg]
        intro hv
        unfold xlv at hv
        rw [Bool.and_eq_true, Bool.and_eq_true] at hv
        apply hno
        rw [x1, y1]
        exact ⟨(hI_le (a := 0) (by decide) (by omega)).mpr (Nat.zero_le _), (hI_le (by omega) (by omega)).mpr (Nat.le_of_ble_eq_true hv.1.1), (hI_le (a := 0) (by decide) (by omega)).mpr (Nat.zero_le _), (hI_le (by omega) (by omega)).mpr (Nat.le_of_ble_eq_true hv.1.2)⟩
    · refine hK _ _ _ _ ?_
      exact bd _ _ M2 (fr_t hf1 hf2) hfa2 ⟨q2, hq2, ha2⟩ (t_two_2 h1 h2)
  · refine hK _ _ _ _ (hK _ _ _ _ (hK _ _ _ _ (hK _ _ _ _ (hK _ _ _ _ ⟨_, t_fig0 hfa1, rfl, fun v2 M2 g2 => ?_⟩))))
    obtain ⟨rfl, rfl⟩ := g2
    refine hK _ _ _ _ ?_
    exact bd _ _ M1 hf1 hfa1 ⟨q1, hq1, ha1⟩ (t_two_1 h1)
set_option maxRecDepth 10000 in
theorem r_boardLine {nS d n p : Nat} {M : aM} {e : xB} (hM : MS M n p e) : aC nS (d + 9) 209 [vR 36 0] M (fun v M' => v = none ∧ fr PLx M M' ∧ MR n (t_part (M.1 40 0) n e p) M') (fun _ _ => False) := by
  obtain ⟨hfa, hn, h4, hp, pn, hB⟩ := hM
  have sn : t_sk (M.1 40 0) n p ≤ n := t_go_le pn
  have sp : t_sk (M.1 40 0) n (t_sk (M.1 40 0) n p) = t_sk (M.1 40 0) n p := t_go_id pn
  have s2 : t_go (t_az (M.1 40 0)) n (t_sk (M.1 40 0) n p) ≤ n := t_go_le sn
  refine aC_mk rfl rfl ?_
  intro K hK _
  have wd : ∀ (M1 : aM) {ks : Nat} {bs : List Nat}, fr P8 M M1 → (M1.1 36 0 8 = Int32.ofNat p ∨ M1.1 36 0 8 = Int32.ofNat (t_sk (M.1 40 0) n p)) → a_stx ks = some bs → bs.length < 1000 → aC nS (d + 8) 204 [vR 36 0, vR ks 0] M1 (fun v M' => fr P8 M M' ∧ ((t_wd (M.1 40 0) n p bs = true ∧ v = some (vI 1) ∧ MS M' n (t_go (t_az (M.1 40 0)) n (t_sk (M.1 40 0) n p)) e) ∨ (t_wd (M.1 40 0) n p bs = false ∧ v = some (vI 0) ∧ M'.1 36 0 8 = Int32.ofNat (t_sk (M.1 40 0) n p)))) (fun _ _ => False) := by
    intro M1 ks bs hf1 ha hk hl
    have er : M1.1 40 0 = M.1 40 0 := by
      funext j
      exact hf1.1 40 0 j rfl
    have hn1 : M1.1 36 0 7 = Int32.ofNat n := (hf1.1 36 0 7 rfl).trans hn
    have fin : ∀ p1, p1 ≤ n → M1.1 36 0 8 = Int32.ofNat p1 → t_sk (M.1 40 0) n p1 = t_sk (M.1 40 0) n p → aC nS (d + 8) 204 [vR 36 0, vR ks 0] M1 (fun v M' => fr P8 M M' ∧ ((t_wd (M.1 40 0) n p bs = true ∧ v = some (vI 1) ∧ MS M' n (t_go (t_az (M.1 40 0)) n (t_sk (M.1 40 0) n p)) e) ∨ (t_wd (M.1 40 0) n p bs = false ∧ v = some (vI 0) ∧ M'.1 36 0 8 = Int32.ofNat (t_sk (M.1 40 0) n p)))) (fun _ _ => False) := by
      intro p1 hp1 ha1 hsk
      refine aC_post (t_has hk hl hn1 h4 ha1 hp1) (fun v M' hv => ?_) (fun _ _ z => z)
      have hw : t_wd (M.1 40 0) n p1 bs = t_wd (M.1 40 0) n p bs := by
        unfold t_wd
        rw [hsk]
      rw [er, hw, hsk] at hv
      obtain ⟨hf2, hv⟩ := hv
      have hf3 := fr_t hf1 hf2
      refine ⟨hf3, ?_⟩
      rcases hv with ⟨a1, a2, a3⟩ | hv
      · exact Or.inl ⟨a1, a2, (hf3.1 36 0 9 rfl).trans hfa, (hf3.1 36 0 7 rfl).trans hn, h4, a3, s2, rBL_fr hB (fun j _ _ _ _ => hf3.1 37 0 j rfl)⟩
      · exact Or.inr hv
    rcases ha with ha | ha
    · exact fin p pn ha rfl
    · exact fin _ sn ha sp
  refine hK _ _ _ _ (hK _ _ _ _ (hK _ _ _ _ ⟨_, wd M (bs := tw_group) fr_r (Or.inl hp) rfl (by decide), rfl, fun v0 M0 g0 => ?_⟩))
  obtain ⟨hf0, hw0⟩ := g0
  rcases hw0 with ⟨hw0, rfl, hMS⟩ | ⟨hw0, rfl, ha0⟩
  · refine hK _ _ _ _ ⟨fun q => absurd q (by decide), fun _ => ?_⟩
    have er : M0.1 40 0 = M.1 40 0 := PLx_row (P36_L (P8_w hf0))
    have et : t_part (M.1 40 0) n e p = s_group (M.1 40 0) n e (t_go (t_az (M.1 40 0)) n (t_sk (M.1 40 0) n p)) := by
      unfold t_part
      rw [if_pos hw0]
    refine r_group (post := fun v M' => v = none ∧ fr PLx M M' ∧ MR n (t_part (M.1 40 0) n e p) M') (px := fun _ _ => False) (d := d) hK hMS (fun M9 hf9 hr9 => ⟨rfl, fr_t (P36_L (P8_w hf0)) hf9, ?_⟩)
    rw [er, ← et] at hr9
    exact hr9
  · refine hK _ _ _ _ ⟨fun _ => ?_, fun q => absurd rfl q⟩
    refine hK _ _ _ _ (hK _ _ _ _ (hK _ _ _ _ ⟨_, wd M0 (bs := tw_size) hf0 (Or.inr ha0) rfl (by decide), rfl, fun v1 M1 g1 => ?_⟩))
    obtain ⟨hf1, hw1⟩ := g1
    rcases hw1 with ⟨hw1, rfl, hMS⟩ | ⟨hw1, rfl, ha1⟩
    · refine hK _ _ _ _ ⟨fun q => absurd q (by decide), fun _ => ?_⟩
      have er : M1.1 40 0 = M.1 40 0 := PLx_row (P36_L (P8_w hf1))
      have et : t_part (M.1 40 0) n e p = s_size (M.1 40 0) n e (t_go (t_az (M.1 40 0)) n (t_sk (M.1 40 0) n p)) := by
        unfold t_part
        rw [if_neg (by rw [hw0]; decide)]
        rw [if_pos hw1]
      refine r_size (post := fun v M' => v = none ∧ fr PLx M M' ∧ MR n (t_part (M.1 40 0) n e p) M') (px := fun _ _ => False) (d := d) hK hMS (fun M9 hf9 hr9 => ⟨rfl, fr_t (P36_L (P8_w hf1)) hf9, ?_⟩)
      rw [er, ← et] at hr9
      exact hr9
    · refine hK _ _ _ _ ⟨fun _ => ?_, fun q => absurd rfl q⟩
      refine hK _ _ _ _ (hK _ _ _ _ (hK _ _ _ _ ⟨_, wd M1 (bs := tw_shape) hf1 (Or.inr ha1) rfl (by decide), rfl, fun v2 M2 g2 => ?_⟩))
      obtain ⟨hf2, hw2⟩ := g2
      rcases hw2 with ⟨hw2, rfl, hMS⟩ | ⟨hw2, rfl, ha2⟩
      · refine hK _ _ _ _ ⟨fun q => absurd q (by decide), fun _ => ?_⟩
        have er : M2.1 40 0 = M.1 40 0 := PLx_row (P36_L (P8_w hf2))
        have et : t_part (M.1 40 0) n e p = s_shape (M.1 40 0) n e (t_go (t_az (M.1 40 0)) n (t_sk (M.1 40 0) n p)) := by
          unfold t_part
          rw [if_neg (by rw [hw0]; decide)]
          rw [if_neg (by rw [hw1]; decide)]
          rw [if_pos hw2]
        refine r_shape (post := fun v M' => v = none ∧ fr PLx M M' ∧ MR n (t_part (M.1 40 0) n e p) M') (px := fun _ _ => False) (d := d) hK hMS (fun M9 hf9 hr9 => ⟨rfl, fr_t (P36_L (P8_w hf2)) hf9, ?_⟩)
        rw [er, ← et] at hr9
        exact hr9
      · refine hK _ _ _ _ ⟨fun _ => ?_, fun q => absurd rfl q⟩
        refine hK _ _ _ _ (hK _ _ _ _ (hK _ _ _ _ ⟨_, wd M2 (bs := tw_weight) hf2 (Or.inr ha2) rfl (by decide), rfl, fun v3 M3 g3 => ?_⟩))
        obtain ⟨hf3, hw3⟩ := g3
        rcases hw3 with ⟨hw3, rfl, hMS⟩ | ⟨hw3, rfl, ha3⟩
        · refine hK _ _ _ _ ⟨fun q => absurd q (by decide), fun _ => ?_⟩
          have er : M3.1 40 0 = M.1 40 0 := PLx_row (P36_L (P8_w hf3))
          have et : t_part (M.1 40 0) n e p = s_weight (M.1 40 0) n e (t_go (t_az (M.1 40 0)) n (t_sk (M.1 40 0) n p)) := by
            unfold t_part
            rw [if_neg (by rw [hw0]; decide)]
            rw [if_neg (by rw [hw1]; decide)]
            rw [if_neg (by rw [hw2]; decide)]
            rw [if_pos hw3]
          refine r_weight (post := fun v M' => v = none ∧ fr PLx M M' ∧ MR n (t_part (M.1 40 0) n e p) M') (px := fun _ _ => False) (d := d) hK hMS (fun M9 hf9 hr9 => ⟨rfl, fr_t (P36_L (P8_w hf3)) hf9, ?_⟩)
          rw [er, ← et] at hr9
          exact hr9
        · refine hK _ _ _ _ ⟨fun _ => ?_, fun q => absurd rfl q⟩
          refine hK _ _ _ _ (hK _ _ _ _ (hK _ _ _ _ ⟨_, wd M3 (bs := tw_hole) hf3 (Or.inr ha3) rfl (by decide), rfl, fun v4 M4 g4 => ?_⟩))
          obtain ⟨hf4, hw4⟩ := g4
          rcases hw4 with ⟨hw4, rfl, hMS⟩ | ⟨hw4, rfl, ha4⟩
          · refine hK _ _ _ _ ⟨fun q => absurd q (by decide), fun _ => ?_⟩
            have er : M4.1 40 0 = M.1 40 0 := PLx_row (P36_L (P8_w hf4))
            have et : t_part (M.1 40 0) n e p = s_hole (M.1 40 0) n e (t_go (t_az (M.1 40 0)) n (t_sk (M.1 40 0) n p)) := by
              unfold t_part
              rw [if_neg (by rw [hw0]; decide)]
              rw [if_neg (by rw [hw1]; decide)]
              rw [if_neg (by rw [hw2]; decide)]
              rw [if_neg (by rw [hw3]; decide)]
              rw [if_pos hw4]
            refine r_hole (post := fun v M' => v = none ∧ fr PLx M M' ∧ MR n (t_part (M.1 40 0) n e p) M') (px := fun _ _ => False) (d := d) hK hMS (fun M9 hf9 hr9 => ⟨rfl, fr_t (P36_L (P8_w hf4)) hf9, ?_⟩)
            rw [er, ← et] at hr9
            exact hr9
          · refine hK _ _ _ _ ⟨fun _ => ?_, fun q => absurd rfl q⟩
            refine hK _ _ _ _ (hK _ _ _ _ (hK _ _ _ _ ⟨_, wd M4 (bs := tw_east) hf4 (Or.inr ha4) rfl (by decide), rfl, fun v5 M5 g5 => ?_⟩))
            obtain ⟨hf5, hw5⟩ := g5
            rcases hw5 with ⟨hw5, rfl, hMS⟩ | ⟨hw5, rfl, ha5⟩
            · refine hK _ _ _ _ ⟨fun q => absurd q (by decide), fun _ => ?_⟩
              have er : M5.1 40 0 = M.1 40 0 := PLx_row (P36_L (P8_w hf5))
              have et : t_part (M.1 40 0) n e p = s_line 0 (M.1 40 0) n e (t_go (t_az (M.1 40 0)) n (t_sk (M.1 40 0) n p)) := by
                unfold t_part
                rw [if_neg (by rw [hw0]; decide)]
                rw [if_neg (by rw [hw1]; decide)]
                rw [if_neg (by rw [hw2]; decide)]
                rw [if_neg (by rw [hw3]; decide)]
                rw [if_neg (by rw [hw4]; decide)]
                rw [if_pos hw5]
              refine hK _ _ _ _ (hK _ _ _ _ (hK _ _ _ _ ⟨_, r_lineTold (z := 0) (by decide) rfl hMS, rfl, fun v9 M9 g9 => ?_⟩))
              obtain ⟨rfl, hf9, hr9⟩ := g9
              rw [er, ← et] at hr9
              exact hK _ _ _ _ (hK _ _ _ _ ⟨rfl, fr_t (P36_L (P8_w hf5)) hf9, hr9⟩)
            · refine hK _ _ _ _ ⟨fun _ => ?_, fun q => absurd rfl q⟩
              refine hK _ _ _ _ (hK _ _ _ _ (hK _ _ _ _ ⟨_, wd M5 (bs := tw_north) hf5 (Or.inr ha5) rfl (by decide), rfl, fun v6 M6 g6 => ?_⟩))
              obtain ⟨hf6, hw6⟩ := g6
              rcases hw6 with ⟨hw6, rfl, hMS⟩ | ⟨hw6, rfl, ha6⟩
              · refine hK _ _ _ _ ⟨fun q => absurd q (by decide), fun _ => ?_⟩
                have er : M6.1 40 0 = M.1 40 0 := PLx_row (P36_L (P8_w hf6))
                have et : t_part (M.1 40 0) n e p = s_line 1 (M.1 40 0) n e (t_go (t_az (M.1 40 0)) n (t_sk (M.1 40 0) n p)) := by
                  unfold t_part
                  rw [if_neg (by rw [hw0]; decide)]
                  rw [if_neg (by rw [hw1]; decide)]
                  rw [if_neg (by rw [hw2]; decide)]
                  rw [if_neg (by rw [hw3]; decide)]
                  rw [if_neg (by rw [hw4]; decide)]
                  rw [if_neg (by rw [hw5]; decide)]
                  rw [if_pos hw6]
                refine hK _ _ _ _ (hK _ _ _ _ (hK _ _ _ _ ⟨_, r_lineTold (z := 1) (by decide) rfl hMS, rfl, fun v9 M9 g9 => ?_⟩))
                obtain ⟨rfl, hf9, hr9⟩ := g9
                rw [er, ← et] at hr9
                exact hK _ _ _ _ (hK _ _ _ _ ⟨rfl, fr_t (P36_L (P8_w hf6)) hf9, hr9⟩)
              · refine hK _ _ _ _ ⟨fun _ => ?_, fun q => absurd rfl q⟩
                refine hK _ _ _ _ (hK _ _ _ _ (hK _ _ _ _ (hK _ _ _ _ ⟨_, t_wrong ((hf6.1 36 0 9 rfl).trans hfa), rfl, fun v9 M9 g9 => ?_⟩)))
                obtain ⟨rfl, hf9, hb9, hw9⟩ := g9
                rw [ha6] at hw9
                refine hK _ _ _ _ ⟨rfl, fr_t (P36_L (P8_w hf6)) (P36_L hf9), Or.inr ⟨?_, by rw [hw9]; exact x_m1 (by omega), _, sn, hb9.trans ha6⟩⟩
                unfold t_part
                rw [if_neg (by rw [hw0]; decide)]
                rw [if_neg (by rw [hw1]; decide)]
                rw [if_neg (by rw [hw2]; decide)]
                rw [if_neg (by rw [hw3]; decide)]
                rw [if_neg (by rw [hw4]; decide)]
                rw [if_neg (by rw [hw5]; decide)]
                rw [if_neg (by rw [hw6]; decide)]
