/-- weights one by one: together; the turn that is drawn -/
def sw (W : Nat → Nat) : Nat → Nat
  | 0 => 0
  | n + 1 => sw W n + W n
def dtf (W : Nat → Nat) : Nat → Nat → Nat → Nat
  | 0, _, t => t
  | f + 1, d, t => bif Nat.blt d (W t) then t else dtf W f (d - W t) (t + 1)
theorem sw_le {W : Nat → Nat} : ∀ n, (∀ t, t < n → W t ≤ 9) → sw W n ≤ 9 * n
  | 0, _ => Nat.le_refl _
  | n + 1, h => by
    show sw W n + W n ≤ 9 * (n + 1)
    have := sw_le n (fun t ht => h t (by omega))
    have := h n (by omega)
    omega
theorem sw_e {W V : Nat → Nat} : ∀ n, (∀ t, t < n → W t = V t) → sw W n = sw V n
  | 0, _ => rfl
  | n + 1, h => by
    show sw W n + W n = sw V n + V n
    rw [sw_e n (fun t ht => h t (by omega)), h n (by omega)]
theorem sw_1 {W : Nat → Nat} : ∀ n, (∀ t, t < n → W t = 1) → sw W n = n
  | 0, _ => rfl
  | n + 1, h => by
    show sw W n + W n = n + 1
    rw [sw_1 n (fun t ht => h t (by omega)), h n (by omega)]
theorem dtf_lt {W : Nat → Nat} {o : Nat} : ∀ f d t, t + f = o → sw W t + d < sw W o → dtf W f d t < o
  | 0, d, t, h, hd => by
    rw [show o = t by omega] at hd
    omega
  | f + 1, d, t, h, hd => by
    show (bif Nat.blt d (W t) then t else dtf W f (d - W t) (t + 1)) < o
    cases hb : Nat.blt d (W t) with
    | true => rw [cond_true]; omega
    | false =>
      rw [cond_false]
      have hn : ¬ d < W t := fun z => by rw [x_blt z] at hb; cases hb
      refine dtf_lt f _ _ (by omega) ?_
      show sw W t + W t + (d - W t) < sw W o
      omega
def dbits (z : Int32) : Int32 := (z.toUInt32 >>> ((16 : Int32).toUInt32 &&& Int32.toUInt32 31)).toInt32 &&& 32767
theorem dbits_n (z : Int32) : dbits z = Int32.ofNat (xn (dbits z)) ∧ xn (dbits z) < 32768 := by
  have h : z_i (2147483648, 2147516415) (dbits z) := z_and1 (by decide) (by decide +kernel)
  obtain ⟨t, ht, e⟩ := x_rng (m := 32767) (by decide) h
  rw [e, show xn (Int32.ofNat t) = t from x_cl rfl (by omega)]
  exact ⟨rfl, by omega⟩
def dW (e : xB) (s t : Nat) : Nat := xn (wi e s t)
def dV (e : xB) (t : Nat) : Nat := xn (e.2.2.1 t)
def dtot (e : xB) (s : Nat) : Nat := if e.2.2.2.1 s = 1 then e.1.2 else sw (dV e) e.1.2
def dt (e : xB) (x y : Nat) (z : Int32) : Nat := dtf (dW e (y * 4 + x)) e.1.2 (xn (dbits z) % dtot e (y * 4 + x)) 0
def dsq (e : xB) (x y : Nat) (a : (Nat → Nat) × Int32) : (Nat → Nat) × Int32 := (fun l => if l = xln e.2.1.1 e.2.1.2.1 e.2.1.2.2 x (y + 1) 0 then rt e.1.1 e.1.2 (ag e.1.1 e.1.2 (dt e x y (1103515245 * a.2 + 12345))) (a.1 (xln e.2.1.1 e.2.1.2.1 e.2.1.2.2 x y 0)) else a.1 l, 1103515245 * a.2 + 12345)
def dsx (e : xB) (y : Nat) : Nat → (Nat → Nat) × Int32 → (Nat → Nat) × Int32
  | 0, a => a
  | x + 1, a => dsq e x y (dsx e y x a)
def dsy (e : xB) (seed : Int32) : Nat → (Nat → Nat) × Int32
  | 0 => (fun _ => 0, seed)
  | y + 1 => dsx e y e.2.1.1 (dsy e seed y)
/-- weights that there are -/
def wOK (e : xB) : Prop := ∀ t, t < 8 → e.2.2.1 t = Int32.ofNat (dV e t) ∧ dV e t ≤ 9
theorem wi_n {e : xB} {s t : Nat} (hw : wOK e) (ht : t < 8) : wi e s t = Int32.ofNat (dW e s t) ∧ dW e s t ≤ 9 := by
  unfold dW wi
  by_cases h : e.2.2.2.1 s = 1
  · rw [if_pos h]
    exact ⟨rfl, by decide⟩
  · rw [if_neg h]
    exact hw t ht
theorem dtot_e {e : xB} {s : Nat} : dtot e s = sw (dW e s) e.1.2 := by
  unfold dtot
  by_cases h : e.2.2.2.1 s = 1
  · rw [if_pos h]
    refine (sw_1 _ (fun t _ => ?_)).symm
    unfold dW wi
    rw [if_pos h]
    rfl
  · rw [if_neg h]
    refine sw_e _ (fun t _ => ?_)
    unfold dW wi dV
    rw [if_neg h]
theorem dtot_p {e : xB} {s : Nat} (o2 : 2 ≤ e.1.2) (hp : 0 < sw (dV e) e.1.2) : 0 < dtot e s := by
  unfold dtot
  by_cases h : e.2.2.2.1 s = 1
  · rw [if_pos h]
    omega
  · rw [if_neg h]
    exact hp
theorem dt_lt {e : xB} {x y : Nat} {z : Int32} (o2 : 2 ≤ e.1.2) (hp : 0 < sw (dV e) e.1.2) : dt e x y z < e.1.2 := by
  refine dtf_lt _ _ 0 (Nat.zero_add _) ?_
  show 0 + _ < _
  rw [← dtot_e, Nat.zero_add]
  exact Nat.mod_lt _ (dtot_p o2 hp)
theorem dsx_lt {e : xB} {y : Nat} {a : (Nat → Nat) × Int32} (hq : e.1 ∈ gP) (hp : 0 < sw (dV e) e.1.2) (ha : ∀ l, a.1 l < e.1.2) : ∀ x l, (dsx e y x a).1 l < e.1.2
  | 0, l => ha l
  | x + 1, l => by
    obtain ⟨o2, o8, -⟩ := gP_o (k := e.1.1) (o := e.1.2) hq
    show (if l = xln e.2.1.1 e.2.1.2.1 e.2.1.2.2 x (y + 1) 0 then rt e.1.1 e.1.2 (ag e.1.1 e.1.2 (dt e x y (1103515245 * (dsx e y x a).2 + 12345))) ((dsx e y x a).1 (xln e.2.1.1 e.2.1.2.1 e.2.1.2.2 x y 0)) else (dsx e y x a).1 l) < e.1.2
    by_cases h : l = xln e.2.1.1 e.2.1.2.1 e.2.1.2.2 x (y + 1) 0
    · rw [if_pos h]
      exact rt_lt hq (ag_lt hq (dt_lt o2 hp)) (dsx_lt hq hp ha x _)
    · rw [if_neg h]
      exact dsx_lt hq hp ha x l
theorem dsy_lt {e : xB} {seed : Int32} (hq : e.1 ∈ gP) (hp : 0 < sw (dV e) e.1.2) : ∀ y l, (dsy e seed y).1 l < e.1.2
  | 0, l => by
    obtain ⟨o2, o8, -⟩ := gP_o (k := e.1.1) (o := e.1.2) hq
    show 0 < e.1.2
    omega
  | y + 1, l => dsx_lt hq hp (dsy_lt hq hp y) _ l
/-- the board with the lines that are drawn -/
def dE (e : xB) (seed : Int32) : xB := (e.1, (e.2.1, (e.2.2.1, (e.2.2.2.1, fun l => Int32.ofNat ((dsy e seed e.2.1.2.1).1 l)))))
theorem b_wsum {nS d : Nat} {M : aM} {e : xB} (hB : cB 0 M e) (hw : wOK e) : aC nS (d + 3) 34 [vR 4 0] M (fun v M' => v = some (vI (Int32.ofNat (sw (dV e) e.1.2))) ∧ M = M') (fun _ _ => False) := by
  obtain ⟨ho, o2, o8, hS, w1, w3, h1, h3, s2⟩ := cB_h hB
  refine aC_mk rfl rfl ?_
  intro K hK _
  have lp : ∀ (m t : Nat) (A z : Int32), e.1.2 - t = m → t ≤ e.1.2 → A = Int32.ofNat (sw (dV e) t) → z = Int32.ofNat t → K 4 [some (vR 4 0), some (vI A), some (vI z)] [] M := by
    intro m
    induction m with
    | zero =>
      intro t A z hm ht hA hz
      subst hA
      subst hz
      refine hK _ _ _ _ (hK _ _ _ _ (hK _ _ _ _ (hK _ _ _ _ (⟨_, b_order, rfl, fun v9 M9 g9 => ?_⟩))))
      obtain ⟨rfl, rfl⟩ := g9
      rw [ho]
      refine hK _ _ _ _ (⟨fun h => ?_, fun h => ?_⟩)
      · exact hK _ _ _ _ (hK _ _ _ _ (⟨by rw [show t = e.1.2 by omega], rfl⟩))
      · exact absurd (x_nge (x := t) (y := e.1.2) rfl rfl (by omega) (by omega) h) (by omega)
    | succ m ih =>
      intro t A z hm ht hA hz
      subst hA
      subst hz
      refine hK _ _ _ _ (hK _ _ _ _ (hK _ _ _ _ (hK _ _ _ _ (⟨_, b_order, rfl, fun v9 M9 g9 => ?_⟩))))
      obtain ⟨rfl, rfl⟩ := g9
      rw [ho]
      refine hK _ _ _ _ (⟨fun h => ?_, fun h => ?_⟩)
      · exact absurd (x_ge (x := t) (y := e.1.2) rfl rfl (by omega) (by omega) h) (by omega)
      · refine hK _ _ _ _ (hK _ _ _ _ (hK _ _ _ _ (hK _ _ _ _ (⟨_, b_weight (d := d) (show t < 8 by omega), rfl, fun v18 M18 g18 => ?_⟩))))
        obtain ⟨rfl, rfl⟩ := g18
        rw [hB.2.2.2.1 t (by omega), (hw t (by omega)).1]
        refine hK _ _ _ _ (hK _ _ _ _ (hK _ _ _ _ (hK _ _ _ _ (?_))))
        exact ih (t + 1) _ _ (by omega) (by omega) hI_ad hI_s
  refine hK _ _ _ _ (hK _ _ _ _ (hK _ _ _ _ (hK _ _ _ _ (?_))))
  exact lp _ 0 _ _ rfl (Nat.zero_le _) rfl rfl
theorem b_drawn {nS d s : Nat} {M : aM} {e : xB} {q b : Int32} (hB : cB 0 M e) (hw : wOK e) (hp : 0 < sw (dV e) e.1.2) (hq : q = Int32.ofNat s) (hs : s < 16) (hb : b = Int32.ofNat (xn b)) (hb2 : xn b < 32768) : aC nS (d + 4) 42 [vR 4 0, vI q, vI b] M (fun v M' => v = some (vI (Int32.ofNat (dtf (dW e s) e.1.2 (xn b % dtot e s) 0))) ∧ M = M') (fun _ _ => False) := by
  subst hq
  obtain ⟨ho, o2, o8, hS, w1, w3, h1, h3, s2⟩ := cB_h hB
  have tp : 0 < dtot e s := dtot_p o2 hp
  have tl : dtot e s < 1000 := by
    rw [dtot_e]
    have := sw_le (W := dW e s) e.1.2 (fun t ht => (wi_n hw (by omega)).2)
    omega
  refine aC_mk rfl rfl ?_
  intro K hK _
  have lp : ∀ (m t lf : Nat) (A z l3 : Int32), e.1.2 - t = m → t ≤ e.1.2 → lf < 32768 → A = Int32.ofNat lf → z = Int32.ofNat t → dtf (dW e s) e.1.2 (xn b % dtot e s) 0 = dtf (dW e s) m lf t → K 40 [some (vR 4 0), some (vI (Int32.ofNat s)), some (vI b), some (vI l3), some (vI A), some (vI z)] [] M := by
    intro m
    induction m with
    | zero =>
      intro t lf A z l3 hm ht hlf hA hz hd
      subst hA
      subst hz
      refine hK _ _ _ _ (hK _ _ _ _ (hK _ _ _ _ (hK _ _ _ _ (⟨_, b_order, rfl, fun v46 M46 g46 => ?_⟩))))
      obtain ⟨rfl, rfl⟩ := g46
      rw [ho]
      refine hK _ _ _ _ (⟨fun h => ?_, fun h => ?_⟩)
      · exact hK _ _ _ _ (hK _ _ _ _ (⟨by rw [hd]; rfl, rfl⟩))
      · exact absurd (x_nge (x := t) (y := e.1.2) rfl rfl (by omega) (by omega) h) (by omega)
    | succ m ih =>
      intro t lf A z l3 hm ht hlf hA hz hd
      subst hA
      subst hz
      have hd2 : dtf (dW e s) e.1.2 (xn b % dtot e s) 0 = bif Nat.blt lf (dW e s t) then t else dtf (dW e s) m (lf - dW e s t) (t + 1) := hd
      obtain ⟨ew, w9⟩ := wi_n (s := s) hw (show t < 8 by omega)
      refine hK _ _ _ _ (hK _ _ _ _ (hK _ _ _ _ (hK _ _ _ _ (⟨_, b_order, rfl, fun v46 M46 g46 => ?_⟩))))
      obtain ⟨rfl, rfl⟩ := g46
      rw [ho]
      refine hK _ _ _ _ (⟨fun h => ?_, fun h => ?_⟩)
      · exact absurd (x_ge (x := t) (y := e.1.2) rfl rfl (by omega) (by omega) h) (by omega)
      · refine hK _ _ _ _ (hK _ _ _ _ (hK _ _ _ _ (hK _ _ _ _ (hK _ _ _ _ (⟨_, b_weightIn (d := d) hB rfl hs rfl (show t < 8 by omega), rfl, fun v58 M58 g58 => ?_⟩)))))
        obtain ⟨rfl, rfl⟩ := g58
        rw [ew]
        refine hK _ _ _ _ (⟨fun h => ?_, fun h => ?_⟩)
        · have h9 := x_lt (x := lf) (y := dW e s t) rfl rfl (by omega) (by omega) h
          rw [x_blt h9, cond_true] at hd2
          exact hK _ _ _ _ (hK _ _ _ _ (⟨by rw [hd2], rfl⟩))
        · have h9 := x_nlt (x := lf) (y := dW e s t) rfl rfl (by omega) (by omega) h
          rw [x_nblt (by omega), cond_false] at hd2
          refine hK _ _ _ _ (hK _ _ _ _ (hK _ _ _ _ (hK _ _ _ _ (hK _ _ _ _ (⟨_, b_weightIn (d := d) hB rfl hs rfl (show t < 8 by omega), rfl, fun v70 M70 g70 => ?_⟩)))))
          obtain ⟨rfl, rfl⟩ := g70
          rw [ew]
          refine hK _ _ _ _ (hK _ _ _ _ (hK _ _ _ _ (hK _ _ _ _ (?_))))
          exact ih (t + 1) (lf - dW e s t) _ _ _ (by omega) (by omega) (by omega) (x_sub h9 (by omega)) hI_s hd2
  have md : xn b % dtot e s < 32768 := Nat.lt_of_le_of_lt (Nat.mod_le _ _) hb2
  have fin : ∀ l3 : Int32, l3 = Int32.ofNat (dtot e s) → K 22 [some (vR 4 0), some (vI (Int32.ofNat s)), some (vI b), none, none, none] [vI l3] M := by
    intro l3 e3
    subst e3
    refine hK _ _ _ _ (hK _ _ _ _ (hK _ _ _ _ (hK _ _ _ _ (⟨fun h => ?_, fun h => ?_⟩))))
    · refine hK _ _ _ _ (hK _ _ _ _ (hK _ _ _ _ (⟨?_, ?_⟩)))
      · exact fun z => absurd (x_inj (x := dtot e s) (y := 0) (by omega) (by decide) z) (by omega)
      · refine hK _ _ _ _ (hK _ _ _ _ (hK _ _ _ _ (?_)))
        refine lp _ 0 (xn b % dtot e s) _ _ _ (Nat.sub_zero _) (Nat.zero_le _) md ?_ rfl rfl
        rw [hb, x_rem (by omega) (by omega), ← hb]
    · exact absurd (x_nge (x := dtot e s) (y := 1) rfl rfl (by omega) (by decide) h) (by omega)
  refine hK _ _ _ _ (hK _ _ _ _ (hK _ _ _ _ (⟨_, b_isHole (d := d + 1) rfl hs, rfl, fun v2 M2 g2 => ?_⟩)))
  obtain ⟨g2, rfl⟩ := g2
  rw [hB.2.2.2.2.1 s hs] at g2
  rcases g2 with ⟨hh, rfl⟩ | ⟨hh, rfl⟩
  · refine hK _ _ _ _ (⟨fun q => ?_, fun q => ?_⟩)
    · exact absurd q (by decide)
    · refine hK _ _ _ _ (hK _ _ _ _ (hK _ _ _ _ (⟨_, b_order, rfl, fun v12 M12 g12 => ?_⟩)))
      obtain ⟨rfl, rfl⟩ := g12
      rw [ho]
      refine hK _ _ _ _ (?_)
      exact fin _ (by unfold dtot; rw [if_pos hh])
  · refine hK _ _ _ _ (⟨fun q => ?_, fun q => ?_⟩)
    · refine hK _ _ _ _ (hK _ _ _ _ (⟨_, b_wsum (d := d) hB hw, rfl, fun v19 M19 g19 => ?_⟩))
      obtain ⟨rfl, rfl⟩ := g19
      exact fin _ (by unfold dtot; rw [if_neg hh])
    · exact absurd rfl q
theorem cB_d {M M1 : aM} {e : xB} {L : Nat → Int32} (hB : cB 0 M e) (hf : fr (PR 12 0) M M1) (hL : ∀ l, l < 32 → M1.1 12 0 l = L l) : cB 0 M1 (e.1, (e.2.1, (e.2.2.1, (e.2.2.2.1, L)))) := by
  obtain ⟨a1, a2, ⟨a3, a4, a5, a6, a7⟩, a8, a9, a10⟩ := hB
  have F : ∀ {q j : Nat}, ¬ q = 12 → M1.1 q 0 j = M.1 q 0 j := fun h => hf.1 _ 0 _ (PR_n h)
  exact ⟨gF_fr a1 (fun q j c d => F (by omega)), a2, ⟨(F (by decide)).trans a3, (F (by decide)).trans a4, (F (by decide)).trans a5, (F (by decide)).trans a6, (F (by decide)).trans a7⟩, fun t ht => (F (by decide)).trans (a8 t ht), fun j hj => (F (by decide)).trans (a9 j hj), hL⟩
theorem b_drawTurns {nS d : Nat} {M : aM} {e : xB} {seed : Int32} (hB : cB 0 M e) (hw : wOK e) (hp : 0 < sw (dV e) e.1.2) : aC nS (d + 5) 41 [vR 4 0, vI seed] M (fun v M' => v = none ∧ fr (PR 12 0) M M' ∧ ∀ l, l < 32 → M'.1 12 0 l = Int32.ofNat ((dsy e seed e.2.1.2.1).1 l)) (fun _ _ => False) := by
  obtain ⟨ho, o2, o8, hS0, w1, w3, h1, h3, s2⟩ := cB_h hB
  have hgq : (e.1.1, e.1.2) ∈ gP := hB.1.1.1
  refine aC_mk rfl rfl ?_
  intro K hK _
  have xl : ∀ (y : Nat) (D : (Nat → Nat) × Int32), (∀ l, D.1 l < e.1.2) → y < e.2.1.2.1 → (∀ (M1 : aM) (z : Int32) l4 l5 l6 l7, fr (PR 12 0) M M1 → (∀ l, l < 32 → M1.1 12 0 l = Int32.ofNat ((dsx e y e.2.1.1 D).1 l)) → z = (dsx e y e.2.1.1 D).2 → K 114 [some (vR 4 0), some (vI seed), some (vI z), some (vI (Int32.ofNat y)), l4, l5, l6, l7] [] M1) → ∀ (m x : Nat) (z z2 : Int32) (M1 : aM) (l5 l6 l7 : Option aV), e.2.1.1 - x = m → x ≤ e.2.1.1 → z2 = Int32.ofNat x → fr (PR 12 0) M M1 → (∀ l, l < 32 → M1.1 12 0 l = Int32.ofNat ((dsx e y x D).1 l)) → z = (dsx e y x D).2 → K 23 [some (vR 4 0), some (vI seed), some (vI z), some (vI (Int32.ofNat y)), some (vI z2), l5, l6, l7] [] M1 := by
    intro y D hD hy out m
    induction m with
    | zero =>
      intro x z z2 M1 l5 l6 l7 hm hx hz2 hf hC hz
      subst hz2
      have hS : cS 0 M1 e.2.1.1 e.2.1.2.1 e.2.1.2.2 := (cB_d hB hf hC).2.2.1
      refine hK _ _ _ _ (hK _ _ _ _ (hK _ _ _ _ (hK _ _ _ _ (⟨fun h => ?_, fun h => ?_⟩))))
      · have ex : x = e.2.1.1 := by omega
        subst ex
        exact out _ _ _ _ _ _ hf hC hz
      · exfalso
        rw [hS.1] at h
        exact absurd (x_nge (x := x) (y := e.2.1.1) rfl rfl (by omega) (by omega) h) (by omega)
    | succ m ih =>
      intro x z z2 M1 l5 l6 l7 hm hx hz2 hf hC hz
      subst hz2
      have hB1 := cB_d hB hf hC
      have hS : cS 0 M1 e.2.1.1 e.2.1.2.1 e.2.1.2.2 := hB1.2.2.1
      have hxw : x < e.2.1.1 := by omega
      refine hK _ _ _ _ (hK _ _ _ _ (hK _ _ _ _ (hK _ _ _ _ (⟨fun h => ?_, fun h => ?_⟩))))
      · exfalso
        rw [hS.1] at h
        exact absurd (x_ge (x := x) (y := e.2.1.1) rfl rfl (by omega) (by omega) h) (by omega)
      · refine hK _ _ _ _ (hK _ _ _ _ (hK _ _ _ _ (hK _ _ _ _ (hK _ _ _ _ (hK _ _ _ _ (hK _ _ _ _ (hK _ _ _ _ (hK _ _ _ _ (hK _ _ _ _ (⟨_, b_squareAt (d := d + 3) hS w3 h3, rfl, fun v45 M45 g45 => ?_⟩))))))))))
        obtain ⟨g45, rfl⟩ := g45
        rcases g45 with ⟨x9, y9, hx9, hy9, ex, ey, rfl⟩ | ⟨no, -⟩
        case inr => exact absurd ⟨x, y, hxw, hy, rfl, rfl⟩ no
        have ex := x_inj (by omega) (by omega) ex
        have ey := x_inj (by omega) (by omega) ey
        subst ex
        subst ey
        refine hK _ _ _ _ (hK _ _ _ _ (hK _ _ _ _ (hK _ _ _ _ (hK _ _ _ _ (hK _ _ _ _ (hK _ _ _ _ (hK _ _ _ _ (hK _ _ _ _ (⟨_, b_drawn (d := d) (b := dbits (1103515245 * z + 12345)) hB1 (fun t ht => hw t ht) hp rfl (show y * 4 + x < 16 by omega) (dbits_n _).1 (dbits_n _).2, rfl, fun v61 M61 g61 => ?_⟩)))))))))
        obtain ⟨rfl, rfl⟩ := g61
        refine hK _ _ _ _ (hK _ _ _ _ (hK _ _ _ _ (hK _ _ _ _ (hK _ _ _ _ (hK _ _ _ _ (⟨_, b_side0 (d := d) hS w1 w3 h1 h3 s2 hxw hy rfl rfl, rfl, fun v71 M71 g71 => ?_⟩))))))
        obtain ⟨rfl, rfl⟩ := g71
        refine hK _ _ _ _ (⟨_, b_turnOn (d := d + 2) rfl (xln_lt (s := e.2.1.2.2) (n := 0) w1 w3 h1 h3 (Nat.le_of_lt hxw) (Nat.le_of_lt hy) (by decide)), rfl, fun v74 M74 g74 => ?_⟩)
        obtain ⟨rfl, rfl⟩ := g74
        refine hK _ _ _ _ (hK _ _ _ _ (hK _ _ _ _ (hK _ _ _ _ (hK _ _ _ _ (hK _ _ _ _ (⟨_, b_side2 (d := d) hS w1 w3 h1 h3 s2 hxw hy rfl rfl, rfl, fun v84 M84 g84 => ?_⟩))))))
        obtain ⟨rfl, rfl⟩ := g84
        have tl : dt e x y (1103515245 * z + 12345) < e.1.2 := dt_lt o2 hp
        have bl := xln_lt (s := e.2.1.2.2) (n := 0) w1 w3 h1 h3 (Nat.le_of_lt hxw) (Nat.le_of_lt hy) (by decide)
        have al := xln_lt (s := e.2.1.2.2) (n := 0) w1 w3 h1 h3 (Nat.le_of_lt hxw) hy (by decide)
        rw [hC _ bl]
        refine hK _ _ _ _ (hK _ _ _ _ (hK _ _ _ _ (hK _ _ _ _ (hK _ _ _ _ (hK _ _ _ _ (⟨_, g_cagainst (d := d + 3) hgq hB1.1.2.1 rfl tl, rfl, fun v97 M97 g97 => ?_⟩))))))
        obtain ⟨rfl, rfl⟩ := g97
        refine hK _ _ _ _ (hK _ _ _ _ (⟨_, g_ctimes (d := d + 3) hgq hB1.1.2.1 rfl rfl (ag_lt hgq tl) (dsx_lt hgq hp hD x _), rfl, fun v102 M102 g102 => ?_⟩))
        obtain ⟨rfl, rfl⟩ := g102
        refine hK _ _ _ _ (⟨_, b_putTurn (d := d + 2) rfl al, rfl, fun v105 M105 g105 => ?_⟩)
        obtain ⟨rfl, rfl⟩ := g105
        refine hK _ _ _ _ (hK _ _ _ _ (?_))
        refine ih (x + 1) _ _ _ _ _ _ (by omega) (by omega) hI_s (fr_p hf PR_t) (fun l hl9 => ?_) ?_
        · show _ = Int32.ofNat (if l = xln e.2.1.1 e.2.1.2.1 e.2.1.2.2 x (y + 1) 0 then _ else _)
          by_cases he : l = xln e.2.1.1 e.2.1.2.1 e.2.1.2.2 x (y + 1) 0
          · rw [if_pos he, he, x_pe, hz]
            rfl
          · rw [if_neg he, x_pn (fun q => he q.2.2)]
            exact hC l hl9
        · rw [hz]
          rfl
  have yl : ∀ (m y : Nat) (z z2 : Int32) (M1 : aM) (l4 l5 l6 l7 : Option aV), e.2.1.2.1 - y = m → y ≤ e.2.1.2.1 → z2 = Int32.ofNat y → fr (PR 12 0) M M1 → (∀ l, l < 32 → M1.1 12 0 l = Int32.ofNat ((dsy e seed y).1 l)) → z = (dsy e seed y).2 → K 12 [some (vR 4 0), some (vI seed), some (vI z), some (vI z2), l4, l5, l6, l7] [] M1 := by
    intro m
    induction m with
    | zero =>
      intro y z z2 M1 l4 l5 l6 l7 hm hy hz2 hf hC hz
      subst hz2
      have hS : cS 0 M1 e.2.1.1 e.2.1.2.1 e.2.1.2.2 := (cB_d hB hf hC).2.2.1
      refine hK _ _ _ _ (hK _ _ _ _ (hK _ _ _ _ (hK _ _ _ _ (⟨fun h => ?_, fun h => ?_⟩))))
      · have ey : y = e.2.1.2.1 := by omega
        subst ey
        exact hK _ _ _ _ (⟨rfl, hf, hC⟩)
      · exfalso
        rw [hS.2.1] at h
        exact absurd (x_nge (x := y) (y := e.2.1.2.1) rfl rfl (by omega) (by omega) h) (by omega)
    | succ m ih =>
      intro y z z2 M1 l4 l5 l6 l7 hm hy hz2 hf hC hz
      subst hz2
      have hS : cS 0 M1 e.2.1.1 e.2.1.2.1 e.2.1.2.2 := (cB_d hB hf hC).2.2.1
      refine hK _ _ _ _ (hK _ _ _ _ (hK _ _ _ _ (hK _ _ _ _ (⟨fun h => ?_, fun h => ?_⟩))))
      · exfalso
        rw [hS.2.1] at h
        exact absurd (x_ge (x := y) (y := e.2.1.2.1) rfl rfl (by omega) (by omega) h) (by omega)
      · refine hK _ _ _ _ (hK _ _ _ _ (?_))
        refine xl y (dsy e seed y) (dsy_lt hgq hp y) (by omega) (fun M2 z3 l4 l5 l6 l7 hf2 hC2 hz3 => ?_) _ 0 _ _ _ _ _ _ rfl (Nat.zero_le _) rfl hf hC hz
        refine hK _ _ _ _ (hK _ _ _ _ (?_))
        exact ih (y + 1) _ _ _ _ _ _ _ (by omega) (by omega) hI_s hf2 hC2 hz3
  refine hK _ _ _ _ (hK _ _ _ _ (hK _ _ _ _ (hK _ _ _ _ (⟨_, g_fill12, rfl, fun v5 M5 g5 => ?_⟩))))
  obtain ⟨rfl, f5, C5⟩ := g5
  refine hK _ _ _ _ (hK _ _ _ _ (hK _ _ _ _ (hK _ _ _ _ (?_))))
  exact yl _ 0 _ _ _ _ _ _ _ rfl (Nat.zero_le _) rfl f5 C5 rfl
/-- cells that a draw of the class writes -/
def PDc : xF := fun k i j => (Nat.beq k 12 && Nat.beq i 0) || (Nat.beq k 20 && (Nat.beq j 4 || Nat.beq j 5))
theorem PDc_r {A B : aM} (h : fr (PR 12 0) A B) : fr PDc A B := fr_w h (fun k i j z => by
  have z : ((Nat.beq k 12 && Nat.beq i 0) || (Nat.beq k 20 && (Nat.beq j 4 || Nat.beq j 5))) = false := z
  rw [Bool.or_eq_false_iff] at z
  exact z.1)
theorem lO_d {e : xB} {seed : Int32} (hq : e.1 ∈ gP) (hp : 0 < sw (dV e) e.1.2) : lO (dE e seed).2.1.1 (dE e seed).2.1.2.1 (dE e seed).2.1.2.2 (dE e seed).1.2 (dE e seed).2.2.2.2 := fun l _ _ => ⟨_, dsy_lt hq hp _ l, rfl⟩
theorem c_drawL {nS : Nat} {M : aM} {e : xB} {seed : Int32} (hB : cB 0 M e) (hw : wOK e) : aC nS 60 174 [vR 0 0, vI seed] M (fun v M' => (e.2.1.2.2 = 0 ∧ 0 < sw (dV e) e.1.2) ∧ v = some (vL (woy (dE e seed) e.2.1.2.1)) ∧ fr PDc M M' ∧ M'.1 20 0 4 = 0 ∧ M'.1 20 0 5 = 0 ∧ ∀ l, l < 32 → M'.1 12 0 l = (dE e seed).2.2.2.2 l) (fun q M' => q = 4 ∧ ¬ (e.2.1.2.2 = 0 ∧ 0 < sw (dV e) e.1.2) ∧ M' = M) := by
  obtain ⟨ho, o2, o8, hS, w1, w3, h1, h3, s2⟩ := cB_h hB
  have hgq : e.1 ∈ gP := hB.1.1.1
  have sl9 : sw (dV e) e.1.2 < 1000 := by
    have := sw_le (W := dV e) e.1.2 (fun t ht => (hw t (by omega)).2)
    omega
  refine aC_mk rfl rfl ?_
  intro K hK _
  refine hK _ _ _ _ (hK _ _ _ _ (hK _ _ _ _ (⟨_, b_isFlat (d := 58) hS.2.2.1 s2, rfl, fun v4 M4 g4 => ?_⟩)))
  obtain ⟨g4, rfl⟩ := g4
  rcases g4 with ⟨hs0, rfl⟩ | ⟨hs0, rfl⟩
  · refine hK _ _ _ _ (⟨fun q => ?_, fun _ => ?_⟩)
    · exact absurd q (by decide)
    refine hK _ _ _ _ (hK _ _ _ _ (hK _ _ _ _ (⟨_, b_wsum (d := 56) hB hw, rfl, fun v14 M14 g14 => ?_⟩)))
    obtain ⟨rfl, rfl⟩ := g14
    refine hK _ _ _ _ (hK _ _ _ _ (⟨fun q => ?_, fun q => ?_⟩))
    · have q2 := x_ge (x := sw (dV e) e.1.2) (y := 1) rfl rfl (by omega) (by decide) q
      refine hK _ _ _ _ (hK _ _ _ _ (hK _ _ _ _ (hK _ _ _ _ (⟨_, b_drawTurns (d := 54) hB hw (by omega), rfl, fun v37 M37 g37 => ?_⟩))))
      obtain ⟨rfl, hf, hC⟩ := g37
      refine hK _ _ _ _ (hK _ _ _ _ (hK _ _ _ _ (⟨_, b_forget, rfl, fun v44 M44 g44 => ?_⟩)))
      obtain ⟨rfl, rfl⟩ := g44
      have hB2 : cB 0 (a_pI (a_pI M37 20 0 4 0) 20 0 5 0) (dE e seed) := cB_fr (cB_d hB hf hC) (fun q j a b c => (x_pn (fun z => by have := z.1; omega)).trans (x_pn (fun z => by have := z.1; omega)))
      refine hK _ _ _ _ (hK _ _ _ _ (hK _ _ _ _ (⟨_, b_worth (d := 53) hB2 (lO_d hgq (by omega)), rfl, fun v51 M51 g51 => ?_⟩)))
      obtain ⟨rfl, rfl⟩ := g51
      exact hK _ _ _ _ (⟨⟨hs0, by omega⟩, rfl, fr_p (fr_p (PDc_r hf) rfl) rfl, (x_pn (fun z => absurd z.2.2 (by decide))).trans x_pe, x_pe, fun l hl9 => (x_pn (fun z => absurd z.1 (by decide))).trans ((x_pn (fun z => absurd z.1 (by decide))).trans (hC l hl9))⟩)
    · have q2 := x_nge (x := sw (dV e) e.1.2) (y := 1) rfl rfl (by omega) (by decide) q
      exact hK _ _ _ _ ⟨rfl, rfl, fun z => by omega, rfl⟩
  · refine hK _ _ _ _ (⟨fun _ => ?_, fun q => ?_⟩)
    · exact hK _ _ _ _ ⟨rfl, rfl, fun z => hs0 z.1, rfl⟩
    · exact absurd rfl q
