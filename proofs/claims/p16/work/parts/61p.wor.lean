/-- what a row of squares is worth, all; how many are turned -/
def wox (e : xB) (y : Nat) : Nat → Int64 → Int64
  | 0, a => a
  | x + 1, a => wox e y x a * (wi e (y * 4 + x) (rdv e.1.1 e.1.2 (fun l => xn (e.2.2.2.2 l)) e.2.1.1 e.2.1.2.1 e.2.1.2.2 x y)).toInt64
def woy (e : xB) : Nat → Int64
  | 0 => 1
  | y + 1 => wox e y e.2.1.1 (woy e y)
def tuo (e : xB) (x y : Nat) : Nat := if e.2.2.2.1 (y * 4 + x) = 1 then 0 else if rdv e.1.1 e.1.2 (fun l => xn (e.2.2.2.2 l)) e.2.1.1 e.2.1.2.1 e.2.1.2.2 x y = 0 then 0 else 1
def tux (e : xB) (y : Nat) : Nat → Nat → Nat
  | 0, a => a
  | x + 1, a => tux e y x a + tuo e x y
def tuy (e : xB) : Nat → Nat
  | 0 => 0
  | y + 1 => tux e y e.2.1.1 (tuy e y)
theorem rdv_lt {e : xB} {x y : Nat} (hq : e.1 ∈ gP) (hk : okB e) (hO : lO e.2.1.1 e.2.1.2.1 e.2.1.2.2 e.1.2 e.2.2.2.2) (hx : x < e.2.1.1) (hy : y < e.2.1.2.1) : rdv e.1.1 e.1.2 (fun l => xn (e.2.2.2.2 l)) e.2.1.1 e.2.1.2.1 e.2.1.2.2 x y < e.1.2 := by
  obtain ⟨w1, w3, h1, h3, s2⟩ := hk
  obtain ⟨o2, o8, k3⟩ := gP_o (k := e.1.1) (o := e.1.2) hq
  have t0 := (okT_n o8 (lO_n hO w1 w3 h1 h3 s2 (Nat.le_of_lt hx) (Nat.le_of_lt hy) (by decide) (sq_l w1 w3 h1 h3 s2 hx hy).1.1)).2
  have t1 := (okT_n o8 (lO_n hO w1 w3 h1 h3 s2 hx (Nat.le_of_lt hy) (by decide) (sq_l w1 w3 h1 h3 s2 hx hy).1.2)).2
  have t2 := (okT_n o8 (lO_n hO w1 w3 h1 h3 s2 (Nat.le_of_lt hx) hy (by decide) (sq_l w1 w3 h1 h3 s2 hx hy).2.1)).2
  have t3 := (okT_n o8 (lO_n hO w1 w3 h1 h3 s2 (Nat.le_of_lt hx) (Nat.le_of_lt hy) (by decide) (sq_l w1 w3 h1 h3 s2 hx hy).2.2)).2
  exact rt_lt hq (rt_lt hq t0 t1) (rt_lt hq (ag_lt hq t2) (ag_lt hq t3))
theorem b_worth {nS d : Nat} {M : aM} {e : xB} (hB : cB 0 M e) (hO : lO e.2.1.1 e.2.1.2.1 e.2.1.2.2 e.1.2 e.2.2.2.2) : aC nS (d + 6) 35 [vR 4 0] M (fun v M' => v = some (vL (woy e e.2.1.2.1)) ∧ M = M') (fun _ _ => False) := by
  obtain ⟨ho, o2, o8, hS, w1, w3, h1, h3, s2⟩ := cB_h hB
  refine aC_mk rfl rfl ?_
  intro K hK _
  have xl : ∀ (y : Nat), y < e.2.1.2.1 → (∀ (l4 l5 : Option aV), K 55 [some (vR 4 0), some (vL (woy e (y + 1))), none, some (vI (Int32.ofNat y)), l4, l5] [] M) → ∀ (m x : Nat) (z : Int32) (A : Int64) (l5 : Option aV), e.2.1.1 - x = m → x ≤ e.2.1.1 → z = Int32.ofNat x → A = wox e y x (woy e y) → K 15 [some (vR 4 0), some (vL A), none, some (vI (Int32.ofNat y)), some (vI z), l5] [] M := by
    intro y hy out m
    induction m with
    | zero =>
      intro x z A l5 hm hx hz hA
      subst hz
      refine hK _ _ _ _ (hK _ _ _ _ (hK _ _ _ _ (hK _ _ _ _ (⟨fun h => ?_, fun h => ?_⟩))))
      · have ex : x = e.2.1.1 := by omega
        subst ex
        subst hA
        exact out _ _
      · exfalso
        rw [hS.1] at h
        exact absurd (x_nge (x := x) (y := e.2.1.1) rfl rfl (by omega) (by omega) h) (by omega)
    | succ m ih =>
      intro x z A l5 hm hx hz hA
      subst hz
      have hxw : x < e.2.1.1 := by omega
      refine hK _ _ _ _ (hK _ _ _ _ (hK _ _ _ _ (hK _ _ _ _ (⟨fun h => ?_, fun h => ?_⟩))))
      · exfalso
        rw [hS.1] at h
        exact absurd (x_ge (x := x) (y := e.2.1.1) rfl rfl (by omega) (by omega) h) (by omega)
      · refine hK _ _ _ _ (hK _ _ _ _ (hK _ _ _ _ (hK _ _ _ _ (⟨_, b_squareAt (d := d + 4) hS w3 h3, rfl, fun v28 M28 g28 => ?_⟩))))
        obtain ⟨g28, rfl⟩ := g28
        rcases g28 with ⟨x9, y9, hx9, hy9, ex, ey, rfl⟩ | ⟨no, -⟩
        case inr => exact absurd ⟨x, y, hxw, hy, rfl, rfl⟩ no
        have ex := x_inj (by omega) (by omega) ex
        have ey := x_inj (by omega) (by omega) ey
        subst ex
        subst ey
        have rl := rdv_lt hB.1.1.1 hB.2.1 hO hxw hy
        refine hK _ _ _ _ (hK _ _ _ _ (hK _ _ _ _ (hK _ _ _ _ (hK _ _ _ _ (hK _ _ _ _ (hK _ _ _ _ (⟨_, b_turnRound (d := d) hS w1 w3 h1 h3 s2 hB.1 hO hB.2.2.2.2.2 hxw hy rfl, rfl, fun v40 M40 g40 => ?_⟩)))))))
        obtain ⟨rfl, rfl⟩ := g40
        refine hK _ _ _ _ (⟨_, b_weightIn (d := d + 2) hB rfl (show y * 4 + x < 16 by omega) rfl (show rdv e.1.1 e.1.2 (fun l => xn (e.2.2.2.2 l)) e.2.1.1 e.2.1.2.1 e.2.1.2.2 x y < 8 by omega), rfl, fun v43 M43 g43 => ?_⟩)
        obtain ⟨rfl, rfl⟩ := g43
        refine hK _ _ _ _ (hK _ _ _ _ (hK _ _ _ _ (hK _ _ _ _ (hK _ _ _ _ (?_)))))
        refine ih (x + 1) _ _ _ (by omega) (by omega) hI_s ?_
        rw [hA]
        rfl
  have yl : ∀ (m y : Nat) (z : Int32) (A : Int64) (l4 l5 : Option aV), e.2.1.2.1 - y = m → y ≤ e.2.1.2.1 → z = Int32.ofNat y → A = (woy e y) → K 4 [some (vR 4 0), some (vL A), none, some (vI z), l4, l5] [] M := by
    intro m
    induction m with
    | zero =>
      intro y z A l4 l5 hm hy hz hA
      subst hz
      refine hK _ _ _ _ (hK _ _ _ _ (hK _ _ _ _ (hK _ _ _ _ (⟨fun h => ?_, fun h => ?_⟩))))
      · have ey : y = e.2.1.2.1 := by omega
        subst ey
        subst hA
        exact hK _ _ _ _ (hK _ _ _ _ (⟨rfl, rfl⟩))
      · exfalso
        rw [hS.2.1] at h
        exact absurd (x_nge (x := y) (y := e.2.1.2.1) rfl rfl (by omega) (by omega) h) (by omega)
    | succ m ih =>
      intro y z A l4 l5 hm hy hz hA
      subst hz
      refine hK _ _ _ _ (hK _ _ _ _ (hK _ _ _ _ (hK _ _ _ _ (⟨fun h => ?_, fun h => ?_⟩))))
      · exfalso
        rw [hS.2.1] at h
        exact absurd (x_ge (x := y) (y := e.2.1.2.1) rfl rfl (by omega) (by omega) h) (by omega)
      · refine hK _ _ _ _ (hK _ _ _ _ (?_))
        refine xl y (by omega) (fun l4 l5 => ?_) _ 0 _ _ _ rfl (Nat.zero_le _) rfl hA
        refine hK _ _ _ _ (hK _ _ _ _ (?_))
        exact ih (y + 1) _ _ _ _ (by omega) (by omega) hI_s rfl
  refine hK _ _ _ _ (hK _ _ _ _ (hK _ _ _ _ (hK _ _ _ _ (?_))))
  exact yl _ 0 _ _ _ _ rfl (Nat.zero_le _) rfl rfl
theorem b_turned {nS d : Nat} {M : aM} {e : xB} (hB : cB 0 M e) (hO : lO e.2.1.1 e.2.1.2.1 e.2.1.2.2 e.1.2 e.2.2.2.2) : aC nS (d + 6) 36 [vR 4 0] M (fun v M' => v = some (vI (Int32.ofNat (tuy e e.2.1.2.1))) ∧ M = M') (fun _ _ => False) := by
  obtain ⟨ho, o2, o8, hS, w1, w3, h1, h3, s2⟩ := cB_h hB
  refine aC_mk rfl rfl ?_
  intro K hK _
  have xl : ∀ (y : Nat), y < e.2.1.2.1 → (∀ (l4 l5 : Option aV), K 57 [some (vR 4 0), some (vI (Int32.ofNat (tuy e (y + 1)))), some (vI (Int32.ofNat y)), l4, l5] [] M) → ∀ (m x : Nat) (z : Int32) (A : Nat) (l5 : Option aV), e.2.1.1 - x = m → x ≤ e.2.1.1 → z = Int32.ofNat x → A = tux e y x (tuy e y) → K 14 [some (vR 4 0), some (vI (Int32.ofNat A)), some (vI (Int32.ofNat y)), some (vI z), l5] [] M := by
    intro y hy out m
    induction m with
    | zero =>
      intro x z A l5 hm hx hz hA
      subst hz
      refine hK _ _ _ _ (hK _ _ _ _ (hK _ _ _ _ (hK _ _ _ _ (⟨fun h => ?_, fun h => ?_⟩))))
      · have ex : x = e.2.1.1 := by omega
        subst ex
        subst hA
        exact out _ _
      · exfalso
        rw [hS.1] at h
        exact absurd (x_nge (x := x) (y := e.2.1.1) rfl rfl (by omega) (by omega) h) (by omega)
    | succ m ih =>
      intro x z A l5 hm hx hz hA
      subst hz
      have hxw : x < e.2.1.1 := by omega
      refine hK _ _ _ _ (hK _ _ _ _ (hK _ _ _ _ (hK _ _ _ _ (⟨fun h => ?_, fun h => ?_⟩))))
      · exfalso
        rw [hS.1] at h
        exact absurd (x_ge (x := x) (y := e.2.1.1) rfl rfl (by omega) (by omega) h) (by omega)
      · refine hK _ _ _ _ (hK _ _ _ _ (hK _ _ _ _ (hK _ _ _ _ (⟨_, b_squareAt (d := d + 4) hS w3 h3, rfl, fun v25 M25 g25 => ?_⟩))))
        obtain ⟨g25, rfl⟩ := g25
        rcases g25 with ⟨x9, y9, hx9, hy9, ex, ey, rfl⟩ | ⟨no, -⟩
        case inr => exact absurd ⟨x, y, hxw, hy, rfl, rfl⟩ no
        have ex := x_inj (by omega) (by omega) ex
        have ey := x_inj (by omega) (by omega) ey
        subst ex
        subst ey
        have rl := rdv_lt hB.1.1.1 hB.2.1 hO hxw hy
        have same : tuo e x y = 0 → K 51 [some (vR 4 0), some (vI (Int32.ofNat A)), some (vI (Int32.ofNat y)), some (vI (Int32.ofNat x)), some (vI (Int32.ofNat (y * 4 + x)))] [] M := fun h0 => by
          refine hK _ _ _ _ (hK _ _ _ _ (?_))
          refine ih (x + 1) _ _ _ (by omega) (by omega) hI_s ?_
          rw [hA]
          show tux e y x (tuy e y) = tux e y x (tuy e y) + tuo e x y
          rw [h0]
          rfl
        refine hK _ _ _ _ (hK _ _ _ _ (hK _ _ _ _ (hK _ _ _ _ (⟨_, b_isHole (d := d + 3) rfl (show y * 4 + x < 16 by omega), rfl, fun v33 M33 g33 => ?_⟩))))
        obtain ⟨g33, rfl⟩ := g33
        rw [hB.2.2.2.2.1 _ (show y * 4 + x < 16 by omega)] at g33
        rcases g33 with ⟨hh, rfl⟩ | ⟨hh, rfl⟩
        · refine hK _ _ _ _ (⟨fun q => ?_, fun q => ?_⟩)
          · exact same (by unfold tuo; rw [if_pos hh])
          · exact absurd q (by decide)
        · refine hK _ _ _ _ (⟨fun q => ?_, fun q => ?_⟩)
          · exact absurd rfl q
          · refine hK _ _ _ _ (hK _ _ _ _ (hK _ _ _ _ (⟨_, b_turnRound (d := d) hS w1 w3 h1 h3 s2 hB.1 hO hB.2.2.2.2.2 hxw hy rfl, rfl, fun v42 M42 g42 => ?_⟩)))
            obtain ⟨rfl, rfl⟩ := g42
            refine hK _ _ _ _ (⟨fun q => ?_, fun q => ?_⟩)
            · have r0 := x_inj (x := (rdv e.1.1 e.1.2 (fun l => xn (e.2.2.2.2 l)) e.2.1.1 e.2.1.2.1 e.2.1.2.2 x y)) (y := 0) (by omega) (by decide) q
              exact same (by unfold tuo; rw [if_neg hh, if_pos r0])
            · have r0 : ¬ (rdv e.1.1 e.1.2 (fun l => xn (e.2.2.2.2 l)) e.2.1.1 e.2.1.2.1 e.2.1.2.2 x y) = 0 := fun z => q (by rw [z]; rfl)
              refine hK _ _ _ _ (hK _ _ _ _ (hK _ _ _ _ (?_)))
              rw [hI_s]
              refine ih (x + 1) _ _ _ (by omega) (by omega) hI_s ?_
              rw [hA]
              show tux e y x (tuy e y) + 1 = tux e y x (tuy e y) + tuo e x y
              unfold tuo
              rw [if_neg hh, if_neg r0]
  have yl : ∀ (m y : Nat) (z : Int32) (A : Nat) (l4 l5 : Option aV), e.2.1.2.1 - y = m → y ≤ e.2.1.2.1 → z = Int32.ofNat y → A = (tuy e y) → K 4 [some (vR 4 0), some (vI (Int32.ofNat A)), some (vI z), l4, l5] [] M := by
    intro m
    induction m with
    | zero =>
      intro y z A l4 l5 hm hy hz hA
      subst hz
      refine hK _ _ _ _ (hK _ _ _ _ (hK _ _ _ _ (hK _ _ _ _ (⟨fun h => ?_, fun h => ?_⟩))))
      · have ey : y = e.2.1.2.1 := by omega
        subst ey
        subst hA
        exact hK _ _ _ _ (hK _ _ _ _ (⟨rfl, rfl⟩))
      · exfalso
        rw [hS.2.1] at h
        exact absurd (x_nge (x := y) (y := e.2.1.2.1) rfl rfl (by omega) (by omega) h) (by omega)
    | succ m ih =>
      intro y z A l4 l5 hm hy hz hA
      subst hz
      refine hK _ _ _ _ (hK _ _ _ _ (hK _ _ _ _ (hK _ _ _ _ (⟨fun h => ?_, fun h => ?_⟩))))
      · exfalso
        rw [hS.2.1] at h
        exact absurd (x_ge (x := y) (y := e.2.1.2.1) rfl rfl (by omega) (by omega) h) (by omega)
      · refine hK _ _ _ _ (hK _ _ _ _ (?_))
        refine xl y (by omega) (fun l4 l5 => ?_) _ 0 _ _ _ rfl (Nat.zero_le _) rfl hA
        refine hK _ _ _ _ (hK _ _ _ _ (?_))
        exact ih (y + 1) _ _ _ _ (by omega) (by omega) hI_s rfl
  refine hK _ _ _ _ (hK _ _ _ _ (hK _ _ _ _ (hK _ _ _ _ (?_))))
  exact yl _ 0 _ _ _ _ rfl (Nat.zero_le _) rfl rfl
theorem r_worth {nS d : Nat} {M : aM} {e : xB} (hB : rB 37 M e) (hL : LL 37 M e) : aC nS (d + 6) 227 [vR 36 0] M (fun v M' => v = some (vL (woy e e.2.1.2.1)) ∧ M = M') (fun _ _ => False) := by
  obtain ⟨ho, o2, o8, hS, w1, w3, h1, h3, s2⟩ := rB_h hB
  refine aC_mk rfl rfl ?_
  intro K hK _
  have xl : ∀ (y : Nat), y < e.2.1.2.1 → (∀ (l4 l5 : Option aV), K 67 [some (vR 36 0), some (vL (woy e (y + 1))), none, some (vI (Int32.ofNat y)), l4] [] M) → ∀ (m x : Nat) (z : Int32) (A : Int64) (l5 : Option aV), e.2.1.1 - x = m → x ≤ e.2.1.1 → z = Int32.ofNat x → A = wox e y x (woy e y) → K 17 [some (vR 36 0), some (vL A), none, some (vI (Int32.ofNat y)), some (vI z)] [] M := by
    intro y hy out m
    induction m with
    | zero =>
      intro x z A l5 hm hx hz hA
      subst hz
      refine hK _ _ _ _ (hK _ _ _ _ (hK _ _ _ _ (hK _ _ _ _ (hK _ _ _ _ (⟨x_vp (a := 3) rfl (by decide) (by decide), ?_⟩)))))
      rw [x_cl (j := 3) (a := 3) rfl (by decide), hS.1]
      refine hK _ _ _ _ (⟨fun h => ?_, fun h => ?_⟩)
      · have ex : x = e.2.1.1 := by omega
        subst ex
        subst hA
        exact out _ none
      · exfalso
        exact absurd (x_nge (x := x) (y := e.2.1.1) rfl rfl (by omega) (by omega) h) (by omega)
    | succ m ih =>
      intro x z A l5 hm hx hz hA
      subst hz
      have hxw : x < e.2.1.1 := by omega
      refine hK _ _ _ _ (hK _ _ _ _ (hK _ _ _ _ (hK _ _ _ _ (hK _ _ _ _ (⟨x_vp (a := 3) rfl (by decide) (by decide), ?_⟩)))))
      rw [x_cl (j := 3) (a := 3) rfl (by decide), hS.1]
      refine hK _ _ _ _ (⟨fun h => ?_, fun h => ?_⟩)
      · exfalso
        exact absurd (x_ge (x := x) (y := e.2.1.1) rfl rfl (by omega) (by omega) h) (by omega)
      · have rl := rdv_lt hB.1 hB.2.1 hL.2 hxw hy
        have ei : (10 : Int32) + Int32.ofNat (rdv e.1.1 e.1.2 (fun l => xn (e.2.2.2.2 l)) e.2.1.1 e.2.1.2.1 e.2.1.2.2 x y) = Int32.ofNat (10 + (rdv e.1.1 e.1.2 (fun l => xn (e.2.2.2.2 l)) e.2.1.1 e.2.1.2.1 e.2.1.2.2 x y)) := hI_ad (a := 10)
        refine hK _ _ _ _ (hK _ _ _ _ (hK _ _ _ _ (hK _ _ _ _ (⟨_, r_isHole (d := d + 4) hB.2.2.2.2 (show x < 3 by omega) (show y < 3 by omega), rfl, fun v32 M32 g32 => ?_⟩))))
        obtain ⟨g32, rfl⟩ := g32
        rcases g32 with ⟨hh, rfl⟩ | ⟨hh, rfl⟩
        · refine hK _ _ _ _ (⟨fun q => ?_, fun q => ?_⟩)
          · exact absurd q (by decide)
          · refine hK _ _ _ _ (hK _ _ _ _ (hK _ _ _ _ (hK _ _ _ _ (hK _ _ _ _ (?_)))))
            refine ih (x + 1) _ _ l5 (by omega) (by omega) hI_s ?_
            rw [hA]
            show wox e y x (woy e y) = wox e y x (woy e y) * (wi e (y * 4 + x) (rdv e.1.1 e.1.2 (fun l => xn (e.2.2.2.2 l)) e.2.1.1 e.2.1.2.1 e.2.1.2.2 x y)).toInt64
            rw [show wi e (y * 4 + x) (rdv e.1.1 e.1.2 (fun l => xn (e.2.2.2.2 l)) e.2.1.1 e.2.1.2.1 e.2.1.2.2 x y) = 1 from if_pos hh]
            exact (Int64.mul_one _).symm
        · refine hK _ _ _ _ (⟨fun q => ?_, fun q => ?_⟩)
          · refine hK _ _ _ _ (hK _ _ _ _ (hK _ _ _ _ (hK _ _ _ _ (hK _ _ _ _ (hK _ _ _ _ (hK _ _ _ _ (hK _ _ _ _ (⟨_, r_roundOf (d := d) hS w1 w3 h1 h3 s2 (rB_g hB) hL.2 hL.1 hxw hy rfl rfl, rfl, fun v53 M53 g53 => ?_⟩))))))))
            obtain ⟨rfl, rfl⟩ := g53
            refine hK _ _ _ _ (hK _ _ _ _ (⟨x_vp (a := 10 + (rdv e.1.1 e.1.2 (fun l => xn (e.2.2.2.2 l)) e.2.1.1 e.2.1.2.1 e.2.1.2.2 x y)) ei (by omega) (by decide), ?_⟩))
            rw [x_cl ei (by omega), hB.2.2.2.1 _ (by omega)]
            refine hK _ _ _ _ (hK _ _ _ _ (hK _ _ _ _ (hK _ _ _ _ (hK _ _ _ _ (?_)))))
            refine ih (x + 1) _ _ l5 (by omega) (by omega) hI_s ?_
            rw [hA]
            show wox e y x (woy e y) * (e.2.2.1 (rdv e.1.1 e.1.2 (fun l => xn (e.2.2.2.2 l)) e.2.1.1 e.2.1.2.1 e.2.1.2.2 x y)).toInt64 = wox e y x (woy e y) * (wi e (y * 4 + x) (rdv e.1.1 e.1.2 (fun l => xn (e.2.2.2.2 l)) e.2.1.1 e.2.1.2.1 e.2.1.2.2 x y)).toInt64
            rw [show wi e (y * 4 + x) (rdv e.1.1 e.1.2 (fun l => xn (e.2.2.2.2 l)) e.2.1.1 e.2.1.2.1 e.2.1.2.2 x y) = e.2.2.1 (rdv e.1.1 e.1.2 (fun l => xn (e.2.2.2.2 l)) e.2.1.1 e.2.1.2.1 e.2.1.2.2 x y) from if_neg hh]
          · exact absurd rfl q
  have yl : ∀ (m y : Nat) (z : Int32) (A : Int64) (l4 l5 : Option aV), e.2.1.2.1 - y = m → y ≤ e.2.1.2.1 → z = Int32.ofNat y → A = (woy e y) → K 4 [some (vR 36 0), some (vL A), none, some (vI z), l4] [] M := by
    intro m
    induction m with
    | zero =>
      intro y z A l4 l5 hm hy hz hA
      subst hz
      refine hK _ _ _ _ (hK _ _ _ _ (hK _ _ _ _ (hK _ _ _ _ (hK _ _ _ _ (⟨x_vp (a := 4) rfl (by decide) (by decide), ?_⟩)))))
      rw [x_cl (j := 4) (a := 4) rfl (by decide), hS.2.1]
      refine hK _ _ _ _ (⟨fun h => ?_, fun h => ?_⟩)
      · have ey : y = e.2.1.2.1 := by omega
        subst ey
        subst hA
        exact hK _ _ _ _ (hK _ _ _ _ (⟨rfl, rfl⟩))
      · exfalso
        exact absurd (x_nge (x := y) (y := e.2.1.2.1) rfl rfl (by omega) (by omega) h) (by omega)
    | succ m ih =>
      intro y z A l4 l5 hm hy hz hA
      subst hz
      refine hK _ _ _ _ (hK _ _ _ _ (hK _ _ _ _ (hK _ _ _ _ (hK _ _ _ _ (⟨x_vp (a := 4) rfl (by decide) (by decide), ?_⟩)))))
      rw [x_cl (j := 4) (a := 4) rfl (by decide), hS.2.1]
      refine hK _ _ _ _ (⟨fun h => ?_, fun h => ?_⟩)
      · exfalso
        exact absurd (x_ge (x := y) (y := e.2.1.2.1) rfl rfl (by omega) (by omega) h) (by omega)
      · refine hK _ _ _ _ (hK _ _ _ _ (?_))
        refine xl y (by omega) (fun l4 l5 => ?_) _ 0 _ _ none rfl (Nat.zero_le _) rfl hA
        refine hK _ _ _ _ (hK _ _ _ _ (?_))
        exact ih (y + 1) _ _ _ none (by omega) (by omega) hI_s rfl
  refine hK _ _ _ _ (hK _ _ _ _ (hK _ _ _ _ (hK _ _ _ _ (?_))))
  exact yl _ 0 _ _ _ none rfl (Nat.zero_le _) rfl rfl
theorem r_turned {nS d : Nat} {M : aM} {e : xB} (hB : rB 37 M e) (hL : LL 37 M e) : aC nS (d + 6) 229 [vR 36 0] M (fun v M' => v = some (vI (Int32.ofNat (tuy e e.2.1.2.1))) ∧ M = M') (fun _ _ => False) := by
  obtain ⟨ho, o2, o8, hS, w1, w3, h1, h3, s2⟩ := rB_h hB
  refine aC_mk rfl rfl ?_
  intro K hK _
  have xl : ∀ (y : Nat), y < e.2.1.2.1 → (∀ (l4 l5 : Option aV), K 58 [some (vR 36 0), some (vI (Int32.ofNat (tuy e (y + 1)))), some (vI (Int32.ofNat y)), l4] [] M) → ∀ (m x : Nat) (z : Int32) (A : Nat) (l5 : Option aV), e.2.1.1 - x = m → x ≤ e.2.1.1 → z = Int32.ofNat x → A = tux e y x (tuy e y) → K 16 [some (vR 36 0), some (vI (Int32.ofNat A)), some (vI (Int32.ofNat y)), some (vI z)] [] M := by
    intro y hy out m
    induction m with
    | zero =>
      intro x z A l5 hm hx hz hA
      subst hz
      refine hK _ _ _ _ (hK _ _ _ _ (hK _ _ _ _ (hK _ _ _ _ (hK _ _ _ _ (⟨x_vp (a := 3) rfl (by decide) (by decide), ?_⟩)))))
      rw [x_cl (j := 3) (a := 3) rfl (by decide), hS.1]
      refine hK _ _ _ _ (⟨fun h => ?_, fun h => ?_⟩)
      · have ex : x = e.2.1.1 := by omega
        subst ex
        subst hA
        exact out _ none
      · exfalso
        exact absurd (x_nge (x := x) (y := e.2.1.1) rfl rfl (by omega) (by omega) h) (by omega)
    | succ m ih =>
      intro x z A l5 hm hx hz hA
      subst hz
      have hxw : x < e.2.1.1 := by omega
      refine hK _ _ _ _ (hK _ _ _ _ (hK _ _ _ _ (hK _ _ _ _ (hK _ _ _ _ (⟨x_vp (a := 3) rfl (by decide) (by decide), ?_⟩)))))
      rw [x_cl (j := 3) (a := 3) rfl (by decide), hS.1]
      refine hK _ _ _ _ (⟨fun h => ?_, fun h => ?_⟩)
      · exfalso
        exact absurd (x_ge (x := x) (y := e.2.1.1) rfl rfl (by omega) (by omega) h) (by omega)
      · have rl := rdv_lt hB.1 hB.2.1 hL.2 hxw hy
        have none_ : tuo e x y = 0 → K 45 [some (vR 36 0), some (vI (Int32.ofNat A)), some (vI (Int32.ofNat y)), some (vI (Int32.ofNat x))] [vI (Int32.ofNat A)] M := fun h0 => by
          refine hK _ _ _ _ (hK _ _ _ _ (hK _ _ _ _ (hK _ _ _ _ (hK _ _ _ _ (hK _ _ _ _ (?_))))))
          rw [Int32.add_zero]
          refine ih (x + 1) _ _ l5 (by omega) (by omega) hI_s ?_
          rw [hA]
          show tux e y x (tuy e y) = tux e y x (tuy e y) + tuo e x y
          rw [h0]
          rfl
        refine hK _ _ _ _ (hK _ _ _ _ (hK _ _ _ _ (hK _ _ _ _ (hK _ _ _ _ (⟨_, r_isHole (d := d + 4) hB.2.2.2.2 (show x < 3 by omega) (show y < 3 by omega), rfl, fun v30 M30 g30 => ?_⟩)))))
        obtain ⟨g30, rfl⟩ := g30
        rcases g30 with ⟨hh, rfl⟩ | ⟨hh, rfl⟩
        · refine hK _ _ _ _ (⟨fun q => ?_, fun q => ?_⟩)
          · exact none_ (by unfold tuo; rw [if_pos hh])
          · exact absurd q (by decide)
        · refine hK _ _ _ _ (⟨fun q => ?_, fun q => ?_⟩)
          · exact absurd rfl q
          · refine hK _ _ _ _ (hK _ _ _ _ (hK _ _ _ _ (hK _ _ _ _ (⟨_, r_roundOf (d := d) hS w1 w3 h1 h3 s2 (rB_g hB) hL.2 hL.1 hxw hy rfl rfl, rfl, fun v39 M39 g39 => ?_⟩))))
            obtain ⟨rfl, rfl⟩ := g39
            refine hK _ _ _ _ (⟨fun q => ?_, fun q => ?_⟩)
            · have r0 : ¬ (rdv e.1.1 e.1.2 (fun l => xn (e.2.2.2.2 l)) e.2.1.1 e.2.1.2.1 e.2.1.2.2 x y) = 0 := fun z => q (by rw [z]; rfl)
              refine hK _ _ _ _ (hK _ _ _ _ (hK _ _ _ _ (hK _ _ _ _ (hK _ _ _ _ (?_)))))
              rw [hI_s]
              refine ih (x + 1) _ _ l5 (by omega) (by omega) hI_s ?_
              rw [hA]
              show tux e y x (tuy e y) + 1 = tux e y x (tuy e y) + tuo e x y
              unfold tuo
              rw [if_neg hh, if_neg r0]
            · have r0 := x_inj (x := (rdv e.1.1 e.1.2 (fun l => xn (e.2.2.2.2 l)) e.2.1.1 e.2.1.2.1 e.2.1.2.2 x y)) (y := 0) (by omega) (by decide) q
              exact none_ (by unfold tuo; rw [if_neg hh, if_pos r0])
  have yl : ∀ (m y : Nat) (z : Int32) (A : Nat) (l4 l5 : Option aV), e.2.1.2.1 - y = m → y ≤ e.2.1.2.1 → z = Int32.ofNat y → A = (tuy e y) → K 4 [some (vR 36 0), some (vI (Int32.ofNat A)), some (vI z), l4] [] M := by
    intro m
    induction m with
    | zero =>
      intro y z A l4 l5 hm hy hz hA
      subst hz
      refine hK _ _ _ _ (hK _ _ _ _ (hK _ _ _ _ (hK _ _ _ _ (hK _ _ _ _ (⟨x_vp (a := 4) rfl (by decide) (by decide), ?_⟩)))))
      rw [x_cl (j := 4) (a := 4) rfl (by decide), hS.2.1]
      refine hK _ _ _ _ (⟨fun h => ?_, fun h => ?_⟩)
      · have ey : y = e.2.1.2.1 := by omega
        subst ey
        subst hA
        exact hK _ _ _ _ (hK _ _ _ _ (⟨rfl, rfl⟩))
      · exfalso
        exact absurd (x_nge (x := y) (y := e.2.1.2.1) rfl rfl (by omega) (by omega) h) (by omega)
    | succ m ih =>
      intro y z A l4 l5 hm hy hz hA
      subst hz
      refine hK _ _ _ _ (hK _ _ _ _ (hK _ _ _ _ (hK _ _ _ _ (hK _ _ _ _ (⟨x_vp (a := 4) rfl (by decide) (by decide), ?_⟩)))))
      rw [x_cl (j := 4) (a := 4) rfl (by decide), hS.2.1]
      refine hK _ _ _ _ (⟨fun h => ?_, fun h => ?_⟩)
      · exfalso
        exact absurd (x_ge (x := y) (y := e.2.1.2.1) rfl rfl (by omega) (by omega) h) (by omega)
      · refine hK _ _ _ _ (hK _ _ _ _ (?_))
        refine xl y (by omega) (fun l4 l5 => ?_) _ 0 _ _ none rfl (Nat.zero_le _) rfl hA
        refine hK _ _ _ _ (hK _ _ _ _ (?_))
        exact ih (y + 1) _ _ _ none (by omega) (by omega) hI_s rfl
  refine hK _ _ _ _ (hK _ _ _ _ (hK _ _ _ _ (hK _ _ _ _ (?_))))
  exact yl _ 0 _ _ _ none rfl (Nat.zero_le _) rfl rfl
theorem c_worthX {nS : Nat} {M : aM} {e : xB} (hB : cB 0 M e) (hO : lO e.2.1.1 e.2.1.2.1 e.2.1.2.2 e.1.2 e.2.2.2.2) : aC nS 60 163 [vR 0 0] M (fun v M' => v = some (vL (woy e e.2.1.2.1)) ∧ M = M') (fun _ _ => False) := by
  refine aC_mk rfl rfl ?_
  intro K hK _
  refine hK _ _ _ _ (hK _ _ _ _ (hK _ _ _ _ (⟨_, b_worth (d := 53) hB hO, rfl, fun v4 M4 g4 => ?_⟩)))
  obtain ⟨rfl, rfl⟩ := g4
  exact hK _ _ _ _ (⟨rfl, rfl⟩)
theorem c_turnedX {nS : Nat} {M : aM} {e : xB} (hB : cB 0 M e) (hO : lO e.2.1.1 e.2.1.2.1 e.2.1.2.2 e.1.2 e.2.2.2.2) : aC nS 60 164 [vR 0 0] M (fun v M' => v = some (vI (Int32.ofNat (tuy e e.2.1.2.1))) ∧ M = M') (fun _ _ => False) := by
  refine aC_mk rfl rfl ?_
  intro K hK _
  refine hK _ _ _ _ (hK _ _ _ _ (hK _ _ _ _ (⟨_, b_turned (d := 53) hB hO, rfl, fun v4 M4 g4 => ?_⟩)))
  obtain ⟨rfl, rfl⟩ := g4
  exact hK _ _ _ _ (⟨rfl, rfl⟩)
theorem LL_p {M : aM} {e : xB} {x : Int32} (hL : LL 37 M e) : LL 37 (a_pI M 36 0 0 x) e := ⟨fun l a c => (x_pn (fun z => absurd z.1 (by decide))).trans (hL.1 l a c), hL.2⟩
theorem r_worthX {nS : Nat} {M : aM} {e : xB} (hB : rB 37 M e) (hL : LL 37 M e) : aC nS 60 228 [vR 36 0] M (fun v M' => v = some (vL (woy e e.2.1.2.1)) ∧ M' = a_pI M 36 0 0 0) (fun _ _ => False) := by
  refine aC_mk rfl rfl ?_
  intro K hK _
  refine hK _ _ _ _ (hK _ _ _ _ (hK _ _ _ _ (hK _ _ _ _ (hK _ _ _ _ (⟨_, r_worth (d := 53) (rB_p hB) (LL_p hL), rfl, fun v6 M6 g6 => ?_⟩)))))
  obtain ⟨rfl, rfl⟩ := g6
  exact hK _ _ _ _ (⟨rfl, rfl⟩)
theorem r_turnedX {nS : Nat} {M : aM} {e : xB} (hB : rB 37 M e) (hL : LL 37 M e) : aC nS 60 230 [vR 36 0] M (fun v M' => v = some (vI (Int32.ofNat (tuy e e.2.1.2.1))) ∧ M' = a_pI M 36 0 0 0) (fun _ _ => False) := by
  refine aC_mk rfl rfl ?_
  intro K hK _
  refine hK _ _ _ _ (hK _ _ _ _ (hK _ _ _ _ (hK _ _ _ _ (hK _ _ _ _ (⟨_, r_turned (d := 53) (rB_p hB) (LL_p hL), rfl, fun v6 M6 g6 => ?_⟩)))))
  obtain ⟨rfl, rfl⟩ := g6
  exact hK _ _ _ _ (⟨rfl, rfl⟩)
