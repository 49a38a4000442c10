theorem r_isRing {nS d : Nat} {M : aM} {e : xB} {u : xW} {c : Nat × Nat} (hB : rB 37 M e) (hs : RWs M u) (ho : xWo e u) (ha : M.1 36 0 11 = Int32.ofNat c.1) (hb : M.1 36 0 12 = Int32.ofNat c.2) (c1 : c.1 ≤ e.2.1.1) (c2 : c.2 ≤ e.2.1.2.1) (s0 : e.2.1.2.2 = 0) (hl : u.2.2.length ≤ 108) (hq : QV e c u M) : aC nS (d + 4) 244 [vR 36 0] M (fun v M' => ((rsm e c u ∧ v = some (vI 1)) ∨ (¬ rsm e c u ∧ v = some (vI 0))) ∧ M = M') (fun _ _ => False) := by
  obtain ⟨hor, o2, o8, hS, w1, w3, h1, h3, s2⟩ := rB_h hB
  obtain ⟨⟨q0, q1, q2, q3, q4⟩, q5⟩ := hq s0
  have hcl := rsm_f s0 ho c1 c2 w3 q1
  have b3 := rpt_3 q0 q2
  have bX : ∀ i, (rpt c u.2.2 i).1 < 2147483648 := fun i => Nat.lt_of_le_of_lt (b3 i).1 (by decide)
  have bY : ∀ i, (rpt c u.2.2 i).2 < 2147483648 := fun i => Nat.lt_of_le_of_lt (b3 i).2 (by decide)
  refine aC_mk rfl rfl ?_
  intro K hK _
  have no : ¬ rsm e c u → K 15 [some (vR 36 0), none, none] [] M := fun hz => hK _ _ _ _ (hK _ _ _ _ (⟨Or.inl rfl, Or.inr ⟨hz, rfl⟩, rfl⟩))
  have lp : rps c u.2.2 = c → 4 ≤ u.2.2.length → ∀ (m i : Nat) (l2 : Option aV), u.2.2.length - i = m → i ≤ u.2.2.length → (∀ b, b < i → ∀ a, a < b → ¬ rpt c u.2.2 a = rpt c u.2.2 b) → K 19 [some (vR 36 0), some (vI (Int32.ofNat i)), l2] [] M := by
    intro hz h4 m
    induction m with
    | zero =>
      intro i l2 hm hi hd
      refine hK _ _ _ _ (hK _ _ _ _ (hK _ _ _ _ (hK _ _ _ _ (⟨fun h9 => ?_, fun h9 => ?_⟩))))
      · exact hK _ _ _ _ (hK _ _ _ _ (⟨Or.inr rfl, Or.inl ⟨⟨(rvs_rds b3 hz).mpr (fun b hb => hd b (by omega)), hcl.mpr hz, h4⟩, rfl⟩, rfl⟩))
      · exact absurd (x_nge (x := i) (y := u.2.2.length) rfl hs.2.2.2 (by omega) (by omega) h9) (by omega)
    | succ m ih =>
      intro i l2 hm hi hd
      refine hK _ _ _ _ (hK _ _ _ _ (hK _ _ _ _ (hK _ _ _ _ (⟨fun h9 => ?_, fun h9 => ?_⟩))))
      · exact absurd (x_ge (x := i) (y := u.2.2.length) rfl hs.2.2.2 (by omega) (by omega) h9) (by omega)
      · have inn : ∀ (n j : Nat), i - j = n → j ≤ i → (∀ a, a < j → ¬ rpt c u.2.2 a = rpt c u.2.2 i) → K 29 [some (vR 36 0), some (vI (Int32.ofNat i)), some (vI (Int32.ofNat j))] [] M := by
          intro n
          induction n with
          | zero =>
            intro j hn hj hd2
            refine hK _ _ _ _ (hK _ _ _ _ (hK _ _ _ _ (⟨fun h7 => ?_, fun h7 => ?_⟩)))
            · refine hK _ _ _ _ (hK _ _ _ _ (?_))
              rw [hI_s]
              refine ih (i + 1) _ (by omega) (by omega) (fun b hb => ?_)
              by_cases he : b = i
              · rw [he]
                exact fun a h => hd2 a (by omega)
              · exact hd b (by omega)
            · exact absurd (x_nge (x := j) (y := i) rfl rfl (by omega) (by omega) h7) (by omega)
          | succ n ihn =>
            intro j hn hj hd2
            refine hK _ _ _ _ (hK _ _ _ _ (hK _ _ _ _ (⟨fun h7 => ?_, fun h7 => ?_⟩)))
            · exact absurd (x_ge (x := j) (y := i) rfl rfl (by omega) (by omega) h7) (by omega)
            · have nx : ¬ rpt c u.2.2 j = rpt c u.2.2 i → K 66 [some (vR 36 0), some (vI (Int32.ofNat i)), some (vI (Int32.ofNat j))] [] M := by
                intro hne
                refine hK _ _ _ _ (hK _ _ _ _ (?_))
                rw [hI_s]
                refine ihn (j + 1) (by omega) (by omega) (fun a h => ?_)
                by_cases he : a = j
                · rw [he]
                  exact hne
                · exact hd2 a (by omega)
              refine hK _ _ _ _ (hK _ _ _ _ (hK _ _ _ _ (hK _ _ _ _ (⟨x_vp (a := i) rfl (show i < 109 by omega) (by decide), ?_⟩))))
              rw [x_cl (j := Int32.ofNat i) (a := i) rfl (by omega), (q5 i (by omega)).1]
              refine hK _ _ _ _ (hK _ _ _ _ (hK _ _ _ _ (hK _ _ _ _ (⟨x_vp (a := j) rfl (show j < 109 by omega) (by decide), ?_⟩))))
              rw [x_cl (j := Int32.ofNat j) (a := j) rfl (by omega), (q5 j (by omega)).1]
              refine hK _ _ _ _ (⟨fun h5 => ?_, fun h5 => ?_⟩)
              · exact nx (fun z => h5 (by rw [z]))
              · refine hK _ _ _ _ (hK _ _ _ _ (hK _ _ _ _ (hK _ _ _ _ (⟨x_vp (a := i) rfl (show i < 109 by omega) (by decide), ?_⟩))))
                rw [x_cl (j := Int32.ofNat i) (a := i) rfl (by omega), (q5 i (by omega)).2]
                refine hK _ _ _ _ (hK _ _ _ _ (hK _ _ _ _ (hK _ _ _ _ (⟨x_vp (a := j) rfl (show j < 109 by omega) (by decide), ?_⟩))))
                rw [x_cl (j := Int32.ofNat j) (a := j) rfl (by omega), (q5 j (by omega)).2]
                refine hK _ _ _ _ (⟨fun h6 => ?_, fun h6 => ?_⟩)
                · exact nx (fun z => h6 (by rw [z]))
                · have e9 : rpt c u.2.2 j = rpt c u.2.2 i := Prod.ext (x_inj (bX i) (bX j) h5).symm (x_inj (bY i) (bY j) h6).symm
                  exact hK _ _ _ _ (hK _ _ _ _ (⟨Or.inl rfl, Or.inr ⟨fun z => (rvs_rds b3 hz).mp z.1 i (by omega) j (by omega) e9, rfl⟩, rfl⟩))
        refine hK _ _ _ _ (hK _ _ _ _ (?_))
        exact inn _ 0 rfl (Nat.zero_le _) (fun a h => absurd h (Nat.not_lt_zero _))
  refine hK _ _ _ _ (hK _ _ _ _ (hK _ _ _ _ (hK _ _ _ _ (⟨fun h8 => ?_, fun h8 => ?_⟩))))
  · have h5 := x_lt (y := 4) hs.2.2.2 rfl (by omega) (by decide) h8
    exact no (fun z => absurd z.2.2 (by omega))
  · have h5 := x_nlt (y := 4) hs.2.2.2 rfl (by omega) (by decide) h8
    refine hK _ _ _ _ (hK _ _ _ _ (⟨_, r_closedW (d := d) hB hs ho ha hb c1 c2, rfl, fun v9 M9 g9 => ?_⟩))
    obtain ⟨rfl, rfl⟩ := g9
    by_cases hq : Nat.beq (xco e.2.1.1 e.2.1.2.1 e.2.1.2.2 u.1.1 u.1.2) (xco e.2.1.1 e.2.1.2.1 e.2.1.2.2 c.1 c.2) = true
    · rw [if_pos hq]
      refine hK _ _ _ _ (⟨fun _ => ?_, fun q => (by first | exact absurd q (by decide) | exact absurd rfl q | exact absurd (by decide) q)⟩)
      refine hK _ _ _ _ (hK _ _ _ _ (?_))
      exact lp (hcl.mp hq) h5 _ 0 _ rfl (Nat.zero_le _) (fun b h => absurd h (Nat.not_lt_zero _))
    · rw [if_neg hq]
      refine hK _ _ _ _ (⟨fun q => (by first | exact absurd q (by decide) | exact absurd rfl q | exact absurd (by decide) q), fun _ => ?_⟩)
      exact no (fun z => hq z.2.1)
theorem r_isWithin {nS d sx sy : Nat} {M : aM} {c : Nat × Nat} {l : List Nat} (hn : M.1 36 0 16 = Int32.ofNat l.length) (hl : l.length ≤ 108) (c0 : c.1 ≤ 3 ∧ c.2 ≤ 3) (ho : rok c l = true) (hq : ∀ i, i ≤ l.length → M.1 41 0 i = Int32.ofNat (rpt c l i).1 ∧ M.1 42 0 i = Int32.ofNat (rpt c l i).2) (hx : sx < 4) (hy : sy < 4) : aC nS (d + 1) 245 [vR 36 0, vI (Int32.ofNat sx), vI (Int32.ofNat sy)] M (fun v M' => v = some (vI (i01 (rwi c sx sy l))) ∧ M = M') (fun _ _ => False) := by
  refine aC_mk rfl rfl ?_
  intro K hK _
  have lp : ∀ (m i : Nat) (v z : Int32) (l5 l6 : Option aV), l.length - i = m → i ≤ l.length → v = i01 (rwi c sx sy (rfi l i)) → z = Int32.ofNat i → K 5 [some (vR 36 0), some (vI (Int32.ofNat sx)), some (vI (Int32.ofNat sy)), some (vI v), some (vI z), l5, l6] [] M := by
    intro m
    induction m with
    | zero =>
      intro i v z l5 l6 hm hi hv hz
      subst hz
      refine hK _ _ _ _ (hK _ _ _ _ (hK _ _ _ _ (hK _ _ _ _ (⟨fun h9 => ?_, fun h9 => ?_⟩))))
      · have ev : v = i01 (rwi c sx sy l) := by rw [hv, show i = l.length by omega, rfi_n]
        cases hw : rwi c sx sy l with
        | false =>
          rw [hw] at ev
          subst ev
          exact hK _ _ _ _ (hK _ _ _ _ (⟨Or.inl rfl, (show some (vI (i01 false)) = some (vI (i01 (rwi c sx sy l))) from by rw [hw]), rfl⟩))
        | true =>
          rw [hw] at ev
          subst ev
          exact hK _ _ _ _ (hK _ _ _ _ (⟨Or.inr rfl, (show some (vI (i01 true)) = some (vI (i01 (rwi c sx sy l))) from by rw [hw]), rfl⟩))
      · exact absurd (x_nge (x := i) (y := l.length) rfl hn (by omega) (by omega) h9) (by omega)
    | succ m ih =>
      intro i v z l5 l6 hm hi hv hz
      subst hz
      have hi2 : i < l.length := by omega
      obtain ⟨y, e1, y4, mo⟩ := rfi_i ho hi2
      have p0 := rps_3 c0 (rfi l i) (rok_drop _ ho)
      obtain ⟨p1, p2, p3⟩ := rstep y4 p0 mo
      have e2 : rps c (rfi l (i + 1)) = rmv y (rps c (rfi l i)) := by
        rw [e1]
        rfl
      have x0 : M.1 41 0 i = Int32.ofNat (rps c (rfi l i)).1 := (hq i (by omega)).1
      have y0 : M.1 42 0 i = Int32.ofNat (rps c (rfi l i)).2 := (hq i (by omega)).2
      have x1 : M.1 41 0 (i + 1) = Int32.ofNat (rmv y (rps c (rfi l i))).1 := by
        rw [← e2]
        exact (hq (i + 1) hi2).1
      have y1 : M.1 42 0 (i + 1) = Int32.ofNat (rmv y (rps c (rfi l i))).2 := by
        rw [← e2]
        exact (hq (i + 1) hi2).2
      have e3 : rwi c sx sy (rfi l (i + 1)) = xor (rwi c sx sy (rfi l i)) (Nat.beq (y % 2) 1 && (Nat.beq (rlo y (rps c (rfi l i))) sy && Nat.ble (rps c (rfi l i)).1 sx)) := by
        rw [e1]
        rfl
      have fin : ∀ (t : Bool) (l5 l6 : Option aV), t = (Nat.beq (y % 2) 1 && (Nat.beq (rlo y (rps c (rfi l i))) sy && Nat.ble (rps c (rfi l i)).1 sx)) → K 108 [some (vR 36 0), some (vI (Int32.ofNat sx)), some (vI (Int32.ofNat sy)), some (vI v), some (vI (Int32.ofNat i)), l5, l6] [vI (i01 t), vI v] M := by
        intro t l5 l6 ht
        rw [← ht] at e3
        rw [hv]
        refine hK _ _ _ _ (⟨fun h5 => ?_, fun h5 => ?_⟩)
        · refine hK _ _ _ _ (hK _ _ _ _ (hK _ _ _ _ (hK _ _ _ _ (?_))))
          exact ih (i + 1) _ _ _ _ (by omega) (by omega) (by rw [e3]; exact x01_eq h5) hI_s
        · refine hK _ _ _ _ (hK _ _ _ _ (hK _ _ _ _ (hK _ _ _ _ (hK _ _ _ _ (?_)))))
          exact ih (i + 1) _ _ _ _ (by omega) (by omega) (by rw [e3]; exact x01_ne h5) hI_s
      have mid : ∀ (up : Bool) (lo : Nat) (l6 : Option aV), up = Nat.beq (y % 2) 1 → (y % 2 = 1 → lo = rlo y (rps c (rfi l i))) → lo ≤ 3 → K 78 [some (vR 36 0), some (vI (Int32.ofNat sx)), some (vI (Int32.ofNat sy)), some (vI v), some (vI (Int32.ofNat i)), some (vI (i01 up)), l6] [vI (Int32.ofNat lo)] M := by
        intro up lo l6 hu hlo h3
        cases hup : up with
        | false =>
          subst hup
          refine hK _ _ _ _ (hK _ _ _ _ (hK _ _ _ _ (hK _ _ _ _ (⟨fun _ => ?_, fun q => (by first | exact absurd q (by decide) | exact absurd rfl q | exact absurd (by decide) q)⟩))))
          refine hK _ _ _ _ (?_)
          exact fin false _ _ (by rw [← hu]; rfl)
        | true =>
          subst hup
          have hy1 : y % 2 = 1 := Nat.eq_of_beq_eq_true hu.symm
          have hlo := hlo hy1
          refine hK _ _ _ _ (hK _ _ _ _ (hK _ _ _ _ (hK _ _ _ _ (⟨fun q => (by first | exact absurd q (by decide) | exact absurd rfl q | exact absurd (by decide) q), fun _ => ?_⟩))))
          refine hK _ _ _ _ (hK _ _ _ _ (hK _ _ _ _ (hK _ _ _ _ (⟨x_vp (a := i) rfl (show i < 109 by omega) (by decide), ?_⟩))))
          rw [x_cl (j := Int32.ofNat i) (a := i) rfl (by omega), x0]
          refine hK _ _ _ _ (hK _ _ _ _ (⟨fun h5 => ?_, fun h5 => ?_⟩))
          · have h6 := x_lt (x := sx) (y := (rps c (rfi l i)).1) rfl rfl (by omega) (by omega) h5
            refine hK _ _ _ _ (?_)
            exact fin false _ _ (by rw [x_nble (show ¬ (rps c (rfi l i)).1 ≤ sx by omega), Bool.and_false, Bool.and_false])
          · have h6 := x_nlt (x := sx) (y := (rps c (rfi l i)).1) rfl rfl (by omega) (by omega) h5
            refine hK _ _ _ _ (hK _ _ _ _ (hK _ _ _ _ (⟨fun h7 => ?_, fun h7 => ?_⟩)))
            · refine hK _ _ _ _ (?_)
              exact fin false _ _ (by rw [x_nbeq (show ¬ rlo y (rps c (rfi l i)) = sy from fun z => h7 (by rw [hlo, z])), Bool.false_and, Bool.and_false])
            · have h8 := x_inj (x := lo) (y := sy) (by omega) (by omega) h7
              refine hK _ _ _ _ (hK _ _ _ _ (?_))
              exact fin true _ _ (by rw [← hu, x_beq (show rlo y (rps c (rfi l i)) = sy from hlo.symm.trans h8), Nat.ble_eq_true_of_le h6]; rfl)
      have low : ∀ (up : Bool) (l6 : Option aV), up = Nat.beq (y % 2) 1 → K 40 [some (vR 36 0), some (vI (Int32.ofNat sx)), some (vI (Int32.ofNat sy)), some (vI v), some (vI (Int32.ofNat i)), some (vI (i01 up)), l6] [] M := by
        intro up l6 hu
        refine hK _ _ _ _ (hK _ _ _ _ (hK _ _ _ _ (hK _ _ _ _ (⟨x_vp (a := i) rfl (show i < 109 by omega) (by decide), ?_⟩))))
        rw [x_cl (j := Int32.ofNat i) (a := i) rfl (by omega), y0]
        refine hK _ _ _ _ (hK _ _ _ _ (hK _ _ _ _ (hK _ _ _ _ (hK _ _ _ _ (hK _ _ _ _ (⟨x_vp (a := i + 1) hI_s (show i + 1 < 109 by omega) (by decide), ?_⟩))))))
        rw [x_cl (j := Int32.ofNat i + 1) (a := i + 1) hI_s (by omega), y1]
        refine hK _ _ _ _ (⟨fun h5 => ?_, fun h5 => ?_⟩)
        · have h6 := x_ge (x := (rps c (rfi l i)).2) (y := (rmv y (rps c (rfi l i))).2) rfl rfl (by omega) (by omega) h5
          refine hK _ _ _ _ (hK _ _ _ _ (hK _ _ _ _ (hK _ _ _ _ (hK _ _ _ _ (hK _ _ _ _ (⟨x_vp (a := i + 1) hI_s (show i + 1 < 109 by omega) (by decide), ?_⟩))))))
          rw [x_cl (j := Int32.ofNat i + 1) (a := i + 1) hI_s (by omega), y1]
          exact mid up _ _ hu (fun z => by rw [← p3 z, if_neg (show ¬ (rps c (rfi l i)).2 < (rmv y (rps c (rfi l i))).2 by omega)]) p1.2
        · have h6 := x_nge (x := (rps c (rfi l i)).2) (y := (rmv y (rps c (rfi l i))).2) rfl rfl (by omega) (by omega) h5
          refine hK _ _ _ _ (hK _ _ _ _ (hK _ _ _ _ (hK _ _ _ _ (⟨x_vp (a := i) rfl (show i < 109 by omega) (by decide), ?_⟩))))
          rw [x_cl (j := Int32.ofNat i) (a := i) rfl (by omega), y0]
          refine hK _ _ _ _ (?_)
          exact mid up _ _ hu (fun z => by rw [← p3 z, if_pos h6]) p0.2
      refine hK _ _ _ _ (hK _ _ _ _ (hK _ _ _ _ (hK _ _ _ _ (⟨fun h9 => ?_, fun h9 => ?_⟩))))
      · exact absurd (x_ge (x := i) (y := l.length) rfl hn (by omega) (by omega) h9) (by omega)
      refine hK _ _ _ _ (hK _ _ _ _ (hK _ _ _ _ (hK _ _ _ _ (⟨x_vp (a := i) rfl (show i < 109 by omega) (by decide), ?_⟩))))
      rw [x_cl (j := Int32.ofNat i) (a := i) rfl (by omega), x0]
      refine hK _ _ _ _ (hK _ _ _ _ (hK _ _ _ _ (hK _ _ _ _ (hK _ _ _ _ (hK _ _ _ _ (⟨x_vp (a := i + 1) hI_s (show i + 1 < 109 by omega) (by decide), ?_⟩))))))
      rw [x_cl (j := Int32.ofNat i + 1) (a := i + 1) hI_s (by omega), x1]
      refine hK _ _ _ _ (⟨fun h5 => ?_, fun h5 => ?_⟩)
      · refine hK _ _ _ _ (hK _ _ _ _ (?_))
        exact low false _ (x_nbeq (show ¬ y % 2 = 1 from fun z => h5 (congrArg Int32.ofNat (p2.mpr z)))).symm
      · have h6 := x_inj (x := (rps c (rfi l i)).1) (y := (rmv y (rps c (rfi l i))).1) (by omega) (by omega) h5
        refine hK _ _ _ _ (hK _ _ _ _ (hK _ _ _ _ (?_)))
        exact low true _ (x_beq (p2.mp h6)).symm
  refine hK _ _ _ _ (hK _ _ _ _ (hK _ _ _ _ (hK _ _ _ _ (?_))))
  exact lp _ 0 _ _ _ _ rfl (Nat.zero_le _) (by rw [rfi_0]; rfl) rfl
theorem r_isClockwise {nS d : Nat} {M : aM} {c : Nat × Nat} {l : List Nat} (hn : M.1 36 0 16 = Int32.ofNat l.length) (hl : l.length ≤ 108) (c0 : c.1 ≤ 3 ∧ c.2 ≤ 3) (ho : rok c l = true) (hq : ∀ i, i ≤ l.length → M.1 41 0 i = Int32.ofNat (rpt c l i).1 ∧ M.1 42 0 i = Int32.ofNat (rpt c l i).2) : aC nS (d + 1) 246 [vR 36 0] M (fun v M' => v = some (vI (i01 (decide (rar c l < 0)))) ∧ M = M') (fun _ _ => False) := by
  obtain ⟨b1, b2⟩ := rar_b c0 l ho
  refine aC_mk rfl rfl ?_
  intro K hK _
  have lp : ∀ (m i : Nat) (A z : Int32), l.length - i = m → i ≤ l.length → A = Int32.ofInt (rar c (rfi l i)) → z = Int32.ofNat i → K 4 [some (vR 36 0), some (vI A), some (vI z)] [] M := by
    intro m
    induction m with
    | zero =>
      intro i A z hm hi hA hz
      subst hz
      refine hK _ _ _ _ (hK _ _ _ _ (hK _ _ _ _ (hK _ _ _ _ (⟨fun h9 => ?_, fun h9 => ?_⟩))))
      · have eA : A = Int32.ofInt (rar c l) := by rw [hA, show i = l.length by omega, rfi_n]
        subst eA
        refine hK _ _ _ _ (hK _ _ _ _ (⟨fun h5 => ?_, fun h5 => ?_⟩))
        · have h6 := (rar_ge (by omega) (by omega)).mp h5
          exact hK _ _ _ _ (hK _ _ _ _ (⟨Or.inl rfl, (show some (vI 0) = some (vI (i01 (decide (rar c l < 0)))) from by rw [decide_eq_false h6]; rfl), rfl⟩))
        · have h6 : rar c l < 0 := Classical.byContradiction (fun z => h5 ((rar_ge (by omega) (by omega)).mpr z))
          exact hK _ _ _ _ (hK _ _ _ _ (hK _ _ _ _ (⟨Or.inr rfl, (show some (vI 1) = some (vI (i01 (decide (rar c l < 0)))) from by rw [decide_eq_true h6]; rfl), rfl⟩)))
      · exact absurd (x_nge (x := i) (y := l.length) rfl hn (by omega) (by omega) h9) (by omega)
    | succ m ih =>
      intro i A z hm hi hA hz
      subst hz
      have hi2 : i < l.length := by omega
      obtain ⟨y, e1, y4, mo⟩ := rfi_i ho hi2
      have p0 := rps_3 c0 (rfi l i) (rok_drop _ ho)
      obtain ⟨p1, p2, p3⟩ := rstep y4 p0 mo
      have e2 : rps c (rfi l (i + 1)) = rmv y (rps c (rfi l i)) := by
        rw [e1]
        rfl
      have x0 : M.1 41 0 i = Int32.ofNat (rps c (rfi l i)).1 := (hq i (by omega)).1
      have y0 : M.1 42 0 i = Int32.ofNat (rps c (rfi l i)).2 := (hq i (by omega)).2
      have x1 : M.1 41 0 (i + 1) = Int32.ofNat (rmv y (rps c (rfi l i))).1 := by
        rw [← e2]
        exact (hq (i + 1) hi2).1
      have y1 : M.1 42 0 (i + 1) = Int32.ofNat (rmv y (rps c (rfi l i))).2 := by
        rw [← e2]
        exact (hq (i + 1) hi2).2
      refine hK _ _ _ _ (hK _ _ _ _ (hK _ _ _ _ (hK _ _ _ _ (⟨fun h9 => ?_, fun h9 => ?_⟩))))
      · exact absurd (x_ge (x := i) (y := l.length) rfl hn (by omega) (by omega) h9) (by omega)
      refine hK _ _ _ _ (hK _ _ _ _ (hK _ _ _ _ (hK _ _ _ _ (hK _ _ _ _ (⟨x_vp (a := i) rfl (show i < 109 by omega) (by decide), ?_⟩)))))
      rw [x_cl (j := Int32.ofNat i) (a := i) rfl (by omega), x0]
      refine hK _ _ _ _ (hK _ _ _ _ (hK _ _ _ _ (hK _ _ _ _ (hK _ _ _ _ (hK _ _ _ _ (⟨x_vp (a := i + 1) hI_s (show i + 1 < 109 by omega) (by decide), ?_⟩))))))
      rw [x_cl (j := Int32.ofNat i + 1) (a := i + 1) hI_s (by omega), y1]
      refine hK _ _ _ _ (hK _ _ _ _ (hK _ _ _ _ (hK _ _ _ _ (hK _ _ _ _ (hK _ _ _ _ (hK _ _ _ _ (⟨x_vp (a := i + 1) hI_s (show i + 1 < 109 by omega) (by decide), ?_⟩)))))))
      rw [x_cl (j := Int32.ofNat i + 1) (a := i + 1) hI_s (by omega), x1]
      refine hK _ _ _ _ (hK _ _ _ _ (hK _ _ _ _ (hK _ _ _ _ (⟨x_vp (a := i) rfl (show i < 109 by omega) (by decide), ?_⟩))))
      rw [x_cl (j := Int32.ofNat i) (a := i) rfl (by omega), y0]
      refine hK _ _ _ _ (hK _ _ _ _ (hK _ _ _ _ (hK _ _ _ _ (hK _ _ _ _ (hK _ _ _ _ (?_))))))
      exact ih (i + 1) _ _ (by omega) (by omega) (by rw [e1]; exact rar_s hA) hI_s
  refine hK _ _ _ _ (hK _ _ _ _ (hK _ _ _ _ (hK _ _ _ _ (?_))))
  exact lp _ 0 _ _ rfl (Nat.zero_le _) (by rw [rfi_0]; rfl) rfl
