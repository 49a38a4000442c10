def hsum (H : Nat → Int32) : Nat → Int32
  | 0 => 0
  | j + 1 => hsum H j + H j
def hs9 (X : Int32) : Nat → Int32
  | 0 => 0
  | i + 1 => hs9 X i + ((X >>> (Int32.ofNat i &&& 31)) &&& 1)
theorem x_bit0 : (List.range 512).all (fun b => (List.range 9).all (fun i => decide ((Int32.ofNat b >>> (Int32.ofNat i &&& 31)) &&& 1 = if b.testBit i = true then 1 else 0))) = true := by decide +kernel
theorem x_bit {b i : Nat} (hb : b < 512) (hi : i < 9) : (Int32.ofNat b >>> (Int32.ofNat i &&& 31)) &&& 1 = if b.testBit i = true then 1 else 0 := of_decide_eq_true (List.all_eq_true.mp (List.all_eq_true.mp x_bit0 b (List.mem_range.mpr hb)) i (List.mem_range.mpr hi))
theorem hs_eq {X : Int32} {H : Nat → Int32} (h : rH X H) : hs9 X 9 = hsum H 16 := by
  obtain ⟨b, hb, rfl, h1, h0⟩ := h
  have k : ∀ x y, x < 3 → y < 3 → (Int32.ofNat b >>> (Int32.ofNat (3 * y + x) &&& 31)) &&& 1 = H (y * 4 + x) := fun x y hx hy => (x_bit hb (by omega)).trans (h1 x y hx hy).symm
  have k0 : (Int32.ofNat b >>> (Int32.ofNat 0 &&& 31)) &&& 1 = H 0 := k 0 0 (by decide) (by decide)
  have k1 : (Int32.ofNat b >>> (Int32.ofNat 1 &&& 31)) &&& 1 = H 1 := k 1 0 (by decide) (by decide)
  have k2 : (Int32.ofNat b >>> (Int32.ofNat 2 &&& 31)) &&& 1 = H 2 := k 2 0 (by decide) (by decide)
  have k3 : (Int32.ofNat b >>> (Int32.ofNat 3 &&& 31)) &&& 1 = H 4 := k 0 1 (by decide) (by decide)
  have k4 : (Int32.ofNat b >>> (Int32.ofNat 4 &&& 31)) &&& 1 = H 5 := k 1 1 (by decide) (by decide)
  have k5 : (Int32.ofNat b >>> (Int32.ofNat 5 &&& 31)) &&& 1 = H 6 := k 2 1 (by decide) (by decide)
  have k6 : (Int32.ofNat b >>> (Int32.ofNat 6 &&& 31)) &&& 1 = H 8 := k 0 2 (by decide) (by decide)
  have k7 : (Int32.ofNat b >>> (Int32.ofNat 7 &&& 31)) &&& 1 = H 9 := k 1 2 (by decide) (by decide)
  have k8 : (Int32.ofNat b >>> (Int32.ofNat 8 &&& 31)) &&& 1 = H 10 := k 2 2 (by decide) (by decide)
  have z3 : H 3 = 0 := h0 3 (by decide) (by decide)
  have z7 : H 7 = 0 := h0 7 (by decide) (by decide)
  have z11 : H 11 = 0 := h0 11 (by decide) (by decide)
  have z12 : H 12 = 0 := h0 12 (by decide) (by decide)
  have z13 : H 13 = 0 := h0 13 (by decide) (by decide)
  have z14 : H 14 = 0 := h0 14 (by decide) (by decide)
  have z15 : H 15 = 0 := h0 15 (by decide) (by decide)
  simp only [hs9, hsum, k0, k1, k2, k3, k4, k5, k6, k7, k8, z3, z7, z11, z12, z13, z14, z15, Int32.add_zero]
/-- what count answers -/
def cv (e : xB) (n k : Nat) (T : Int32) : Nat → Int32
  | 0 => T
  | 1 => Int32.ofNat e.1.1
  | 2 => Int32.ofNat e.1.2
  | 3 => Int32.ofNat (kc e.1.1 e.1.2)
  | 4 => Int32.ofNat e.2.1.1
  | 5 => Int32.ofNat e.2.1.2.1
  | 6 => Int32.ofNat e.2.1.2.2
  | 7 => Int32.ofNat (xcols e.2.1.1 e.2.1.2.2 * xrows e.2.1.2.1 e.2.1.2.2)
  | 8 => Int32.ofNat (e.2.1.1 * xrows e.2.1.2.1 e.2.1.2.2 + e.2.1.2.1 * xcols e.2.1.1 e.2.1.2.2)
  | 9 => hsum e.2.2.2.1 16
  | 10 => Int32.ofNat n
  | 11 => Int32.ofNat k - Int32.ofNat n
  | _ => Int32.ofNat (cmo e.1.1 e.1.2 0 e.1.2)
def CV (e : xB) (n k : Nat) (T a x : Int32) : Prop := (∃ u, u ≤ 12 ∧ a = Int32.ofNat u ∧ x = cv e n k T u) ∨ ((∀ u, u ≤ 12 → ¬ a = Int32.ofNat u) ∧ x = -1)
theorem CV_fn {e : xB} {n k : Nat} {T a x y : Int32} (h1 : CV e n k T a x) (h2 : CV e n k T a y) : x = y := by
  rcases h1 with ⟨u, hu, ea, ex⟩ | ⟨hn, ex⟩
  · rcases h2 with ⟨w, hw, eb, ey⟩ | ⟨hn, -⟩
    · have : u = w := x_inj (by omega) (by omega) (ea.symm.trans eb)
      subst this
      exact ex.trans ey.symm
    · exact absurd ea (hn u hu)
  · rcases h2 with ⟨w, hw, eb, -⟩ | ⟨-, ey⟩
    · exact absurd eb (hn w hw)
    · exact ex.trans ey.symm
theorem x_13 {u : Nat} (h : u ≤ 12) : u = 0 ∨ u = 1 ∨ u = 2 ∨ u = 3 ∨ u = 4 ∨ u = 5 ∨ u = 6 ∨ u = 7 ∨ u = 8 ∨ u = 9 ∨ u = 10 ∨ u = 11 ∨ u = 12 := by omega
theorem cpp_0 {k o : Nat} (hq : (k, o) ∈ gP) : cs (lkb k o) o o = cmo k o 0 o := Nat.eq_of_beq_eq_true (gP_all (P := fun k o => Nat.beq (cs (lkb k o) o o) (cmo k o 0 o)) (by decide +kernel) hq)
theorem b_corners {nS d i : Nat} {M : aM} : aC nS (d + 1) 14 [vR 4 i] M (fun v M' => v = some (vI (M.1 4 i 5 * M.1 4 i 6)) ∧ M = M') (fun _ _ => False) := by
  refine aC_mk rfl rfl ?_
  intro K hK _
  exact hK _ _ _ _ (hK _ _ _ _ (hK _ _ _ _ (hK _ _ _ _ (hK _ _ _ _ (hK _ _ _ _ (⟨rfl, rfl⟩))))))
theorem b_lines {nS d i : Nat} {M : aM} : aC nS (d + 1) 15 [vR 4 i] M (fun v M' => v = some (vI (M.1 4 i 1 * M.1 4 i 6 + M.1 4 i 5 * M.1 4 i 2)) ∧ M = M') (fun _ _ => False) := by
  refine aC_mk rfl rfl ?_
  intro K hK _
  exact hK _ _ _ _ (hK _ _ _ _ (hK _ _ _ _ (hK _ _ _ _ (hK _ _ _ _ (hK _ _ _ _ (hK _ _ _ _ (hK _ _ _ _ (hK _ _ _ _ (hK _ _ _ _ (hK _ _ _ _ (hK _ _ _ _ (⟨rfl, rfl⟩))))))))))))
theorem b_undoable {nS d i : Nat} {M : aM} : aC nS (d + 1) 79 [vR 20 i] M (fun v M' => v = some (vI (M.1 20 i 4)) ∧ M = M') (fun _ _ => False) := by
  refine aC_mk rfl rfl ?_
  intro K hK _
  exact hK _ _ _ _ (hK _ _ _ _ (hK _ _ _ _ (⟨rfl, rfl⟩)))
theorem b_redoable {nS d i : Nat} {M : aM} : aC nS (d + 1) 80 [vR 20 i] M (fun v M' => v = some (vI (M.1 20 i 5 - M.1 20 i 4)) ∧ M = M') (fun _ _ => False) := by
  refine aC_mk rfl rfl ?_
  intro K hK _
  exact hK _ _ _ _ (hK _ _ _ _ (hK _ _ _ _ (hK _ _ _ _ (hK _ _ _ _ (hK _ _ _ _ (⟨rfl, rfl⟩))))))
theorem b_holes {nS d i : Nat} {M : aM} {H : Nat → Int32} (hh : ∀ j, j < 16 → M.1 14 i j = H j) : aC nS (d + 2) 16 [vR 4 i] M (fun v M' => v = some (vI (hsum H 16)) ∧ M = M') (fun _ _ => False) := by
  refine aC_mk rfl rfl ?_
  intro K hK _
  have lp : ∀ (m j : Nat) (x y : Int32), 16 - j = m → j ≤ 16 → x = hsum H j → y = Int32.ofNat j → K 4 [some (vR 4 i), some (vI x), some (vI y)] [] M := by
    intro m
    induction m with
    | zero =>
      intro j x y hm hj hx hy
      subst hx
      subst hy
      refine hK _ _ _ _ (hK _ _ _ _ (hK _ _ _ _ (⟨fun h => ?_, fun h => ?_⟩)))
      · exact hK _ _ _ _ (hK _ _ _ _ (⟨by rw [show j = 16 by omega], rfl⟩))
      · exact absurd (x_nge (x := j) (y := 16) rfl rfl (by omega) (by decide) h) (by omega)
    | succ m ih =>
      intro j x y hm hj hx hy
      subst hx
      subst hy
      have hjo : j < 16 := by omega
      refine hK _ _ _ _ (hK _ _ _ _ (hK _ _ _ _ (⟨fun h => ?_, fun h => ?_⟩)))
      · exact absurd (x_ge (x := j) (y := 16) rfl rfl (by omega) (by decide) h) (by omega)
      · refine hK _ _ _ _ (hK _ _ _ _ (hK _ _ _ _ (hK _ _ _ _ (hK _ _ _ _ (⟨_, g_at14 rfl hjo, rfl, fun v16 M16 g16 => ?_⟩)))))
        obtain ⟨rfl, rfl⟩ := g16
        rw [hh j hjo]
        refine hK _ _ _ _ (hK _ _ _ _ (hK _ _ _ _ (hK _ _ _ _ (?_))))
        exact ih (j + 1) _ _ (by omega) (by omega) rfl hI_s
  refine hK _ _ _ _ (hK _ _ _ _ (hK _ _ _ _ (hK _ _ _ _ (?_))))
  exact lp _ 0 _ _ rfl (Nat.zero_le _) rfl rfl
theorem c_countX {nS n k : Nat} {M : aM} {a1 T : Int32} {e : xB} (hB : cB 0 M e) (hT : M.1 4 0 4 = T) (h4 : M.1 20 0 4 = Int32.ofNat n) (h5 : M.1 20 0 5 = Int32.ofNat k) : aC nS 60 177 [vR 0 0, vI a1] M (fun v M' => (∃ x, v = some (vI x) ∧ CV e n k T a1 x) ∧ M = M') (fun _ _ => False) := by
  obtain ⟨ho, o2, o8, hS, w1, w3, h1, h3, s2⟩ := cB_h hB
  have xc := xcols_b (s := e.2.1.2.2) w1 w3
  have xr := xrows_b (s := e.2.1.2.2) h1 h3
  have hF := hB.1
  refine aC_mk rfl rfl ?_
  intro K hK _
  refine hK _ _ _ _ (hK _ _ _ _ (⟨⟨fun q => ?_, fun q => ?_, fun q => ?_, fun q => ?_, fun q => ?_, fun q => ?_, fun q => ?_, fun q => ?_, fun q => ?_, fun q => ?_, fun q => ?_, fun q => ?_, fun q => ?_, trivial⟩, fun q => ?_⟩))
  · subst q
    refine hK _ _ _ _ (hK _ _ _ _ (hK _ _ _ _ (⟨_, b_texts, rfl, fun v72 M72 g72 => ?_⟩)))
    obtain ⟨rfl, rfl⟩ := g72
    rw [hT]
    exact hK _ _ _ _ (⟨⟨_, rfl, Or.inl ⟨0, by decide, rfl, rfl⟩⟩, rfl⟩)
  · subst q
    refine hK _ _ _ _ (hK _ _ _ _ (hK _ _ _ _ (⟨_, b_group, rfl, fun v80 M80 g80 => ?_⟩)))
    obtain ⟨rfl, rfl⟩ := g80
    refine hK _ _ _ _ (⟨_, b_kind, rfl, fun v83 M83 g83 => ?_⟩)
    obtain ⟨rfl, rfl⟩ := g83
    rw [hF.1.2.1]
    exact hK _ _ _ _ (⟨⟨_, rfl, Or.inl ⟨1, by decide, rfl, rfl⟩⟩, rfl⟩)
  · subst q
    refine hK _ _ _ _ (hK _ _ _ _ (hK _ _ _ _ (⟨_, b_group, rfl, fun v91 M91 g91 => ?_⟩)))
    obtain ⟨rfl, rfl⟩ := g91
    refine hK _ _ _ _ (⟨_, b_order, rfl, fun v94 M94 g94 => ?_⟩)
    obtain ⟨rfl, rfl⟩ := g94
    rw [hF.1.2.2]
    exact hK _ _ _ _ (⟨⟨_, rfl, Or.inl ⟨2, by decide, rfl, rfl⟩⟩, rfl⟩)
  · subst q
    refine hK _ _ _ _ (hK _ _ _ _ (hK _ _ _ _ (⟨_, b_group, rfl, fun v102 M102 g102 => ?_⟩)))
    obtain ⟨rfl, rfl⟩ := g102
    refine hK _ _ _ _ (⟨_, b_kins, rfl, fun v105 M105 g105 => ?_⟩)
    obtain ⟨rfl, rfl⟩ := g105
    rw [hF.2.2.1]
    exact hK _ _ _ _ (⟨⟨_, rfl, Or.inl ⟨3, by decide, rfl, rfl⟩⟩, rfl⟩)
  · subst q
    refine hK _ _ _ _ (hK _ _ _ _ (hK _ _ _ _ (⟨_, b_wide, rfl, fun v113 M113 g113 => ?_⟩)))
    obtain ⟨rfl, rfl⟩ := g113
    rw [hS.1]
    exact hK _ _ _ _ (⟨⟨_, rfl, Or.inl ⟨4, by decide, rfl, rfl⟩⟩, rfl⟩)
  · subst q
    refine hK _ _ _ _ (hK _ _ _ _ (hK _ _ _ _ (⟨_, b_high, rfl, fun v121 M121 g121 => ?_⟩)))
    obtain ⟨rfl, rfl⟩ := g121
    rw [hS.2.1]
    exact hK _ _ _ _ (⟨⟨_, rfl, Or.inl ⟨5, by decide, rfl, rfl⟩⟩, rfl⟩)
  · subst q
    refine hK _ _ _ _ (hK _ _ _ _ (hK _ _ _ _ (⟨_, b_shape, rfl, fun v129 M129 g129 => ?_⟩)))
    obtain ⟨rfl, rfl⟩ := g129
    rw [hS.2.2.1]
    exact hK _ _ _ _ (⟨⟨_, rfl, Or.inl ⟨6, by decide, rfl, rfl⟩⟩, rfl⟩)
  · subst q
    refine hK _ _ _ _ (hK _ _ _ _ (hK _ _ _ _ (⟨_, b_corners, rfl, fun v137 M137 g137 => ?_⟩)))
    obtain ⟨rfl, rfl⟩ := g137
    rw [hS.2.2.2.1, hS.2.2.2.2, x_mul (show xcols e.2.1.1 e.2.1.2.2 < 1000 by omega) (show xrows e.2.1.2.1 e.2.1.2.2 < 1000 by omega)]
    exact hK _ _ _ _ (⟨⟨_, rfl, Or.inl ⟨7, by decide, rfl, rfl⟩⟩, rfl⟩)
  · subst q
    refine hK _ _ _ _ (hK _ _ _ _ (hK _ _ _ _ (⟨_, b_lines, rfl, fun v145 M145 g145 => ?_⟩)))
    obtain ⟨rfl, rfl⟩ := g145
    rw [hS.1, hS.2.1, hS.2.2.2.1, hS.2.2.2.2, x_mul (show e.2.1.1 < 1000 by omega) (show xrows e.2.1.2.1 e.2.1.2.2 < 1000 by omega), x_mul (show xcols e.2.1.1 e.2.1.2.2 < 1000 by omega) (show e.2.1.2.1 < 1000 by omega), Nat.mul_comm (xcols e.2.1.1 e.2.1.2.2) e.2.1.2.1, hI_ad]
    exact hK _ _ _ _ (⟨⟨_, rfl, Or.inl ⟨8, by decide, rfl, rfl⟩⟩, rfl⟩)
  · subst q
    refine hK _ _ _ _ (hK _ _ _ _ (hK _ _ _ _ (⟨_, b_holes (d := 57) hB.2.2.2.2.1, rfl, fun v153 M153 g153 => ?_⟩)))
    obtain ⟨rfl, rfl⟩ := g153
    exact hK _ _ _ _ (⟨⟨_, rfl, Or.inl ⟨9, by decide, rfl, rfl⟩⟩, rfl⟩)
  · subst q
    refine hK _ _ _ _ (hK _ _ _ _ (hK _ _ _ _ (⟨_, b_undoable, rfl, fun v161 M161 g161 => ?_⟩)))
    obtain ⟨rfl, rfl⟩ := g161
    rw [h4]
    exact hK _ _ _ _ (⟨⟨_, rfl, Or.inl ⟨10, by decide, rfl, rfl⟩⟩, rfl⟩)
  · subst q
    refine hK _ _ _ _ (hK _ _ _ _ (hK _ _ _ _ (⟨_, b_redoable, rfl, fun v169 M169 g169 => ?_⟩)))
    obtain ⟨rfl, rfl⟩ := g169
    rw [h4, h5]
    exact hK _ _ _ _ (⟨⟨_, rfl, Or.inl ⟨11, by decide, rfl, rfl⟩⟩, rfl⟩)
  · subst q
    refine hK _ _ _ _ (hK _ _ _ _ (hK _ _ _ _ (⟨_, b_group, rfl, fun v177 M177 g177 => ?_⟩)))
    obtain ⟨rfl, rfl⟩ := g177
    refine hK _ _ _ _ (hK _ _ _ _ (⟨_, b_commutators (t := 0) (d := 57) hF rfl (by decide), rfl, fun v181 M181 g181 => ?_⟩))
    obtain ⟨rfl, rfl⟩ := g181
    exact hK _ _ _ _ (⟨⟨_, rfl, Or.inl ⟨12, by decide, rfl, rfl⟩⟩, rfl⟩)
  · exact hK _ _ _ _ (hK _ _ _ _ (⟨⟨_, rfl, Or.inr ⟨fun u hu z => q u (show u < 13 by omega) z, rfl⟩⟩, rfl⟩))
theorem r_lineMany {nS d w h s : Nat} {M : aM} (hs : rS M w h s) (w1 : 1 ≤ w) (w3 : w ≤ 3) (h1 : 1 ≤ h) (h3 : h ≤ 3) (s2 : s ≤ 2) : aC nS (d + 2) 195 [vR 36 0] M (fun v M' => v = some (vI (Int32.ofNat (w * xrows h s + h * xcols w s))) ∧ M = M') (fun _ _ => False) := by
  have xc := xcols_b (s := s) w1 w3
  have xr := xrows_b (s := s) h1 h3
  refine aC_mk rfl rfl ?_
  intro K hK _
  refine hK _ _ _ _ (hK _ _ _ _ (hK _ _ _ _ (hK _ _ _ _ (⟨x_vp (a := 3) rfl (by decide) (by decide), ?_⟩))))
  rw [x_cl (j := 3) (a := 3) rfl (by decide), hs.1]
  refine hK _ _ _ _ (hK _ _ _ _ (⟨_, r_rowsOf hs h3 s2, rfl, fun v7 M7 g7 => ?_⟩))
  obtain ⟨rfl, rfl⟩ := g7
  refine hK _ _ _ _ (hK _ _ _ _ (hK _ _ _ _ (hK _ _ _ _ (hK _ _ _ _ (⟨x_vp (a := 4) rfl (by decide) (by decide), ?_⟩)))))
  rw [x_cl (j := 4) (a := 4) rfl (by decide), hs.2.1]
  refine hK _ _ _ _ (hK _ _ _ _ (⟨_, r_columns hs w3 s2, rfl, fun v18 M18 g18 => ?_⟩))
  obtain ⟨rfl, rfl⟩ := g18
  exact hK _ _ _ _ (hK _ _ _ _ (hK _ _ _ _ (⟨by rw [x_mul (show w < 1000 by omega) (show xrows h s < 1000 by omega), x_mul (show h < 1000 by omega) (show xcols w s < 1000 by omega), hI_ad], rfl⟩)))
theorem r_countX {nS n k : Nat} {M : aM} {a1 T : Int32} {e : xB} (hB : rB 37 M e) (hT : (a_pI M 36 0 0 0).1 37 0 0 = T) (h8 : (a_pI M 36 0 0 0).1 37 0 8 = Int32.ofNat n) (h7 : (a_pI M 36 0 0 0).1 37 0 7 = Int32.ofNat k) : aC nS 60 257 [vR 36 0, vI a1] M (fun v M' => (∃ x, v = some (vI x) ∧ CV e n k T a1 x) ∧ M' = a_pI M 36 0 0 0) (fun _ _ => False) := by
  have hB2 := rB_p (x := 0) hB
  obtain ⟨ho, o2, o8, hs, w1, w3, h1, h3, s2⟩ := rB_h hB2
  have hH := hB2.2.2.2.2
  have hs : rS (a_pI M 36 0 0 0) e.2.1.1 e.2.1.2.1 e.2.1.2.2 := hs
  have xc := xcols_b (s := e.2.1.2.2) w1 w3
  have xr := xrows_b (s := e.2.1.2.2) h1 h3
  have hg := gM_p (x := 0) (rB_g hB)
  refine aC_mk rfl rfl ?_
  intro K hK _
  have fin : ∀ (l4 l5 : Option aV), K 96 [some (vR 36 0), some (vI a1), some (vI (hs9 ((a_pI M 36 0 0 0).1 37 0 6) 9)), some (vI (Int32.ofNat (cs (lkb e.1.1 e.1.2) e.1.2 e.1.2))), l4, l5] [] (a_pI M 36 0 0 0) := by
    intro l4 l5
    by_cases hu : ∃ u, u ≤ 12 ∧ a1 = Int32.ofNat u
    · obtain ⟨u, hu, rfl⟩ := hu
      rcases x_13 hu with rfl | rfl | rfl | rfl | rfl | rfl | rfl | rfl | rfl | rfl | rfl | rfl | rfl
      · refine hK _ _ _ _ (hK _ _ _ _ (hK _ _ _ _ (⟨fun _ => ?_, fun h => absurd h (by decide)⟩)))
        refine hK _ _ _ _ (hK _ _ _ _ (hK _ _ _ _ (⟨fun _ => ?_, fun h => absurd h (by decide)⟩)))
        refine hK _ _ _ _ (hK _ _ _ _ (hK _ _ _ _ (⟨fun _ => ?_, fun h => absurd h (by decide)⟩)))
        refine hK _ _ _ _ (hK _ _ _ _ (⟨fun h => absurd (by decide) h, fun _ => ?_⟩))
        refine hK _ _ _ _ (hK _ _ _ _ (hK _ _ _ _ (hK _ _ _ _ (⟨x_vp (a := 0) rfl (by decide) (by decide), ?_⟩))))
        rw [x_cl (j := 0) (a := 0) rfl (by decide), hT]
        exact hK _ _ _ _ (hK _ _ _ _ (⟨⟨_, rfl, Or.inl ⟨0, by decide, rfl, rfl⟩⟩, rfl⟩))
      · refine hK _ _ _ _ (hK _ _ _ _ (hK _ _ _ _ (⟨fun _ => ?_, fun h => absurd h (by decide)⟩)))
        refine hK _ _ _ _ (hK _ _ _ _ (hK _ _ _ _ (⟨fun _ => ?_, fun h => absurd h (by decide)⟩)))
        refine hK _ _ _ _ (hK _ _ _ _ (hK _ _ _ _ (⟨fun _ => ?_, fun h => absurd h (by decide)⟩)))
        refine hK _ _ _ _ (hK _ _ _ _ (⟨fun _ => ?_, fun h => absurd h (by decide)⟩))
        refine hK _ _ _ _ (hK _ _ _ _ (hK _ _ _ _ (⟨fun h => absurd (by decide) h, fun _ => ?_⟩)))
        refine hK _ _ _ _ (hK _ _ _ _ (hK _ _ _ _ (hK _ _ _ _ (⟨x_vp (a := 1) rfl (by decide) (by decide), ?_⟩))))
        rw [x_cl (j := 1) (a := 1) rfl (by decide), hg.2.1]
        exact hK _ _ _ _ (hK _ _ _ _ (⟨⟨_, rfl, Or.inl ⟨1, by decide, rfl, rfl⟩⟩, rfl⟩))
      · refine hK _ _ _ _ (hK _ _ _ _ (hK _ _ _ _ (⟨fun _ => ?_, fun h => absurd h (by decide)⟩)))
        refine hK _ _ _ _ (hK _ _ _ _ (hK _ _ _ _ (⟨fun _ => ?_, fun h => absurd h (by decide)⟩)))
        refine hK _ _ _ _ (hK _ _ _ _ (hK _ _ _ _ (⟨fun _ => ?_, fun h => absurd h (by decide)⟩)))
        refine hK _ _ _ _ (hK _ _ _ _ (⟨fun _ => ?_, fun h => absurd h (by decide)⟩))
        refine hK _ _ _ _ (hK _ _ _ _ (hK _ _ _ _ (⟨fun _ => ?_, fun h => absurd h (by decide)⟩)))
        refine hK _ _ _ _ (hK _ _ _ _ (hK _ _ _ _ (⟨fun h => absurd (by decide) h, fun _ => ?_⟩)))
        refine hK _ _ _ _ (hK _ _ _ _ (hK _ _ _ _ (hK _ _ _ _ (⟨x_vp (a := 2) rfl (by decide) (by decide), ?_⟩))))
        rw [x_cl (j := 2) (a := 2) rfl (by decide), hg.2.2]
        exact hK _ _ _ _ (hK _ _ _ _ (⟨⟨_, rfl, Or.inl ⟨2, by decide, rfl, rfl⟩⟩, rfl⟩))
      · refine hK _ _ _ _ (hK _ _ _ _ (hK _ _ _ _ (⟨fun _ => ?_, fun h => absurd h (by decide)⟩)))
        refine hK _ _ _ _ (hK _ _ _ _ (hK _ _ _ _ (⟨fun _ => ?_, fun h => absurd h (by decide)⟩)))
        refine hK _ _ _ _ (hK _ _ _ _ (hK _ _ _ _ (⟨fun _ => ?_, fun h => absurd h (by decide)⟩)))
        refine hK _ _ _ _ (hK _ _ _ _ (⟨fun _ => ?_, fun h => absurd h (by decide)⟩))
        refine hK _ _ _ _ (hK _ _ _ _ (hK _ _ _ _ (⟨fun _ => ?_, fun h => absurd h (by decide)⟩)))
        refine hK _ _ _ _ (hK _ _ _ _ (hK _ _ _ _ (⟨fun _ => ?_, fun h => absurd h (by decide)⟩)))
        refine hK _ _ _ _ (hK _ _ _ _ (hK _ _ _ _ (⟨fun h => absurd (by decide) h, fun _ => ?_⟩)))
        refine hK _ _ _ _ (hK _ _ _ _ (⟨_, r_kins (d := 54) hg, rfl, fun v178 M178 g178 => ?_⟩))
        obtain ⟨rfl, rfl⟩ := g178
        exact hK _ _ _ _ (hK _ _ _ _ (⟨⟨_, rfl, Or.inl ⟨3, by decide, rfl, by rw [rkc_kc hg.1]; rfl⟩⟩, rfl⟩))
      · refine hK _ _ _ _ (hK _ _ _ _ (hK _ _ _ _ (⟨fun _ => ?_, fun h => absurd h (by decide)⟩)))
        refine hK _ _ _ _ (hK _ _ _ _ (hK _ _ _ _ (⟨fun _ => ?_, fun h => absurd h (by decide)⟩)))
        refine hK _ _ _ _ (hK _ _ _ _ (hK _ _ _ _ (⟨fun _ => ?_, fun h => absurd h (by decide)⟩)))
        refine hK _ _ _ _ (hK _ _ _ _ (⟨fun _ => ?_, fun h => absurd h (by decide)⟩))
        refine hK _ _ _ _ (hK _ _ _ _ (hK _ _ _ _ (⟨fun _ => ?_, fun h => absurd h (by decide)⟩)))
        refine hK _ _ _ _ (hK _ _ _ _ (hK _ _ _ _ (⟨fun _ => ?_, fun h => absurd h (by decide)⟩)))
        refine hK _ _ _ _ (hK _ _ _ _ (hK _ _ _ _ (⟨fun _ => ?_, fun h => absurd h (by decide)⟩)))
        refine hK _ _ _ _ (hK _ _ _ _ (hK _ _ _ _ (⟨fun h => absurd (by decide) h, fun _ => ?_⟩)))
        refine hK _ _ _ _ (hK _ _ _ _ (hK _ _ _ _ (hK _ _ _ _ (⟨x_vp (a := 3) rfl (by decide) (by decide), ?_⟩))))
        rw [x_cl (j := 3) (a := 3) rfl (by decide), hs.1]
        exact hK _ _ _ _ (hK _ _ _ _ (⟨⟨_, rfl, Or.inl ⟨4, by decide, rfl, rfl⟩⟩, rfl⟩))
      · refine hK _ _ _ _ (hK _ _ _ _ (hK _ _ _ _ (⟨fun _ => ?_, fun h => absurd h (by decide)⟩)))
        refine hK _ _ _ _ (hK _ _ _ _ (hK _ _ _ _ (⟨fun _ => ?_, fun h => absurd h (by decide)⟩)))
        refine hK _ _ _ _ (hK _ _ _ _ (hK _ _ _ _ (⟨fun _ => ?_, fun h => absurd h (by decide)⟩)))
        refine hK _ _ _ _ (hK _ _ _ _ (⟨fun _ => ?_, fun h => absurd h (by decide)⟩))
        refine hK _ _ _ _ (hK _ _ _ _ (hK _ _ _ _ (⟨fun _ => ?_, fun h => absurd h (by decide)⟩)))
        refine hK _ _ _ _ (hK _ _ _ _ (hK _ _ _ _ (⟨fun _ => ?_, fun h => absurd h (by decide)⟩)))
        refine hK _ _ _ _ (hK _ _ _ _ (hK _ _ _ _ (⟨fun _ => ?_, fun h => absurd h (by decide)⟩)))
        refine hK _ _ _ _ (hK _ _ _ _ (hK _ _ _ _ (⟨fun _ => ?_, fun h => absurd h (by decide)⟩)))
        refine hK _ _ _ _ (hK _ _ _ _ (hK _ _ _ _ (⟨fun h => absurd (by decide) h, fun _ => ?_⟩)))
        refine hK _ _ _ _ (hK _ _ _ _ (hK _ _ _ _ (hK _ _ _ _ (⟨x_vp (a := 4) rfl (by decide) (by decide), ?_⟩))))
        rw [x_cl (j := 4) (a := 4) rfl (by decide), hs.2.1]
        exact hK _ _ _ _ (hK _ _ _ _ (⟨⟨_, rfl, Or.inl ⟨5, by decide, rfl, rfl⟩⟩, rfl⟩))
      · refine hK _ _ _ _ (hK _ _ _ _ (hK _ _ _ _ (⟨fun _ => ?_, fun h => absurd h (by decide)⟩)))
        refine hK _ _ _ _ (hK _ _ _ _ (hK _ _ _ _ (⟨fun _ => ?_, fun h => absurd h (by decide)⟩)))
        refine hK _ _ _ _ (hK _ _ _ _ (hK _ _ _ _ (⟨fun _ => ?_, fun h => absurd h (by decide)⟩)))
        refine hK _ _ _ _ (hK _ _ _ _ (⟨fun _ => ?_, fun h => absurd h (by decide)⟩))
        refine hK _ _ _ _ (hK _ _ _ _ (hK _ _ _ _ (⟨fun _ => ?_, fun h => absurd h (by decide)⟩)))
        refine hK _ _ _ _ (hK _ _ _ _ (hK _ _ _ _ (⟨fun _ => ?_, fun h => absurd h (by decide)⟩)))
        refine hK _ _ _ _ (hK _ _ _ _ (hK _ _ _ _ (⟨fun _ => ?_, fun h => absurd h (by decide)⟩)))
        refine hK _ _ _ _ (hK _ _ _ _ (hK _ _ _ _ (⟨fun _ => ?_, fun h => absurd h (by decide)⟩)))
        refine hK _ _ _ _ (hK _ _ _ _ (hK _ _ _ _ (⟨fun _ => ?_, fun h => absurd h (by decide)⟩)))
        refine hK _ _ _ _ (hK _ _ _ _ (hK _ _ _ _ (⟨fun h => absurd (by decide) h, fun _ => ?_⟩)))
        refine hK _ _ _ _ (hK _ _ _ _ (hK _ _ _ _ (hK _ _ _ _ (⟨x_vp (a := 5) rfl (by decide) (by decide), ?_⟩))))
        rw [x_cl (j := 5) (a := 5) rfl (by decide), hs.2.2]
        exact hK _ _ _ _ (hK _ _ _ _ (⟨⟨_, rfl, Or.inl ⟨6, by decide, rfl, rfl⟩⟩, rfl⟩))
      · refine hK _ _ _ _ (hK _ _ _ _ (hK _ _ _ _ (⟨fun h => absurd (by decide) h, fun _ => ?_⟩)))
        refine hK _ _ _ _ (hK _ _ _ _ (⟨_, r_columns (d := 58) hs w3 s2, rfl, fun v103 M103 g103 => ?_⟩))
        obtain ⟨rfl, rfl⟩ := g103
        refine hK _ _ _ _ (hK _ _ _ _ (⟨_, r_rowsOf (d := 58) hs h3 s2, rfl, fun v107 M107 g107 => ?_⟩))
        obtain ⟨rfl, rfl⟩ := g107
        exact hK _ _ _ _ (hK _ _ _ _ (⟨⟨_, rfl, Or.inl ⟨7, by decide, rfl, by rw [x_mul (show xcols e.2.1.1 e.2.1.2.2 < 1000 by omega) (show xrows e.2.1.2.1 e.2.1.2.2 < 1000 by omega)]; rfl⟩⟩, rfl⟩))
      · refine hK _ _ _ _ (hK _ _ _ _ (hK _ _ _ _ (⟨fun _ => ?_, fun h => absurd h (by decide)⟩)))
        refine hK _ _ _ _ (hK _ _ _ _ (hK _ _ _ _ (⟨fun h => absurd (by decide) h, fun _ => ?_⟩)))
        refine hK _ _ _ _ (hK _ _ _ _ (⟨_, r_lineMany (d := 57) hs w1 w3 h1 h3 s2, rfl, fun v119 M119 g119 => ?_⟩))
        obtain ⟨rfl, rfl⟩ := g119
        exact hK _ _ _ _ (⟨⟨_, rfl, Or.inl ⟨8, by decide, rfl, rfl⟩⟩, rfl⟩)
      · refine hK _ _ _ _ (hK _ _ _ _ (hK _ _ _ _ (⟨fun _ => ?_, fun h => absurd h (by decide)⟩)))
        refine hK _ _ _ _ (hK _ _ _ _ (hK _ _ _ _ (⟨fun _ => ?_, fun h => absurd h (by decide)⟩)))
        refine hK _ _ _ _ (hK _ _ _ _ (hK _ _ _ _ (⟨fun _ => ?_, fun h => absurd h (by decide)⟩)))
        refine hK _ _ _ _ (hK _ _ _ _ (⟨fun _ => ?_, fun h => absurd h (by decide)⟩))
        refine hK _ _ _ _ (hK _ _ _ _ (hK _ _ _ _ (⟨fun _ => ?_, fun h => absurd h (by decide)⟩)))
        refine hK _ _ _ _ (hK _ _ _ _ (hK _ _ _ _ (⟨fun _ => ?_, fun h => absurd h (by decide)⟩)))
        refine hK _ _ _ _ (hK _ _ _ _ (hK _ _ _ _ (⟨fun _ => ?_, fun h => absurd h (by decide)⟩)))
        refine hK _ _ _ _ (hK _ _ _ _ (hK _ _ _ _ (⟨fun _ => ?_, fun h => absurd h (by decide)⟩)))
        refine hK _ _ _ _ (hK _ _ _ _ (hK _ _ _ _ (⟨fun _ => ?_, fun h => absurd h (by decide)⟩)))
        refine hK _ _ _ _ (hK _ _ _ _ (hK _ _ _ _ (⟨fun _ => ?_, fun h => absurd h (by decide)⟩)))
        refine hK _ _ _ _ (hK _ _ _ _ (hK _ _ _ _ (⟨fun h => absurd (by decide) h, fun _ => ?_⟩)))
        exact hK _ _ _ _ (hK _ _ _ _ (hK _ _ _ _ (⟨⟨_, rfl, Or.inl ⟨9, by decide, rfl, hs_eq hH⟩⟩, rfl⟩)))
      · refine hK _ _ _ _ (hK _ _ _ _ (hK _ _ _ _ (⟨fun _ => ?_, fun h => absurd h (by decide)⟩)))
        refine hK _ _ _ _ (hK _ _ _ _ (hK _ _ _ _ (⟨fun _ => ?_, fun h => absurd h (by decide)⟩)))
        refine hK _ _ _ _ (hK _ _ _ _ (hK _ _ _ _ (⟨fun _ => ?_, fun h => absurd h (by decide)⟩)))
        refine hK _ _ _ _ (hK _ _ _ _ (⟨fun _ => ?_, fun h => absurd h (by decide)⟩))
        refine hK _ _ _ _ (hK _ _ _ _ (hK _ _ _ _ (⟨fun _ => ?_, fun h => absurd h (by decide)⟩)))
        refine hK _ _ _ _ (hK _ _ _ _ (hK _ _ _ _ (⟨fun _ => ?_, fun h => absurd h (by decide)⟩)))
        refine hK _ _ _ _ (hK _ _ _ _ (hK _ _ _ _ (⟨fun _ => ?_, fun h => absurd h (by decide)⟩)))
        refine hK _ _ _ _ (hK _ _ _ _ (hK _ _ _ _ (⟨fun _ => ?_, fun h => absurd h (by decide)⟩)))
        refine hK _ _ _ _ (hK _ _ _ _ (hK _ _ _ _ (⟨fun _ => ?_, fun h => absurd h (by decide)⟩)))
        refine hK _ _ _ _ (hK _ _ _ _ (hK _ _ _ _ (⟨fun _ => ?_, fun h => absurd h (by decide)⟩)))
        refine hK _ _ _ _ (hK _ _ _ _ (hK _ _ _ _ (⟨fun _ => ?_, fun h => absurd h (by decide)⟩)))
        refine hK _ _ _ _ (hK _ _ _ _ (hK _ _ _ _ (⟨fun h => absurd (by decide) h, fun _ => ?_⟩)))
        refine hK _ _ _ _ (hK _ _ _ _ (hK _ _ _ _ (hK _ _ _ _ (⟨x_vp (a := 8) rfl (by decide) (by decide), ?_⟩))))
        rw [x_cl (j := 8) (a := 8) rfl (by decide), h8]
        exact hK _ _ _ _ (hK _ _ _ _ (⟨⟨_, rfl, Or.inl ⟨10, by decide, rfl, rfl⟩⟩, rfl⟩))
      · refine hK _ _ _ _ (hK _ _ _ _ (hK _ _ _ _ (⟨fun _ => ?_, fun h => absurd h (by decide)⟩)))
        refine hK _ _ _ _ (hK _ _ _ _ (hK _ _ _ _ (⟨fun _ => ?_, fun h => absurd h (by decide)⟩)))
        refine hK _ _ _ _ (hK _ _ _ _ (hK _ _ _ _ (⟨fun _ => ?_, fun h => absurd h (by decide)⟩)))
        refine hK _ _ _ _ (hK _ _ _ _ (⟨fun _ => ?_, fun h => absurd h (by decide)⟩))
        refine hK _ _ _ _ (hK _ _ _ _ (hK _ _ _ _ (⟨fun _ => ?_, fun h => absurd h (by decide)⟩)))
        refine hK _ _ _ _ (hK _ _ _ _ (hK _ _ _ _ (⟨fun _ => ?_, fun h => absurd h (by decide)⟩)))
        refine hK _ _ _ _ (hK _ _ _ _ (hK _ _ _ _ (⟨fun _ => ?_, fun h => absurd h (by decide)⟩)))
        refine hK _ _ _ _ (hK _ _ _ _ (hK _ _ _ _ (⟨fun _ => ?_, fun h => absurd h (by decide)⟩)))
        refine hK _ _ _ _ (hK _ _ _ _ (hK _ _ _ _ (⟨fun _ => ?_, fun h => absurd h (by decide)⟩)))
        refine hK _ _ _ _ (hK _ _ _ _ (hK _ _ _ _ (⟨fun _ => ?_, fun h => absurd h (by decide)⟩)))
        refine hK _ _ _ _ (hK _ _ _ _ (hK _ _ _ _ (⟨fun _ => ?_, fun h => absurd h (by decide)⟩)))
        refine hK _ _ _ _ (hK _ _ _ _ (hK _ _ _ _ (⟨fun _ => ?_, fun h => absurd h (by decide)⟩)))
        refine hK _ _ _ _ (hK _ _ _ _ (hK _ _ _ _ (⟨fun h => absurd (by decide) h, fun _ => ?_⟩)))
        refine hK _ _ _ _ (hK _ _ _ _ (hK _ _ _ _ (hK _ _ _ _ (⟨x_vp (a := 7) rfl (by decide) (by decide), ?_⟩))))
        rw [x_cl (j := 7) (a := 7) rfl (by decide), h7]
        refine hK _ _ _ _ (hK _ _ _ _ (hK _ _ _ _ (hK _ _ _ _ (⟨x_vp (a := 8) rfl (by decide) (by decide), ?_⟩))))
        rw [x_cl (j := 8) (a := 8) rfl (by decide), h8]
        exact hK _ _ _ _ (hK _ _ _ _ (hK _ _ _ _ (⟨⟨_, rfl, Or.inl ⟨11, by decide, rfl, rfl⟩⟩, rfl⟩)))
      · refine hK _ _ _ _ (hK _ _ _ _ (hK _ _ _ _ (⟨fun _ => ?_, fun h => absurd h (by decide)⟩)))
        refine hK _ _ _ _ (hK _ _ _ _ (hK _ _ _ _ (⟨fun _ => ?_, fun h => absurd h (by decide)⟩)))
        refine hK _ _ _ _ (hK _ _ _ _ (hK _ _ _ _ (⟨fun h => absurd (by decide) h, fun _ => ?_⟩)))
        exact hK _ _ _ _ (hK _ _ _ _ (⟨⟨_, rfl, Or.inl ⟨12, by decide, rfl, by rw [cpp_0 hg.1]; rfl⟩⟩, rfl⟩))
    · have hn : ∀ u, u ≤ 12 → ¬ a1 = Int32.ofNat u := fun u h1 h2 => hu ⟨u, h1, h2⟩
      refine hK _ _ _ _ (hK _ _ _ _ (hK _ _ _ _ (⟨fun _ => ?_, fun h => absurd h (hn 7 (by decide))⟩)))
      refine hK _ _ _ _ (hK _ _ _ _ (hK _ _ _ _ (⟨fun _ => ?_, fun h => absurd h (hn 8 (by decide))⟩)))
      refine hK _ _ _ _ (hK _ _ _ _ (hK _ _ _ _ (⟨fun _ => ?_, fun h => absurd h (hn 12 (by decide))⟩)))
      refine hK _ _ _ _ (hK _ _ _ _ (⟨fun _ => ?_, fun h => absurd h (hn 0 (by decide))⟩))
      refine hK _ _ _ _ (hK _ _ _ _ (hK _ _ _ _ (⟨fun _ => ?_, fun h => absurd h (hn 1 (by decide))⟩)))
      refine hK _ _ _ _ (hK _ _ _ _ (hK _ _ _ _ (⟨fun _ => ?_, fun h => absurd h (hn 2 (by decide))⟩)))
      refine hK _ _ _ _ (hK _ _ _ _ (hK _ _ _ _ (⟨fun _ => ?_, fun h => absurd h (hn 3 (by decide))⟩)))
      refine hK _ _ _ _ (hK _ _ _ _ (hK _ _ _ _ (⟨fun _ => ?_, fun h => absurd h (hn 4 (by decide))⟩)))
      refine hK _ _ _ _ (hK _ _ _ _ (hK _ _ _ _ (⟨fun _ => ?_, fun h => absurd h (hn 5 (by decide))⟩)))
      refine hK _ _ _ _ (hK _ _ _ _ (hK _ _ _ _ (⟨fun _ => ?_, fun h => absurd h (hn 6 (by decide))⟩)))
      refine hK _ _ _ _ (hK _ _ _ _ (hK _ _ _ _ (⟨fun _ => ?_, fun h => absurd h (hn 9 (by decide))⟩)))
      refine hK _ _ _ _ (hK _ _ _ _ (hK _ _ _ _ (⟨fun _ => ?_, fun h => absurd h (hn 10 (by decide))⟩)))
      refine hK _ _ _ _ (hK _ _ _ _ (hK _ _ _ _ (⟨fun _ => ?_, fun h => absurd h (hn 11 (by decide))⟩)))
      exact hK _ _ _ _ (hK _ _ _ _ (⟨⟨_, rfl, Or.inr ⟨hn, rfl⟩⟩, rfl⟩))
  have inn : ∀ (a : Nat), a < e.1.2 → (∀ (x : Int32) (l5 : Option aV), x = Int32.ofNat (cs (lkb e.1.1 e.1.2) e.1.2 (a + 1)) → K 90 [some (vR 36 0), some (vI a1), some (vI (hs9 ((a_pI M 36 0 0 0).1 37 0 6) 9)), some (vI x), some (vI (Int32.ofNat a)), l5] [] (a_pI M 36 0 0 0)) → ∀ (m b : Nat) (x y : Int32), e.1.2 - b = m → b ≤ e.1.2 → x = Int32.ofNat (cs (lkb e.1.1 e.1.2) e.1.2 a + cnt (lkb e.1.1 e.1.2 a) b) → y = Int32.ofNat b → K 54 [some (vR 36 0), some (vI a1), some (vI (hs9 ((a_pI M 36 0 0 0).1 37 0 6) 9)), some (vI x), some (vI (Int32.ofNat a)), some (vI y)] [] (a_pI M 36 0 0 0) := by
    intro a ha out m
    induction m with
    | zero =>
      intro b x y hm hb hx hy
      subst hx
      subst hy
      refine hK _ _ _ _ (hK _ _ _ _ (hK _ _ _ _ (hK _ _ _ _ (hK _ _ _ _ (⟨x_vp (a := 2) rfl (by decide) (by decide), ?_⟩)))))
      rw [x_cl (j := 2) (a := 2) rfl (by decide), hg.2.2]
      refine hK _ _ _ _ (⟨fun h => ?_, fun h => ?_⟩)
      · exact out _ _ (by rw [show b = e.1.2 by omega]; rfl)
      · exact absurd (x_nge (x := b) (y := e.1.2) rfl rfl (by omega) (by omega) h) (by omega)
    | succ m ih =>
      intro b x y hm hb hx hy
      subst hx
      subst hy
      have hbo : b < e.1.2 := by omega
      refine hK _ _ _ _ (hK _ _ _ _ (hK _ _ _ _ (hK _ _ _ _ (hK _ _ _ _ (⟨x_vp (a := 2) rfl (by decide) (by decide), ?_⟩)))))
      rw [x_cl (j := 2) (a := 2) rfl (by decide), hg.2.2]
      refine hK _ _ _ _ (⟨fun h => ?_, fun h => ?_⟩)
      · exact absurd (x_ge (x := b) (y := e.1.2) rfl rfl (by omega) (by omega) h) (by omega)
      · refine hK _ _ _ _ (hK _ _ _ _ (hK _ _ _ _ (hK _ _ _ _ (hK _ _ _ _ (⟨_, r_areLike (d := 57) hg ha hbo, rfl, fun v71 M71 g71 => ?_⟩)))))
        obtain ⟨g71, rfl⟩ := g71
        rcases g71 with ⟨z1, rfl⟩ | ⟨z1, rfl⟩
        · refine hK _ _ _ _ (⟨fun q => ?_, fun q => ?_⟩)
          · exact absurd q (by decide)
          · refine hK _ _ _ _ (hK _ _ _ _ (hK _ _ _ _ (hK _ _ _ _ (hK _ _ _ _ (hK _ _ _ _ (?_))))))
            exact ih (b + 1) _ _ (by omega) (by omega) (cn_t z1) hI_s
        · refine hK _ _ _ _ (⟨fun q => ?_, fun q => ?_⟩)
          · refine hK _ _ _ _ (hK _ _ _ _ (hK _ _ _ _ (hK _ _ _ _ (hK _ _ _ _ (?_)))))
            exact ih (b + 1) _ _ (by omega) (by omega) (cn_f z1) hI_s
          · exact absurd rfl q
  have lp : ∀ (m a : Nat) (x y : Int32) (l5 : Option aV), e.1.2 - a = m → a ≤ e.1.2 → x = Int32.ofNat (cs (lkb e.1.1 e.1.2) e.1.2 a) → y = Int32.ofNat a → K 40 [some (vR 36 0), some (vI a1), some (vI (hs9 ((a_pI M 36 0 0 0).1 37 0 6) 9)), some (vI x), some (vI y), l5] [] (a_pI M 36 0 0 0) := by
    intro m
    induction m with
    | zero =>
      intro a x y l5 hm ha hx hy
      subst hx
      subst hy
      refine hK _ _ _ _ (hK _ _ _ _ (hK _ _ _ _ (hK _ _ _ _ (hK _ _ _ _ (⟨x_vp (a := 2) rfl (by decide) (by decide), ?_⟩)))))
      rw [x_cl (j := 2) (a := 2) rfl (by decide), hg.2.2]
      refine hK _ _ _ _ (⟨fun h => ?_, fun h => ?_⟩)
      · rw [show a = e.1.2 by omega]
        exact fin _ _
      · exact absurd (x_nge (x := a) (y := e.1.2) rfl rfl (by omega) (by omega) h) (by omega)
    | succ m ih =>
      intro a x y l5 hm ha hx hy
      subst hx
      subst hy
      refine hK _ _ _ _ (hK _ _ _ _ (hK _ _ _ _ (hK _ _ _ _ (hK _ _ _ _ (⟨x_vp (a := 2) rfl (by decide) (by decide), ?_⟩)))))
      rw [x_cl (j := 2) (a := 2) rfl (by decide), hg.2.2]
      refine hK _ _ _ _ (⟨fun h => ?_, fun h => ?_⟩)
      · exact absurd (x_ge (x := a) (y := e.1.2) rfl rfl (by omega) (by omega) h) (by omega)
      · refine hK _ _ _ _ (hK _ _ _ _ (?_))
        refine inn a (by omega) (fun x l5 hx => ?_) _ 0 _ _ rfl (Nat.zero_le _) rfl rfl
        subst hx
        refine hK _ _ _ _ (hK _ _ _ _ (?_))
        exact ih (a + 1) _ _ _ (by omega) (by omega) rfl hI_s
  have hl : ∀ (m i : Nat) (x y : Int32), 9 - i = m → i ≤ 9 → x = hs9 ((a_pI M 36 0 0 0).1 37 0 6) i → y = Int32.ofNat i → K 9 [some (vR 36 0), some (vI a1), some (vI x), some (vI y), none, none] [] (a_pI M 36 0 0 0) := by
    intro m
    induction m with
    | zero =>
      intro i x y hm hi hx hy
      subst hx
      subst hy
      refine hK _ _ _ _ (hK _ _ _ _ (hK _ _ _ _ (⟨fun h => ?_, fun h => ?_⟩)))
      · refine hK _ _ _ _ (hK _ _ _ _ (hK _ _ _ _ (hK _ _ _ _ (?_))))
        rw [show i = 9 by omega]
        exact lp _ 0 _ _ _ rfl (Nat.zero_le _) rfl rfl
      · exact absurd (x_nge (x := i) (y := 9) rfl rfl (by omega) (by decide) h) (by omega)
    | succ m ih =>
      intro i x y hm hi hx hy
      subst hx
      subst hy
      refine hK _ _ _ _ (hK _ _ _ _ (hK _ _ _ _ (⟨fun h => ?_, fun h => ?_⟩)))
      · exact absurd (x_ge (x := i) (y := 9) rfl rfl (by omega) (by decide) h) (by omega)
      · refine hK _ _ _ _ (hK _ _ _ _ (hK _ _ _ _ (hK _ _ _ _ (hK _ _ _ _ (⟨x_vp (a := 6) rfl (by decide) (by decide), ?_⟩)))))
        rw [x_cl (j := 6) (a := 6) rfl (by decide)]
        refine hK _ _ _ _ (hK _ _ _ _ (hK _ _ _ _ (hK _ _ _ _ (hK _ _ _ _ (hK _ _ _ _ (hK _ _ _ _ (hK _ _ _ _ (?_))))))))
        exact ih (i + 1) _ _ (by omega) (by omega) rfl hI_s
  refine hK _ _ _ _ (hK _ _ _ _ (hK _ _ _ _ (hK _ _ _ _ (hK _ _ _ _ (hK _ _ _ _ (hK _ _ _ _ (?_)))))))
  exact hl _ 0 _ _ rfl (Nat.zero_le _) rfl rfl
