/-- a line that there is, told by its corner; a turn -/
def okL (w h s : Nat) (x y : Int32) (n : Nat) : Prop := ∃ a b, a ≤ w ∧ b ≤ h ∧ x = Int32.ofNat a ∧ y = Int32.ofNat b ∧ xlv w h s a b n = true
def okT (o : Nat) (t : Int32) : Prop := ∃ a, a < o ∧ t = Int32.ofNat a
theorem okL_of {w h s n : Nat} {x y : Int32} {v : Option aV} {P : Nat → Nat → Option aV} (w3 : w ≤ 3) (h3 : h ≤ 3) (g : (∃ a b : Nat, a ≤ w ∧ b ≤ h ∧ x = Int32.ofNat a ∧ y = Int32.ofNat b ∧ ((xlv w h s a b n = true ∧ v = P a b) ∨ (xlv w h s a b n = false ∧ v = some (vI (-1))))) ∨ (¬ xP x y w h ∧ v = some (vI (-1)))) : (∃ a b : Nat, a ≤ w ∧ b ≤ h ∧ x = Int32.ofNat a ∧ y = Int32.ofNat b ∧ xlv w h s a b n = true ∧ v = P a b) ∨ (¬ okL w h s x y n ∧ v = some (vI (-1))) := by
  rcases g with ⟨a, b, ha, hb, hx, hy, ⟨h1, h2⟩ | ⟨h1, h2⟩⟩ | ⟨h1, h2⟩
  · exact Or.inl ⟨a, b, ha, hb, hx, hy, h1, h2⟩
  · refine Or.inr ⟨?_, h2⟩
    intro z
    obtain ⟨a', b', ha', hb', hx', hy', z⟩ := z
    have e1 : a = a' := x_inj (by omega) (by omega) (hx.symm.trans hx')
    have e2 : b = b' := x_inj (by omega) (by omega) (hy.symm.trans hy')
    subst e1
    subst e2
    rw [h1] at z
    cases z
  · refine Or.inr ⟨?_, h2⟩
    intro z
    obtain ⟨a', b', ha', hb', hx', hy', z⟩ := z
    refine h1 ⟨?_, ?_, ?_, ?_⟩
    · rw [hx']; exact (hI_le (a := 0) (by decide) (by omega)).mpr (Nat.zero_le _)
    · rw [hx']; exact (hI_le (by omega) (by omega)).mpr ha'
    · rw [hy']; exact (hI_le (a := 0) (by decide) (by omega)).mpr (Nat.zero_le _)
    · rw [hy']; exact (hI_le (by omega) (by omega)).mpr hb'
theorem okL_y {w h s n a b : Nat} {x y : Int32} (ha : a ≤ w) (hb : b ≤ h) (hx : x = Int32.ofNat a) (hy : y = Int32.ofNat b) (hl : xlv w h s a b n = true) : okL w h s x y n := ⟨a, b, ha, hb, hx, hy, hl⟩
theorem okT_y {o : Nat} {t : Int32} (ho : o ≤ 8) (h0 : ¬ t < 0) (h1 : ¬ Int32.ofNat o ≤ t) : okT o t := by
  obtain ⟨a, ha, e⟩ := hI_of (Int32.not_lt.mp h0)
  refine ⟨a, ?_, e⟩
  rw [e] at h1
  have : ¬ o ≤ a := fun z => h1 ((hI_le (by omega) ha).mpr z)
  omega
theorem okT_n1 {o : Nat} {t : Int32} (ho : o ≤ 8) (h : t < 0) : ¬ okT o t := by
  intro z
  obtain ⟨a, ha, e⟩ := z
  rw [e] at h
  have := (hI_lt (a := a) (b := 0) (by omega) (by decide)).mp h
  omega
theorem okT_n2 {o : Nat} {t : Int32} (ho : o ≤ 8) (h : Int32.ofNat o ≤ t) : ¬ okT o t := by
  intro z
  obtain ⟨a, ha, e⟩ := z
  rw [e] at h
  have := (hI_le (a := o) (b := a) (by omega) (by omega)).mp h
  omega
theorem xln_lt {w h s a b n : Nat} (w1 : 1 ≤ w) (w3 : w ≤ 3) (h1 : 1 ≤ h) (h3 : h ≤ 3) (ha : a ≤ w) (hb : b ≤ h) (hn : n ≤ 1) : xln w h s a b n < 32 := by
  have p1 := (xcx_b (s := s) w1 w3 ha).2
  have p2 := (xcy_b (s := s) h1 h3 hb).2
  show 2 * (xcy h s b * 4 + xcx w s a) + n < 32
  omega
theorem b_has {nS d i o : Nat} {M : aM} {t : Int32} (ho : M.1 5 i 1 = Int32.ofNat o) (o8 : o ≤ 8) : aC nS (d + 1) 57 [vR 5 i, vI t] M (fun v M' => ((okT o t ∧ v = some (vI 1)) ∨ (¬ okT o t ∧ v = some (vI 0))) ∧ M = M') (fun _ _ => False) := by
  refine aC_mk rfl rfl ?_
  intro K hK _
  refine hK _ _ _ _ (hK _ _ _ _ (⟨fun h => ?_, fun h => ?_⟩))
  · exact hK _ _ _ _ (hK _ _ _ _ (⟨Or.inl rfl, Or.inr ⟨okT_n1 o8 h, rfl⟩, rfl⟩))
  · refine hK _ _ _ _ (hK _ _ _ _ (hK _ _ _ _ (hK _ _ _ _ (⟨fun h1 => ?_, fun h1 => ?_⟩))))
    · rw [ho] at h1
      exact hK _ _ _ _ (hK _ _ _ _ (⟨Or.inl rfl, Or.inr ⟨okT_n2 o8 h1, rfl⟩, rfl⟩))
    · rw [ho] at h1
      exact hK _ _ _ _ (hK _ _ _ _ (hK _ _ _ _ (⟨Or.inr rfl, Or.inl ⟨okT_y o8 h h1, rfl⟩, rfl⟩)))
theorem r_isTurn {nS d o : Nat} {M : aM} {t : Int32} (ho : M.1 37 0 2 = Int32.ofNat o) (o2 : 2 ≤ o) (o8 : o ≤ 8) : aC nS (d + 2) 188 [vR 36 0, vI t] M (fun v M' => ((okT o t ∧ v = some (vI 1)) ∨ (¬ okT o t ∧ v = some (vI 0))) ∧ M = M') (fun _ _ => False) := by
  refine aC_mk rfl rfl ?_
  intro K hK _
  refine hK _ _ _ _ (hK _ _ _ _ (hK _ _ _ _ (hK _ _ _ _ (hK _ _ _ _ (hK _ _ _ _ (⟨x_vp (a := 2) rfl (by decide) (by decide), ?_⟩))))))
  rw [x_cl (j := 2) (a := 2) rfl (by decide), ho]
  refine hK _ _ _ _ (hK _ _ _ _ (hK _ _ _ _ (⟨_, t_isIn, rfl, fun v M1 g => ?_⟩)))
  obtain ⟨rfl, rfl⟩ := g
  have e : Int32.ofNat o - 1 = Int32.ofNat (o - 1) := x_sub (y := 1) (by omega) (by omega)
  rw [e]
  by_cases hq : 0 ≤ t ∧ t ≤ Int32.ofNat (o - 1)
  · rw [if_pos hq]
    obtain ⟨a, ha, et⟩ := hI_of hq.1
    have h2 := hq.2
    rw [et] at h2
    have h3 := (hI_le ha (by omega)).mp h2
    exact hK _ _ _ _ ⟨Or.inr rfl, Or.inl ⟨⟨a, by omega, et⟩, rfl⟩, rfl⟩
  · rw [if_neg hq]
    refine hK _ _ _ _ ⟨Or.inl rfl, Or.inr ⟨fun z => hq ?_, rfl⟩, rfl⟩
    obtain ⟨a, ha, et⟩ := z
    rw [et]
    exact ⟨(hI_le (a := 0) (by decide) (by omega)).mpr (Nat.zero_le _), (hI_le (by omega) (by omega)).mpr (by omega)⟩
