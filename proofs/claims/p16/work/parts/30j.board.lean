theorem x_div {a b : Nat} (ha : a < 2147483648) (hb : b < 2147483648) : Int32.ofNat a / Int32.ofNat b = Int32.ofNat (a / b) := by
  apply Int32.toInt_inj.mp
  rw [Int32.toInt_div, Int32.toInt_ofNat_of_lt (by omega), Int32.toInt_ofNat_of_lt (by omega), Int32.toInt_ofNat_of_lt (Nat.lt_of_le_of_lt (Nat.div_le_self a b) (by omega)), ← Int.ofNat_tdiv]
  have h1 : a / b ≤ a := Nat.div_le_self a b
  have h0 : 0 ≤ ((a / b : Nat) : Int) := Int.natCast_nonneg _
  exact Int.bmod_eq_of_le (by omega) (by omega)
theorem x_rem {a b : Nat} (ha : a < 2147483648) (hb : b < 2147483648) : Int32.ofNat a - Int32.ofNat a / Int32.ofNat b * Int32.ofNat b = Int32.ofNat (a % b) := by
  rw [x_div ha hb, ← Int32.ofNat_mul]
  have h := Nat.div_add_mod a b
  rw [Nat.mul_comm] at h
  rw [x_sub (by omega) ha]
  congr 1
  omega
def xcols (w s : Nat) : Nat := bif Nat.ble 1 s then w else w + 1
def xrows (h s : Nat) : Nat := bif Nat.ble 2 s then h else h + 1
abbrev xB : Type := (Nat × Nat) × ((Nat × Nat × Nat) × ((Nat → Int32) × ((Nat → Int32) × (Nat → Int32))))
/-- sizes that there are -/
def okB (b : xB) : Prop := 1 ≤ b.2.1.1 ∧ b.2.1.1 ≤ 3 ∧ 1 ≤ b.2.1.2.1 ∧ b.2.1.2.1 ≤ 3 ∧ b.2.1.2.2 ≤ 2
/-- sizes of the class's board i -/
def cS (i : Nat) (M : aM) (w h s : Nat) : Prop := M.1 4 i 1 = Int32.ofNat w ∧ M.1 4 i 2 = Int32.ofNat h ∧ M.1 4 i 3 = Int32.ofNat s ∧ M.1 4 i 5 = Int32.ofNat (xcols w s) ∧ M.1 4 i 6 = Int32.ofNat (xrows h s)
def cB (i : Nat) (M : aM) (b : xB) : Prop := gF i M b.1.1 b.1.2 ∧ okB b ∧ cS i M b.2.1.1 b.2.1.2.1 b.2.1.2.2 ∧ (∀ t, t < 8 → M.1 13 i t = b.2.2.1 t) ∧ (∀ j, j < 16 → M.1 14 i j = b.2.2.2.1 j) ∧ ∀ j, j < 32 → M.1 12 i j = b.2.2.2.2 j
theorem cB_fr {i : Nat} {M M' : aM} {b : xB} (h : cB i M b) (hc : ∀ q j, 4 ≤ q → q ≤ 14 → (q = 4 → j ≠ 4) → M'.1 q i j = M.1 q i j) : cB i M' b := by
  have e : ∀ q j, Nat.ble 5 q = true → Nat.ble q 14 = true → M'.1 q i j = M.1 q i j := fun q j h1 h2 => hc q j (by have := Nat.le_of_ble_eq_true h1; omega) (Nat.le_of_ble_eq_true h2) (fun z => by have := Nat.le_of_ble_eq_true h1; omega)
  have e4 : ∀ j, j ≠ 4 → M'.1 4 i j = M.1 4 i j := fun j hj => hc 4 j (by decide) (by decide) (fun _ => hj)
  exact ⟨gF_fr h.1 (fun q j h1 h2 => hc q j (by omega) (by omega) (fun z => by omega)), h.2.1, ⟨(e4 1 (by decide)).trans h.2.2.1.1, (e4 2 (by decide)).trans h.2.2.1.2.1, (e4 3 (by decide)).trans h.2.2.1.2.2.1, (e4 5 (by decide)).trans h.2.2.1.2.2.2.1, (e4 6 (by decide)).trans h.2.2.1.2.2.2.2⟩, fun t ht => (e 13 t rfl rfl).trans (h.2.2.2.1 t ht), fun t ht => (e 14 t rfl rfl).trans (h.2.2.2.2.1 t ht), fun t ht => (e 12 t rfl rfl).trans (h.2.2.2.2.2 t ht)⟩
/-- a corner, a line, by the class's places -/
def xcx (w s x : Nat) : Nat := bif Nat.beq x (xcols w s) then 0 else x
def xcy (h s y : Nat) : Nat := bif Nat.beq y (xrows h s) then 0 else y
def xco (w h s x y : Nat) : Nat := xcy h s y * 4 + xcx w s x
def xln (w h s x y n : Nat) : Nat := 2 * xco w h s x y + n
def xlv (w h s x y n : Nat) : Bool := (Nat.ble x w && Nat.ble y h) && (bif Nat.beq n 0 then Nat.blt (xcx w s x) w else Nat.blt (xcy h s y) h)
theorem xcols_b {w s : Nat} (h1 : 1 ≤ w) (h3 : w ≤ 3) : w ≤ xcols w s ∧ xcols w s ≤ w + 1 ∧ 1 ≤ xcols w s := by
  unfold xcols
  cases Nat.ble 1 s with
  | true => rw [cond_true]; omega
  | false => rw [cond_false]; omega
theorem xrows_b {h s : Nat} (h1 : 1 ≤ h) (h3 : h ≤ 3) : h ≤ xrows h s ∧ xrows h s ≤ h + 1 ∧ 1 ≤ xrows h s := by
  unfold xrows
  cases Nat.ble 2 s with
  | true => rw [cond_true]; omega
  | false => rw [cond_false]; omega
theorem xcx_b {w s x : Nat} (h1 : 1 ≤ w) (h3 : w ≤ 3) (hx : x ≤ w) : xcx w s x < xcols w s ∧ xcx w s x ≤ 3 := by
  have := xcols_b (s := s) h1 h3
  unfold xcx
  cases hb : Nat.beq x (xcols w s) with
  | true => rw [cond_true]; omega
  | false =>
    rw [cond_false]
    have : ¬ x = xcols w s := fun z => by rw [z, Nat.beq_refl] at hb; cases hb
    omega
theorem xcy_b {h s y : Nat} (h1 : 1 ≤ h) (h3 : h ≤ 3) (hy : y ≤ h) : xcy h s y < xrows h s ∧ xcy h s y ≤ 3 := by
  have := xrows_b (s := s) h1 h3
  unfold xcy
  cases hb : Nat.beq y (xrows h s) with
  | true => rw [cond_true]; omega
  | false =>
    rw [cond_false]
    have : ¬ y = xrows h s := fun z => by rw [z, Nat.beq_refl] at hb; cases hb
    omega
theorem x_beq {a b : Nat} (h : a = b) : Nat.beq a b = true := by rw [h, Nat.beq_refl]
theorem x_nbeq {a b : Nat} (h : ¬ a = b) : Nat.beq a b = false := by
  cases hb : Nat.beq a b with
  | true => exact absurd (Nat.eq_of_beq_eq_true hb) h
  | false => rfl
theorem b_columnOf {nS d : Nat} {M : aM} {a : Nat} {x : Int32} (hx : x = Int32.ofNat a) (ha : a < 2147483648) : aC nS (d + 1) 20 [vI x] M (fun v M' => v = some (vI (Int32.ofNat (a % 4))) ∧ M = M') (fun _ _ => False) := by
  subst hx
  refine aC_mk rfl rfl ?_
  intro K hK _
  refine hK _ _ _ _ (hK _ _ _ _ (hK _ _ _ _ ⟨by decide, ?_⟩))
  rw [show (4 : Int32) = Int32.ofNat 4 from rfl, x_rem ha (by decide)]
  exact hK _ _ _ _ ⟨rfl, rfl⟩
theorem b_rowOf {nS d : Nat} {M : aM} {a : Nat} {x : Int32} (hx : x = Int32.ofNat a) (ha : a < 2147483648) : aC nS (d + 1) 21 [vI x] M (fun v M' => v = some (vI (Int32.ofNat (a / 4))) ∧ M = M') (fun _ _ => False) := by
  subst hx
  refine aC_mk rfl rfl ?_
  intro K hK _
  refine hK _ _ _ _ (hK _ _ _ _ (hK _ _ _ _ ⟨by decide, ?_⟩))
  rw [show (4 : Int32) = Int32.ofNat 4 from rfl, x_div ha (by decide)]
  exact hK _ _ _ _ ⟨rfl, rfl⟩
theorem b_beginOf {nS d : Nat} {M : aM} {a : Nat} {x : Int32} (hx : x = Int32.ofNat a) (ha : a < 2147483648) : aC nS (d + 1) 23 [vI x] M (fun v M' => v = some (vI (Int32.ofNat (a / 2))) ∧ M = M') (fun _ _ => False) := by
  subst hx
  refine aC_mk rfl rfl ?_
  intro K hK _
  refine hK _ _ _ _ (hK _ _ _ _ (hK _ _ _ _ ⟨by decide, ?_⟩))
  rw [show (2 : Int32) = Int32.ofNat 2 from rfl, x_div ha (by decide)]
  exact hK _ _ _ _ ⟨rfl, rfl⟩
theorem b_isNorth {nS d : Nat} {M : aM} {a : Nat} {x : Int32} (hx : x = Int32.ofNat a) (ha : a < 2147483648) : aC nS (d + 1) 22 [vI x] M (fun v M' => v = some (vI (Int32.ofNat (a % 2))) ∧ M = M') (fun _ _ => False) := by
  subst hx
  refine aC_mk rfl rfl ?_
  intro K hK _
  refine hK _ _ _ _ (hK _ _ _ _ (hK _ _ _ _ ⟨by decide, ?_⟩))
  rw [show (2 : Int32) = Int32.ofNat 2 from rfl, x_rem ha (by decide)]
  refine hK _ _ _ _ (hK _ _ _ _ ⟨fun h => ?_, fun h => ?_⟩)
  · exact hK _ _ _ _ (hK _ _ _ _ ⟨Or.inl rfl, by rw [show a % 2 = 0 by have h2 : ¬ a % 2 = 1 := fun z => h (by rw [z]; rfl); omega]; rfl, rfl⟩)
  · exact hK _ _ _ _ (hK _ _ _ _ (hK _ _ _ _ ⟨Or.inr rfl, by rw [x_eq (x := a % 2) (y := 1) rfl rfl (by omega) (by decide) h]; rfl, rfl⟩))
theorem x_nn {x : Int32} (h : ¬ x < 0) : ∃ a : Nat, a < 2147483648 ∧ x = Int32.ofNat a := hI_of (Int32.not_lt.mp h)
/-- places told by whole numbers: none but these -/
def xP (x y : Int32) (w h : Nat) : Prop := 0 ≤ x ∧ x ≤ Int32.ofNat w ∧ 0 ≤ y ∧ y ≤ Int32.ofNat h
theorem xP_n {x y : Int32} {w h : Nat} (hw : w < 2147483648) (hh : h < 2147483648) (p : xP x y w h) : ∃ a b : Nat, a ≤ w ∧ b ≤ h ∧ x = Int32.ofNat a ∧ y = Int32.ofNat b := by
  obtain ⟨h1, h2, h3, h4⟩ := p
  obtain ⟨a, a1, rfl⟩ := hI_of h1
  obtain ⟨b, b1, rfl⟩ := hI_of h3
  exact ⟨a, b, (hI_le a1 hw).mp h2, (hI_le b1 hh).mp h4, rfl, rfl⟩
theorem b_cornerAt {nS d i : Nat} {M : aM} {x y : Int32} {w h s : Nat} (hs : cS i M w h s) (w1 : 1 ≤ w) (w3 : w ≤ 3) (h1 : 1 ≤ h) (h3 : h ≤ 3) : aC nS (d + 1) 17 [vR 4 i, vI x, vI y] M (fun v M' => ((∃ a b : Nat, a ≤ w ∧ b ≤ h ∧ x = Int32.ofNat a ∧ y = Int32.ofNat b ∧ v = some (vI (Int32.ofNat (xco w h s a b)))) ∨ (¬ xP x y w h ∧ v = some (vI (-1)))) ∧ M = M') (fun _ _ => False) := by
  obtain ⟨s1, s2, s3, s4, s5⟩ := hs
  have c9 := xcols_b (s := s) w1 w3
  have r9 := xrows_b (s := s) h1 h3
  refine aC_mk rfl rfl ?_
  intro K hK _
  have no : ¬ xP x y w h → K 24 [some (vR 4 i), some (vI x), some (vI y), none, none] [] M := fun z => hK _ _ _ _ (hK _ _ _ _ ⟨Or.inr ⟨z, rfl⟩, rfl⟩)
  have fin : ∀ a b : Nat, a ≤ w → b ≤ h → x = Int32.ofNat a → y = Int32.ofNat b → K 55 [some (vR 4 i), some (vI x), some (vI y), some (vI (Int32.ofNat (xcx w s a))), some (vI (Int32.ofNat (xcy h s b)))] [] M := by
    intro a b ha hb ea eb
    refine hK _ _ _ _ (hK _ _ _ _ (hK _ _ _ _ (hK _ _ _ _ (hK _ _ _ _ ?_))))
    exact hK _ _ _ _ ⟨Or.inl ⟨a, b, ha, hb, ea, eb, by rw [show (4 : Int32) = Int32.ofNat 4 from rfl, ← Int32.ofNat_mul, hI_ad]; rfl⟩, rfl⟩
  have row : ∀ a b : Nat, a ≤ w → b ≤ h → x = Int32.ofNat a → y = Int32.ofNat b → K 40 [some (vR 4 i), some (vI x), some (vI y), some (vI (Int32.ofNat (xcx w s a))), none] [] M := by
    intro a b ha hb ea eb
    refine hK _ _ _ _ (hK _ _ _ _ (hK _ _ _ _ (hK _ _ _ _ ⟨fun hc => ?_, fun hc => ?_⟩)))
    · refine hK _ _ _ _ (hK _ _ _ _ ?_)
      have e := fin a b ha hb ea eb
      rw [show xcy h s b = b by unfold xcy; rw [x_nbeq (fun z => hc (by rw [eb, s5, z]))]; rfl, ← eb] at e
      exact e
    · refine hK _ _ _ _ (hK _ _ _ _ (hK _ _ _ _ ?_))
      have e := fin a b ha hb ea eb
      rw [show xcy h s b = 0 by unfold xcy; rw [x_beq (x_eq eb s5 (by omega) (by omega) hc)]; rfl] at e
      exact e
  refine hK _ _ _ _ (hK _ _ _ _ ⟨fun h0 => ?_, fun h0 => ?_⟩)
  · exact no (fun z => x_nle h0 z.1)
  · refine hK _ _ _ _ (hK _ _ _ _ (hK _ _ _ _ (hK _ _ _ _ ⟨fun g => ?_, fun g => ?_⟩)))
    · exact no (fun z => x_nle g (by rw [s1]; exact z.2.1))
    · refine hK _ _ _ _ (hK _ _ _ _ ⟨fun h2 => ?_, fun h2 => ?_⟩)
      · exact no (fun z => x_nle h2 z.2.2.1)
      · refine hK _ _ _ _ (hK _ _ _ _ (hK _ _ _ _ (hK _ _ _ _ ⟨fun g2 => ?_, fun g2 => ?_⟩)))
        · obtain ⟨a, b, ha, hb, ea, eb⟩ := xP_n (w := w) (h := h) (by omega) (by omega) ⟨x_gen h0, by rw [← s1]; exact x_len g, x_gen h2, by rw [← s2]; exact g2⟩
          refine hK _ _ _ _ (hK _ _ _ _ (hK _ _ _ _ (hK _ _ _ _ ⟨fun hc => ?_, fun hc => ?_⟩)))
          · refine hK _ _ _ _ (hK _ _ _ _ ?_)
            have e := row a b ha hb ea eb
            rw [show xcx w s a = a by unfold xcx; rw [x_nbeq (fun z => hc (by rw [ea, s4, z]))]; rfl, ← ea] at e
            exact e
          · refine hK _ _ _ _ (hK _ _ _ _ (hK _ _ _ _ ?_))
            have e := row a b ha hb ea eb
            rw [show xcx w s a = 0 by unfold xcx; rw [x_beq (x_eq ea s4 (by omega) (by omega) hc)]; rfl] at e
            exact e
        · exact no (fun z => g2 (by rw [s2]; exact z.2.2.2))
theorem b_hasLine {nS d i : Nat} {M : aM} {w h s cx cy n : Nat} {x : Int32} (hs : cS i M w h s) (w1 : 1 ≤ w) (w3 : w ≤ 3) (h1 : 1 ≤ h) (h3 : h ≤ 3) (hcx : cx ≤ 3) (hcy : cy ≤ 3) (hn : n ≤ 1) (hx : x = Int32.ofNat (2 * (cy * 4 + cx) + n)) : aC nS (d + 2) 25 [vR 4 i, vI x] M (fun v M' => v = some (vI (if (bif Nat.beq n 0 then Nat.blt cx w && Nat.blt cy (xrows h s) else Nat.blt cx (xcols w s) && Nat.blt cy h) = true then 1 else 0)) ∧ M = M') (fun _ _ => False) := by
  subst hx
  obtain ⟨s1, s2, s3, s4, s5⟩ := hs
  have c9 := xcols_b (s := s) w1 w3
  have r9 := xrows_b (s := s) h1 h3
  refine aC_mk rfl rfl ?_
  intro K hK _
  refine hK _ _ _ _ (hK _ _ _ _ ⟨_, b_beginOf rfl (by omega), rfl, fun v1 M1 g1 => ?_⟩)
  obtain ⟨rfl, rfl⟩ := g1
  rw [show (2 * (cy * 4 + cx) + n) / 2 = cy * 4 + cx by omega]
  refine hK _ _ _ _ ⟨_, b_columnOf rfl (by omega), rfl, fun v4 M4 g4 => ?_⟩
  obtain ⟨rfl, rfl⟩ := g4
  rw [show (cy * 4 + cx) % 4 = cx by omega]
  refine hK _ _ _ _ (hK _ _ _ _ (hK _ _ _ _ ⟨_, b_beginOf rfl (by omega), rfl, fun v9 M9 g9 => ?_⟩))
  obtain ⟨rfl, rfl⟩ := g9
  rw [show (2 * (cy * 4 + cx) + n) / 2 = cy * 4 + cx by omega]
  refine hK _ _ _ _ ⟨_, b_rowOf rfl (by omega), rfl, fun v12 M12 g12 => ?_⟩
  obtain ⟨rfl, rfl⟩ := g12
  rw [show (cy * 4 + cx) / 4 = cy by omega]
  refine hK _ _ _ _ (hK _ _ _ _ (hK _ _ _ _ ⟨_, b_isNorth rfl (by omega), rfl, fun v17 M17 g17 => ?_⟩))
  obtain ⟨rfl, rfl⟩ := g17
  rw [show (2 * (cy * 4 + cx) + n) % 2 = n by omega]
  refine hK _ _ _ _ ⟨fun hz => ?_, fun hz => ?_⟩
  · have n0 : n = 0 := x_eq (x := n) (y := 0) rfl rfl (by omega) (by decide) hz
    refine hK _ _ _ _ (hK _ _ _ _ (hK _ _ _ _ (hK _ _ _ _ ⟨fun g => ?_, fun g1 => ?_⟩)))
    · exact hK _ _ _ _ (hK _ _ _ _ ⟨Or.inl rfl, by rw [n0, Nat.beq_refl, cond_true, x_nblt (Nat.not_lt.mpr (x_ge (x := cx) rfl s1 (by omega) (by omega) g)), Bool.false_and]; rfl, rfl⟩)
    · refine hK _ _ _ _ (hK _ _ _ _ (hK _ _ _ _ (hK _ _ _ _ ⟨fun g => ?_, fun g2 => ?_⟩)))
      · exact hK _ _ _ _ (hK _ _ _ _ ⟨Or.inl rfl, by rw [n0, Nat.beq_refl, cond_true, x_nblt (Nat.not_lt.mpr (x_ge (x := cy) rfl s5 (by omega) (by omega) g)), Bool.and_false]; rfl, rfl⟩)
      · exact hK _ _ _ _ (hK _ _ _ _ (hK _ _ _ _ ⟨Or.inr rfl, by rw [n0, Nat.beq_refl, cond_true, x_blt (x_nge (x := cx) rfl s1 (by omega) (by omega) g1), x_blt (x_nge (x := cy) rfl s5 (by omega) (by omega) g2)]; rfl, rfl⟩))
  · have n0 : ¬ n = 0 := fun z => hz (by rw [z]; rfl)
    refine hK _ _ _ _ (hK _ _ _ _ (hK _ _ _ _ (hK _ _ _ _ ⟨fun g => ?_, fun g1 => ?_⟩)))
    · exact hK _ _ _ _ (hK _ _ _ _ (hK _ _ _ _ ⟨Or.inl rfl, by rw [x_nbeq n0, cond_false, x_nblt (Nat.not_lt.mpr (x_ge (x := cx) rfl s4 (by omega) (by omega) g)), Bool.false_and]; rfl, rfl⟩))
    · refine hK _ _ _ _ (hK _ _ _ _ (hK _ _ _ _ (hK _ _ _ _ ⟨fun g => ?_, fun g2 => ?_⟩)))
      · exact hK _ _ _ _ (hK _ _ _ _ (hK _ _ _ _ ⟨Or.inl rfl, by rw [x_nbeq n0, cond_false, x_nblt (Nat.not_lt.mpr (x_ge (x := cy) rfl s2 (by omega) (by omega) g)), Bool.and_false]; rfl, rfl⟩))
      · exact hK _ _ _ _ (hK _ _ _ _ (hK _ _ _ _ ⟨Or.inr rfl, by rw [x_nbeq n0, cond_false, x_blt (x_nge (x := cx) rfl s4 (by omega) (by omega) g1), x_blt (x_nge (x := cy) rfl s2 (by omega) (by omega) g2)]; rfl, rfl⟩))
theorem xlv_i {w h s a b n : Nat} (w1 : 1 ≤ w) (w3 : w ≤ 3) (h1 : 1 ≤ h) (h3 : h ≤ 3) (ha : a ≤ w) (hb : b ≤ h) : (bif Nat.beq n 0 then Nat.blt (xcx w s a) w && Nat.blt (xcy h s b) (xrows h s) else Nat.blt (xcx w s a) (xcols w s) && Nat.blt (xcy h s b) h) = xlv w h s a b n := by
  unfold xlv
  rw [Nat.ble_eq_true_of_le ha, Nat.ble_eq_true_of_le hb]
  cases Nat.beq n 0 with
  | true =>
    rw [cond_true, cond_true, x_blt (xcy_b (s := s) h1 h3 hb).1, Bool.and_true]
    rfl
  | false =>
    rw [cond_false, cond_false, x_blt (xcx_b (s := s) w1 w3 ha).1, Bool.true_and]
    rfl
theorem b_lineAt {nS d i : Nat} {M : aM} {x y z : Int32} {w h s n : Nat} (hs : cS i M w h s) (w1 : 1 ≤ w) (w3 : w ≤ 3) (h1 : 1 ≤ h) (h3 : h ≤ 3) (hn : n ≤ 1) (hz : z = Int32.ofNat n) : aC nS (d + 3) 18 [vR 4 i, vI x, vI y, vI z] M (fun v M' => ((∃ a b : Nat, a ≤ w ∧ b ≤ h ∧ x = Int32.ofNat a ∧ y = Int32.ofNat b ∧ ((xlv w h s a b n = true ∧ v = some (vI (Int32.ofNat (xln w h s a b n)))) ∨ (xlv w h s a b n = false ∧ v = some (vI (-1))))) ∨ (¬ xP x y w h ∧ v = some (vI (-1)))) ∧ M = M') (fun _ _ => False) := by
  refine aC_mk rfl rfl ?_
  intro K hK _
  refine hK _ _ _ _ (hK _ _ _ _ (hK _ _ _ _ (hK _ _ _ _ ⟨_, b_cornerAt hs w1 w3 h1 h3, rfl, fun v3 M3 g3 => ?_⟩)))
  obtain ⟨hv, rfl⟩ := g3
  rcases hv with ⟨a, b, ha, hb, ea, eb, rfl⟩ | ⟨hp, rfl⟩
  · have c9 := xcx_b (s := s) w1 w3 ha
    have r9 := xcy_b (s := s) h1 h3 hb
    have fin : ∀ L0 : Int32, L0 = Int32.ofNat (xln w h s a b n) → K 32 [some (vR 4 i), some (vI x), some (vI y), some (vI z), some (vI (Int32.ofNat (xco w h s a b))), some (vI L0)] [] M := by
      intro L0 hL
      refine hK _ _ _ _ (hK _ _ _ _ (hK _ _ _ _ ⟨_, b_hasLine (cx := xcx w s a) (cy := xcy h s b) hs w1 w3 h1 h3 c9.2 r9.2 hn hL, rfl, fun v35 M35 g35 => ?_⟩))
      obtain ⟨rfl, rfl⟩ := g35
      rw [xlv_i w1 w3 h1 h3 ha hb]
      cases hv : xlv w h s a b n with
      | true =>
        refine hK _ _ _ _ ⟨fun q => absurd q (by decide), fun _ => ?_⟩
        exact hK _ _ _ _ (hK _ _ _ _ (hK _ _ _ _ ⟨Or.inl ⟨a, b, ha, hb, ea, eb, Or.inl ⟨hv, by rw [hL]⟩⟩, rfl⟩))
      | false =>
        refine hK _ _ _ _ ⟨fun _ => ?_, fun q => absurd rfl q⟩
        exact hK _ _ _ _ (hK _ _ _ _ ⟨Or.inl ⟨a, b, ha, hb, ea, eb, Or.inr ⟨hv, rfl⟩⟩, rfl⟩)
    have hne : ¬ Int32.ofNat (xco w h s a b) = -1 := x_m1 (by unfold xco; omega)
    refine hK _ _ _ _ (hK _ _ _ _ (hK _ _ _ _ (hK _ _ _ _ ⟨fun _ => ?_, fun q => absurd q hne⟩)))
    refine hK _ _ _ _ (hK _ _ _ _ (hK _ _ _ _ (hK _ _ _ _ (hK _ _ _ _ ⟨fun q => ?_, fun q => ?_⟩))))
    · have n0 : n = 0 := x_eq hz (y := 0) rfl (by omega) (by decide) q
      refine hK _ _ _ _ (hK _ _ _ _ (hK _ _ _ _ ?_))
      refine fin _ ?_
      rw [show (2 : Int32) = Int32.ofNat 2 from rfl, show (0 : Int32) = Int32.ofNat 0 from rfl, ← Int32.ofNat_mul, hI_ad, n0]
      rfl
    · have n1 : n = 1 := by
        have : ¬ n = 0 := fun e => q (by rw [hz, e]; rfl)
        omega
      refine hK _ _ _ _ (hK _ _ _ _ (hK _ _ _ _ (hK _ _ _ _ ?_)))
      refine fin _ ?_
      rw [show (2 : Int32) = Int32.ofNat 2 from rfl, show (1 : Int32) = Int32.ofNat 1 from rfl, ← Int32.ofNat_mul, hI_ad, n1]
      rfl
  · refine hK _ _ _ _ (hK _ _ _ _ (hK _ _ _ _ (hK _ _ _ _ ⟨fun q => absurd rfl q, fun _ => ?_⟩)))
    exact hK _ _ _ _ (hK _ _ _ _ ⟨Or.inr ⟨hp, rfl⟩, rfl⟩)
theorem b_squareAt {nS d i : Nat} {M : aM} {x y : Int32} {w h s : Nat} (hs : cS i M w h s) (w3 : w ≤ 3) (h3 : h ≤ 3) : aC nS (d + 1) 19 [vR 4 i, vI x, vI y] M (fun v M' => ((∃ a b : Nat, a < w ∧ b < h ∧ x = Int32.ofNat a ∧ y = Int32.ofNat b ∧ v = some (vI (Int32.ofNat (b * 4 + a)))) ∨ ((¬ ∃ a b : Nat, a < w ∧ b < h ∧ x = Int32.ofNat a ∧ y = Int32.ofNat b) ∧ v = some (vI (-1)))) ∧ M = M') (fun _ _ => False) := by
  obtain ⟨s1, s2, s3, s4, s5⟩ := hs
  refine aC_mk rfl rfl ?_
  intro K hK _
  have no : (¬ ∃ a b : Nat, a < w ∧ b < h ∧ x = Int32.ofNat a ∧ y = Int32.ofNat b) → K 24 [some (vR 4 i), some (vI x), some (vI y)] [] M := fun z => hK _ _ _ _ (hK _ _ _ _ (hK _ _ _ _ ⟨Or.inr ⟨z, rfl⟩, rfl⟩))
  refine hK _ _ _ _ (hK _ _ _ _ ⟨fun h0 => ?_, fun h0 => ?_⟩)
  · exact no (fun z => by
      obtain ⟨a, b, z1, z2, z3, z4⟩ := z
      have := x_lt z3 (y := 0) rfl (by omega) (by decide) h0
      omega)
  · obtain ⟨a, a1, ea⟩ := x_nn h0
    refine hK _ _ _ _ (hK _ _ _ _ (hK _ _ _ _ (hK _ _ _ _ ⟨fun g => ?_, fun g => ?_⟩)))
    · exact no (fun z => by
        obtain ⟨a2, b, z1, z2, z3, z4⟩ := z
        have := x_ge z3 s1 (by omega) (by omega) g
        omega)
    · have aw := x_nge ea s1 a1 (by omega) g
      refine hK _ _ _ _ (hK _ _ _ _ ⟨fun h2 => ?_, fun h2 => ?_⟩)
      · exact no (fun z => by
          obtain ⟨a2, b, z1, z2, z3, z4⟩ := z
          have := x_lt z4 (y := 0) rfl (by omega) (by decide) h2
          omega)
      · obtain ⟨b, b1, eb⟩ := x_nn h2
        refine hK _ _ _ _ (hK _ _ _ _ (hK _ _ _ _ (hK _ _ _ _ ⟨fun g2 => ?_, fun g2 => ?_⟩)))
        · have bh := x_lt eb s2 b1 (by omega) g2
          exact hK _ _ _ _ (hK _ _ _ _ (hK _ _ _ _ (hK _ _ _ _ (hK _ _ _ _ (hK _ _ _ _ ⟨Or.inl ⟨a, b, aw, bh, ea, eb, by rw [ea, eb, show (4 : Int32) = Int32.ofNat 4 from rfl, ← Int32.ofNat_mul, hI_ad]⟩, rfl⟩)))))
        · exact no (fun z => by
            obtain ⟨a2, b2, z1, z2, z3, z4⟩ := z
            exact g2 (by rw [z4, s2]; exact (hI_lt (by omega) (by omega)).mpr z2))
def PB (i : Nat) : xF := fun k i' _ => (Nat.ble 4 k && Nat.ble k 14) && Nat.beq i' i
theorem PR_B {q i : Nat} {A B : aM} (h : fr (PR q i) A B) (hq : (Nat.ble 4 q && Nat.ble q 14) = true) : fr (PB i) A B := fr_w h (fun k i' j z => by
  show (Nat.beq k q && Nat.beq i' i) = false
  have z : ((Nat.ble 4 k && Nat.ble k 14) && Nat.beq i' i) = false := z
  cases h1 : Nat.beq k q with
  | false => rfl
  | true =>
    rw [Nat.eq_of_beq_eq_true h1, hq, Bool.true_and] at z
    rw [z]
    rfl)
theorem PGa_B {i : Nat} {A B : aM} (h : fr (PGa i) A B) : fr (PB i) A B := fr_w h (fun k i' j z => by
  cases hp : PGa i k i' j with
  | false => rfl
  | true =>
    have hp : ((Nat.ble 5 k && Nat.ble k 11) && Nat.beq i' i) = true := hp
    rw [Bool.and_eq_true, Bool.and_eq_true] at hp
    have a := Nat.le_of_ble_eq_true hp.1.1
    have b := Nat.le_of_ble_eq_true hp.1.2
    have z : ((Nat.ble 4 k && Nat.ble k 14) && Nat.beq i' i) = false := z
    rw [Nat.ble_eq_true_of_le (show 4 ≤ k by omega), Nat.ble_eq_true_of_le (show k ≤ 14 by omega), hp.2] at z
    cases z)
theorem PB_t {q i j : Nat} (hq : (Nat.ble 4 q && Nat.ble q 14) = true) : PB i q i j = true := x_bt hq
theorem PR_or {q a b i k i' j : Nat} (hq : q = a ∨ q = b) (z : ((Nat.beq k a || Nat.beq k b) && Nat.beq i' i) = false) : PR q i k i' j = false := by
  show (Nat.beq k q && Nat.beq i' i) = false
  cases h1 : Nat.beq k q with
  | false => rfl
  | true =>
    have h2 := Nat.eq_of_beq_eq_true h1
    rcases hq with hq | hq
    · rw [h2, hq, Nat.beq_refl, Bool.true_or, Bool.true_and] at z
      rw [z]
      rfl
    · rw [h2, hq, Nat.beq_refl, Bool.or_true, Bool.true_and] at z
      rw [z]
      rfl
theorem b_startGroup {nS d i : Nat} {M : aM} : aC nS (d + 2) 1 [vR 4 i] M (fun v M' => v = none ∧ fr (fun k i' _ => (Nat.beq k 12 || Nat.beq k 13) && Nat.beq i' i) M M' ∧ (∀ j, j < 32 → M'.1 12 i j = 0) ∧ ∀ j, j < 8 → M'.1 13 i j = 1) (fun _ _ => False) := by
  refine aC_mk rfl rfl ?_
  intro K hK _
  refine hK _ _ _ _ (hK _ _ _ _ (hK _ _ _ _ (hK _ _ _ _ ⟨_, g_fill12, rfl, fun v5 M5 g5 => ?_⟩)))
  obtain ⟨rfl, f1, s1⟩ := g5
  refine hK _ _ _ _ (hK _ _ _ _ (hK _ _ _ _ (hK _ _ _ _ ⟨_, g_fill13, rfl, fun v13 M13 g13 => ?_⟩)))
  obtain ⟨rfl, f2, s2⟩ := g13
  exact hK _ _ _ _ ⟨rfl, fr_t (fr_w f1 (fun k i' j z => PR_or (Or.inl rfl) z)) (fr_w f2 (fun k i' j z => PR_or (Or.inr rfl) z)), fun j hj => (f2.1 12 i j rfl).trans (s1 j hj), s2⟩
def PS (i : Nat) : xF := fun k i' j => ((Nat.beq k 4 && !(Nat.beq j 4)) || (Nat.beq k 12 || Nat.beq k 14)) && Nat.beq i' i
theorem PS_4 {i j : Nat} (h : Nat.beq j 4 = false) : PS i 4 i j = true := by
  show (((Nat.beq 4 4 && !(Nat.beq j 4)) || (Nat.beq 4 12 || Nat.beq 4 14)) && Nat.beq i i) = true
  rw [h, Nat.beq_refl i]
  rfl
theorem PS_12 {i : Nat} {A B : aM} (h : fr (PR 12 i) A B) : fr (PS i) A B := fr_w h (fun k i' j z => by
  have z : (((Nat.beq k 4 && !(Nat.beq j 4)) || (Nat.beq k 12 || Nat.beq k 14)) && Nat.beq i' i) = false := z
  show (Nat.beq k 12 && Nat.beq i' i) = false
  cases h1 : Nat.beq k 12 with
  | false => rfl
  | true =>
    rw [h1, Bool.true_or, Bool.or_true, Bool.true_and] at z
    rw [z]
    rfl)
theorem PS_14 {i : Nat} {A B : aM} (h : fr (PR 14 i) A B) : fr (PS i) A B := fr_w h (fun k i' j z => by
  have z : (((Nat.beq k 4 && !(Nat.beq j 4)) || (Nat.beq k 12 || Nat.beq k 14)) && Nat.beq i' i) = false := z
  show (Nat.beq k 14 && Nat.beq i' i) = false
  cases h1 : Nat.beq k 14 with
  | false => rfl
  | true =>
    rw [h1, Bool.or_true, Bool.or_true, Bool.true_and] at z
    rw [z]
    rfl)
theorem b_startPlaces {nS d i w h s : Nat} {M : aM} {x y z : Int32} (hx : x = Int32.ofNat w) (hy : y = Int32.ofNat h) (hz : z = Int32.ofNat s) (w3 : w ≤ 3) (h3 : h ≤ 3) (s2 : s ≤ 2) : aC nS (d + 2) 2 [vR 4 i, vI x, vI y, vI z] M (fun v M' => v = none ∧ fr (PS i) M M' ∧ cS i M' w h s ∧ (∀ j, j < 32 → M'.1 12 i j = 0) ∧ ∀ j, j < 16 → M'.1 14 i j = 0) (fun _ _ => False) := by
  refine aC_mk rfl rfl ?_
  intro K hK _
  have fin : ∀ M1 : aM, fr (PS i) M M1 → cS i M1 w h s → K 65 [some (vR 4 i), some (vI x), some (vI y), some (vI z)] [] M1 := by
    intro M1 hf hs
    refine hK _ _ _ _ (hK _ _ _ _ (hK _ _ _ _ (hK _ _ _ _ ⟨_, g_fill12, rfl, fun v70 M70 g70 => ?_⟩)))
    obtain ⟨rfl, f1, s1⟩ := g70
    refine hK _ _ _ _ (hK _ _ _ _ (hK _ _ _ _ (hK _ _ _ _ ⟨_, g_fill14, rfl, fun v78 M78 g78 => ?_⟩)))
    obtain ⟨rfl, f2, t2⟩ := g78
    exact hK _ _ _ _ ⟨rfl, fr_t hf (fr_t (PS_12 f1) (PS_14 f2)), ⟨(f2.1 4 i 1 rfl).trans ((f1.1 4 i 1 rfl).trans hs.1), (f2.1 4 i 2 rfl).trans ((f1.1 4 i 2 rfl).trans hs.2.1), (f2.1 4 i 3 rfl).trans ((f1.1 4 i 3 rfl).trans hs.2.2.1), (f2.1 4 i 5 rfl).trans ((f1.1 4 i 5 rfl).trans hs.2.2.2.1), (f2.1 4 i 6 rfl).trans ((f1.1 4 i 6 rfl).trans hs.2.2.2.2)⟩, fun j hj => (f2.1 12 i j rfl).trans (s1 j hj), t2⟩
  have rowp : ∀ M1 : aM, fr (PS i) M M1 → M1.1 4 i 1 = Int32.ofNat w → M1.1 4 i 2 = Int32.ofNat h → M1.1 4 i 3 = Int32.ofNat s → M1.1 4 i 5 = Int32.ofNat (xcols w s) → K 40 [some (vR 4 i), some (vI x), some (vI y), some (vI z)] [] M1 := by
    intro M1 hf e1 e2 e3 e5
    refine hK _ _ _ _ (hK _ _ _ _ (hK _ _ _ _ (hK _ _ _ _ (hK _ _ _ _ ⟨fun g => ?_, fun g => ?_⟩))))
    · refine hK _ _ _ _ (hK _ _ _ _ (hK _ _ _ _ (hK _ _ _ _ (hK _ _ _ _ ?_))))
      refine fin _ (fr_p hf (PS_4 rfl)) ⟨(x_pn (fun q => absurd q.2.2 (by decide))).trans e1, (x_pn (fun q => absurd q.2.2 (by decide))).trans e2, (x_pn (fun q => absurd q.2.2 (by decide))).trans e3, (x_pn (fun q => absurd q.2.2 (by decide))).trans e5, x_pe.trans ?_⟩
      have := x_lt e3 (y := 2) rfl (by omega) (by decide) g
      rw [x_s e2]
      unfold xrows
      cases hb : Nat.ble 2 s with
      | true =>
        have := Nat.le_of_ble_eq_true hb
        omega
      | false => rfl
    · refine hK _ _ _ _ (hK _ _ _ _ (hK _ _ _ _ (hK _ _ _ _ ?_)))
      refine fin _ (fr_p hf (PS_4 rfl)) ⟨(x_pn (fun q => absurd q.2.2 (by decide))).trans e1, (x_pn (fun q => absurd q.2.2 (by decide))).trans e2, (x_pn (fun q => absurd q.2.2 (by decide))).trans e3, (x_pn (fun q => absurd q.2.2 (by decide))).trans e5, x_pe.trans ?_⟩
      have := x_nlt e3 (y := 2) rfl (by omega) (by decide) g
      rw [e2]
      unfold xrows
      rw [Nat.ble_eq_true_of_le this]
      rfl
  have f0 : fr (PS i) M (a_pI (a_pI (a_pI M 4 i 1 x) 4 i 2 y) 4 i 3 z) := fr_p (fr_p (fr_p fr_r (PS_4 rfl)) (PS_4 rfl)) (PS_4 rfl)
  have e1 : (a_pI (a_pI (a_pI M 4 i 1 x) 4 i 2 y) 4 i 3 z).1 4 i 1 = Int32.ofNat w := ((x_pn (fun q => absurd q.2.2 (by decide))).trans ((x_pn (fun q => absurd q.2.2 (by decide))).trans x_pe)).trans hx
  have e2 : (a_pI (a_pI (a_pI M 4 i 1 x) 4 i 2 y) 4 i 3 z).1 4 i 2 = Int32.ofNat h := ((x_pn (fun q => absurd q.2.2 (by decide))).trans x_pe).trans hy
  have e3 : (a_pI (a_pI (a_pI M 4 i 1 x) 4 i 2 y) 4 i 3 z).1 4 i 3 = Int32.ofNat s := x_pe.trans hz
  refine hK _ _ _ _ (hK _ _ _ _ (hK _ _ _ _ (hK _ _ _ _ (hK _ _ _ _ (hK _ _ _ _ (hK _ _ _ _ (hK _ _ _ _ (hK _ _ _ _ (hK _ _ _ _ (hK _ _ _ _ (hK _ _ _ _ (hK _ _ _ _ (hK _ _ _ _ ⟨fun g => ?_, fun g => ?_⟩)))))))))))))
  · refine hK _ _ _ _ (hK _ _ _ _ (hK _ _ _ _ (hK _ _ _ _ (hK _ _ _ _ ?_))))
    refine rowp _ (fr_p f0 (PS_4 rfl)) ((x_pn (fun q => absurd q.2.2 (by decide))).trans e1) ((x_pn (fun q => absurd q.2.2 (by decide))).trans e2) ((x_pn (fun q => absurd q.2.2 (by decide))).trans e3) (x_pe.trans ?_)
    have := x_lt e3 (y := 1) rfl (by omega) (by decide) g
    rw [x_s e1, show s = 0 by omega]
    rfl
  · refine hK _ _ _ _ (hK _ _ _ _ (hK _ _ _ _ (hK _ _ _ _ ?_)))
    refine rowp _ (fr_p f0 (PS_4 rfl)) ((x_pn (fun q => absurd q.2.2 (by decide))).trans e1) ((x_pn (fun q => absurd q.2.2 (by decide))).trans e2) ((x_pn (fun q => absurd q.2.2 (by decide))).trans e3) (x_pe.trans ?_)
    have := x_nlt e3 (y := 1) rfl (by omega) (by decide) g
    rw [e1]
    unfold xcols
    rw [Nat.ble_eq_true_of_le this]
    rfl
