theorem g_put21 {nS d i : Nat} {M : aM} {j x : Int32} {a : Nat} (hj : j = Int32.ofNat a) (ha : a < 20) : aC nS (d + 1) 106 [vR 21 i, vI j, vI x] M (fun v M' => v = none ∧ M' = a_pI M 21 i a x) (fun _ _ => False) := by
  refine aC_mk rfl rfl ?_
  intro K hK _
  subst hj
  refine hK _ _ _ _ (hK _ _ _ _ ⟨fun h => ?_, fun h => ?_⟩)
  · exact absurd (x_lt (y := 0) rfl rfl (by omega) (by decide) h) (by omega)
  · refine hK _ _ _ _ (hK _ _ _ _ (hK _ _ _ _ (hK _ _ _ _ ⟨fun h => ?_, fun h => ?_⟩)))
    · exact absurd (x_ge (y := 20) rfl rfl (by omega) (by decide) h) (by omega)
    · refine hK _ _ _ _ (hK _ _ _ _ (hK _ _ _ _ (hK _ _ _ _ ⟨x_vp rfl ha (by decide), ?_⟩)))
      rw [x_cl rfl (by omega)]
      exact hK _ _ _ _ ⟨rfl, rfl⟩
theorem g_at21 {nS d i : Nat} {M : aM} {j : Int32} {a : Nat} (hj : j = Int32.ofNat a) (ha : a < 20) : aC nS (d + 1) 104 [vR 21 i, vI j] M (fun v M' => v = some (vI (M.1 21 i a)) ∧ M = M') (fun _ _ => False) := by
  refine aC_mk rfl rfl ?_
  intro K hK _
  subst hj
  refine hK _ _ _ _ (hK _ _ _ _ ⟨fun h => ?_, fun h => ?_⟩)
  · exact absurd (x_lt (y := 0) rfl rfl (by omega) (by decide) h) (by omega)
  · refine hK _ _ _ _ (hK _ _ _ _ (hK _ _ _ _ (hK _ _ _ _ ⟨fun h => ?_, fun h => ?_⟩)))
    · exact absurd (x_ge (y := 20) rfl rfl (by omega) (by decide) h) (by omega)
    · refine hK _ _ _ _ (hK _ _ _ _ (hK _ _ _ _ ⟨x_vp rfl ha (by decide), ?_⟩))
      rw [x_cl rfl (by omega)]
      exact hK _ _ _ _ (hK _ _ _ _ ⟨rfl, rfl⟩)
theorem g_put22 {nS d i : Nat} {M : aM} {j x : Int32} {a : Nat} (hj : j = Int32.ofNat a) (ha : a < 20) : aC nS (d + 1) 106 [vR 22 i, vI j, vI x] M (fun v M' => v = none ∧ M' = a_pI M 22 i a x) (fun _ _ => False) := by
  refine aC_mk rfl rfl ?_
  intro K hK _
  subst hj
  refine hK _ _ _ _ (hK _ _ _ _ ⟨fun h => ?_, fun h => ?_⟩)
  · exact absurd (x_lt (y := 0) rfl rfl (by omega) (by decide) h) (by omega)
  · refine hK _ _ _ _ (hK _ _ _ _ (hK _ _ _ _ (hK _ _ _ _ ⟨fun h => ?_, fun h => ?_⟩)))
    · exact absurd (x_ge (y := 20) rfl rfl (by omega) (by decide) h) (by omega)
    · refine hK _ _ _ _ (hK _ _ _ _ (hK _ _ _ _ (hK _ _ _ _ ⟨x_vp rfl ha (by decide), ?_⟩)))
      rw [x_cl rfl (by omega)]
      exact hK _ _ _ _ ⟨rfl, rfl⟩
theorem g_at22 {nS d i : Nat} {M : aM} {j : Int32} {a : Nat} (hj : j = Int32.ofNat a) (ha : a < 20) : aC nS (d + 1) 104 [vR 22 i, vI j] M (fun v M' => v = some (vI (M.1 22 i a)) ∧ M = M') (fun _ _ => False) := by
  refine aC_mk rfl rfl ?_
  intro K hK _
  subst hj
  refine hK _ _ _ _ (hK _ _ _ _ ⟨fun h => ?_, fun h => ?_⟩)
  · exact absurd (x_lt (y := 0) rfl rfl (by omega) (by decide) h) (by omega)
  · refine hK _ _ _ _ (hK _ _ _ _ (hK _ _ _ _ (hK _ _ _ _ ⟨fun h => ?_, fun h => ?_⟩)))
    · exact absurd (x_ge (y := 20) rfl rfl (by omega) (by decide) h) (by omega)
    · refine hK _ _ _ _ (hK _ _ _ _ (hK _ _ _ _ ⟨x_vp rfl ha (by decide), ?_⟩))
      rw [x_cl rfl (by omega)]
      exact hK _ _ _ _ (hK _ _ _ _ ⟨rfl, rfl⟩)
theorem g_put23 {nS d i : Nat} {M : aM} {j x : Int32} {a : Nat} (hj : j = Int32.ofNat a) (ha : a < 20) : aC nS (d + 1) 106 [vR 23 i, vI j, vI x] M (fun v M' => v = none ∧ M' = a_pI M 23 i a x) (fun _ _ => False) := by
  refine aC_mk rfl rfl ?_
  intro K hK _
  subst hj
  refine hK _ _ _ _ (hK _ _ _ _ ⟨fun h => ?_, fun h => ?_⟩)
  · exact absurd (x_lt (y := 0) rfl rfl (by omega) (by decide) h) (by omega)
  · refine hK _ _ _ _ (hK _ _ _ _ (hK _ _ _ _ (hK _ _ _ _ ⟨fun h => ?_, fun h => ?_⟩)))
    · exact absurd (x_ge (y := 20) rfl rfl (by omega) (by decide) h) (by omega)
    · refine hK _ _ _ _ (hK _ _ _ _ (hK _ _ _ _ (hK _ _ _ _ ⟨x_vp rfl ha (by decide), ?_⟩)))
      rw [x_cl rfl (by omega)]
      exact hK _ _ _ _ ⟨rfl, rfl⟩
theorem g_at23 {nS d i : Nat} {M : aM} {j : Int32} {a : Nat} (hj : j = Int32.ofNat a) (ha : a < 20) : aC nS (d + 1) 104 [vR 23 i, vI j] M (fun v M' => v = some (vI (M.1 23 i a)) ∧ M = M') (fun _ _ => False) := by
  refine aC_mk rfl rfl ?_
  intro K hK _
  subst hj
  refine hK _ _ _ _ (hK _ _ _ _ ⟨fun h => ?_, fun h => ?_⟩)
  · exact absurd (x_lt (y := 0) rfl rfl (by omega) (by decide) h) (by omega)
  · refine hK _ _ _ _ (hK _ _ _ _ (hK _ _ _ _ (hK _ _ _ _ ⟨fun h => ?_, fun h => ?_⟩)))
    · exact absurd (x_ge (y := 20) rfl rfl (by omega) (by decide) h) (by omega)
    · refine hK _ _ _ _ (hK _ _ _ _ (hK _ _ _ _ ⟨x_vp rfl ha (by decide), ?_⟩))
      rw [x_cl rfl (by omega)]
      exact hK _ _ _ _ (hK _ _ _ _ ⟨rfl, rfl⟩)
/-- rows of changes, of the class; of the reference -/
def PHh : xF := fun k i _ => (Nat.ble 20 k && Nat.ble k 23) && Nat.beq i 0
theorem PHh_t {k j : Nat} (h1 : 20 ≤ k) (h2 : k ≤ 23) : PHh k 0 j = true := by
  show ((Nat.ble 20 k && Nat.ble k 23) && Nat.beq 0 0) = true
  rw [Nat.ble_eq_true_of_le h1, Nat.ble_eq_true_of_le h2]
  rfl
def PU : xF := fun k _ j => Nat.beq k 37 && ((Nat.ble 7 j && Nat.ble j 8) || Nat.ble 50 j)
theorem PU_no {i j : Nat} (h : j < 50) (h7 : j ≠ 7) (h8 : j ≠ 8) : PU 37 i j = false := by
  show (Nat.beq 37 37 && ((Nat.ble 7 j && Nat.ble j 8) || Nat.ble 50 j)) = false
  rw [x_nble (show ¬ 50 ≤ j by omega)]
  by_cases h9 : 7 ≤ j
  · rw [x_nble (show ¬ j ≤ 8 by omega), Bool.and_false]
    rfl
  · rw [x_nble h9]
    rfl
theorem PU_t {i j : Nat} (h : 50 ≤ j ∨ j = 7 ∨ j = 8) : PU 37 i j = true := by
  show (Nat.beq 37 37 && ((Nat.ble 7 j && Nat.ble j 8) || Nat.ble 50 j)) = true
  rcases h with h | rfl | rfl
  · rw [Nat.ble_eq_true_of_le h, Bool.or_true]
    rfl
  · rfl
  · rfl
theorem x_ix {a b : Nat} : (50 : Int32) + 48 * Int32.ofNat a + Int32.ofNat b = Int32.ofNat (50 + 48 * a + b) := by
  rw [show (48 : Int32) = Int32.ofNat 48 from rfl, ← Int32.ofNat_mul, show (50 : Int32) = Int32.ofNat 50 from rfl, hI_ad, hI_ad]
theorem x_20 {c : Nat} : (20 : Int32) + Int32.ofNat c = Int32.ofNat (20 + c) := hI_ad (a := 20)
theorem x_48 {c : Nat} : Int32.ofNat c + (48 : Int32) = Int32.ofNat (c + 48) := hI_ad (b := 48)
theorem x_iy {a b : Nat} : (50 : Int32) + 48 * Int32.ofNat a + 24 + Int32.ofNat b = Int32.ofNat (74 + 48 * a + b) := by
  rw [show (48 : Int32) = Int32.ofNat 48 from rfl, ← Int32.ofNat_mul, show (50 : Int32) = Int32.ofNat 50 from rfl, hI_ad, show (24 : Int32) = Int32.ofNat 24 from rfl, hI_ad, hI_ad]
  congr 1
  omega
/-- behind a change: n were noted before it -/
def NT (M M' : aM) (n : Nat) (p b f : Int32) : Prop := (M'.1 20 0 4 = Int32.ofNat (hN n) ∧ M'.1 20 0 5 = Int32.ofNat (hN n)) ∧ (∀ q j, 21 ≤ q → q ≤ 23 → j < min n 19 → M'.1 q 0 j = M.1 q 0 (j + (n - 19))) ∧ M'.1 21 0 (min n 19) = p ∧ M'.1 22 0 (min n 19) = b ∧ M'.1 23 0 (min n 19) = f
theorem c_drop {nS d : Nat} {M : aM} : aC nS (d + 2) 75 [vR 20 0] M (fun v M' => v = none ∧ fr PHh M M' ∧ M'.1 20 0 4 = 19 ∧ ∀ q j, 21 ≤ q → q ≤ 23 → j < 19 → M'.1 q 0 j = M.1 q 0 (j + 1)) (fun _ _ => False) := by
  refine aC_mk rfl rfl ?_
  intro K hK _
  have lp : ∀ (m i : Nat) (y : Int32) (M1 : aM), 20 - i = m → 1 ≤ i → i ≤ 20 → y = Int32.ofNat i → fr PHh M M1 → (∀ q j, 21 ≤ q → q ≤ 23 → M1.1 q 0 j = if j + 1 < i then M.1 q 0 (j + 1) else M.1 q 0 j) → K 2 [some (vR 20 0), some (vI y)] [] M1 := by
    intro m
    induction m with
    | zero =>
      intro i y M1 hm hi1 hi hy hf hc
      subst hy
      refine hK _ _ _ _ (hK _ _ _ _ (hK _ _ _ _ (⟨fun h => ?_, fun h => ?_⟩)))
      · refine hK _ _ _ _ (hK _ _ _ _ (hK _ _ _ _ (hK _ _ _ _ (⟨rfl, fr_p hf (PHh_t (by decide) (by decide)), x_pe, fun q j a b c => ?_⟩))))
        rw [x_pn (fun z => by have := z.1; omega), hc q j a b, if_pos (show j + 1 < i by omega)]
      · exact absurd (x_nge (x := i) (y := 20) rfl rfl (by omega) (by decide) h) (by omega)
    | succ m ih =>
      intro i y M1 hm hi1 hi hy hf hc
      subst hy
      refine hK _ _ _ _ (hK _ _ _ _ (hK _ _ _ _ (⟨fun h => ?_, fun h => ?_⟩)))
      · exact absurd (x_ge (x := i) (y := 20) rfl rfl (by omega) (by decide) h) (by omega)
      · refine hK _ _ _ _ (hK _ _ _ _ (hK _ _ _ _ (hK _ _ _ _ (hK _ _ _ _ (hK _ _ _ _ (hK _ _ _ _ (hK _ _ _ _ (hK _ _ _ _ (⟨_, g_at21 rfl (show i < 20 by omega), rfl, fun v20 M20 g20 => ?_⟩)))))))))
        obtain ⟨rfl, rfl⟩ := g20
        refine hK _ _ _ _ (⟨_, g_put21 (a := i - 1) (x_sub (y := 1) (by omega) (by omega)) (by omega), rfl, fun v23 M23 g23 => ?_⟩)
        obtain ⟨rfl, rfl⟩ := g23
        refine hK _ _ _ _ (hK _ _ _ _ (hK _ _ _ _ (hK _ _ _ _ (hK _ _ _ _ (hK _ _ _ _ (hK _ _ _ _ (hK _ _ _ _ (hK _ _ _ _ (⟨_, g_at22 rfl (show i < 20 by omega), rfl, fun v38 M38 g38 => ?_⟩)))))))))
        obtain ⟨rfl, rfl⟩ := g38
        refine hK _ _ _ _ (⟨_, g_put22 (a := i - 1) (x_sub (y := 1) (by omega) (by omega)) (by omega), rfl, fun v41 M41 g41 => ?_⟩)
        obtain ⟨rfl, rfl⟩ := g41
        refine hK _ _ _ _ (hK _ _ _ _ (hK _ _ _ _ (hK _ _ _ _ (hK _ _ _ _ (hK _ _ _ _ (hK _ _ _ _ (hK _ _ _ _ (hK _ _ _ _ (⟨_, g_at23 rfl (show i < 20 by omega), rfl, fun v56 M56 g56 => ?_⟩)))))))))
        obtain ⟨rfl, rfl⟩ := g56
        refine hK _ _ _ _ (⟨_, g_put23 (a := i - 1) (x_sub (y := 1) (by omega) (by omega)) (by omega), rfl, fun v59 M59 g59 => ?_⟩)
        obtain ⟨rfl, rfl⟩ := g59
        refine hK _ _ _ _ (hK _ _ _ _ (?_))
        refine ih (i + 1) _ _ (by omega) (by omega) (by omega) hI_s (fr_p (fr_p (fr_p hf (PHh_t (by decide) (by decide))) (PHh_t (by decide) (by decide))) (PHh_t (by decide) (by decide))) (fun q j a b => ?_)
        have key : (a_pI (a_pI (a_pI M1 21 0 (i - 1) (M1.1 21 0 i)) 22 0 (i - 1) ((a_pI M1 21 0 (i - 1) (M1.1 21 0 i)).1 22 0 i)) 23 0 (i - 1) ((a_pI (a_pI M1 21 0 (i - 1) (M1.1 21 0 i)) 22 0 (i - 1) ((a_pI M1 21 0 (i - 1) (M1.1 21 0 i)).1 22 0 i)).1 23 0 i)).1 q 0 j = if j = i - 1 then M1.1 q 0 i else M1.1 q 0 j := by
          rcases (show q = 21 ∨ q = 22 ∨ q = 23 by omega) with rfl | rfl | rfl
          · rw [x_pn (fun z => absurd z.1 (by decide)), x_pn (fun z => absurd z.1 (by decide))]
            by_cases he : j = i - 1
            · rw [if_pos he, he]
              exact x_pe
            · rw [if_neg he]
              exact x_pn (fun z => he z.2.2)
          · rw [x_pn (fun z => absurd z.1 (by decide))]
            by_cases he : j = i - 1
            · rw [if_pos he, he, x_pe]
              exact x_pn (fun z => absurd z.1 (by decide))
            · rw [if_neg he, x_pn (fun z => he z.2.2)]
              exact x_pn (fun z => absurd z.1 (by decide))
          · by_cases he : j = i - 1
            · rw [if_pos he, he, x_pe, x_pn (fun z => absurd z.1 (by decide))]
              exact x_pn (fun z => absurd z.1 (by decide))
            · rw [if_neg he, x_pn (fun z => he z.2.2), x_pn (fun z => absurd z.1 (by decide))]
              exact x_pn (fun z => absurd z.1 (by decide))
        refine key.trans ?_
        by_cases he : j = i - 1
        · rw [if_pos he, if_pos (show j + 1 < i + 1 by omega), hc q i a b, if_neg (show ¬ i + 1 < i by omega), show j + 1 = i by omega]
        · rw [if_neg he, hc q j a b]
          by_cases hl9 : j + 1 < i
          · rw [if_pos hl9, if_pos (show j + 1 < i + 1 by omega)]
          · rw [if_neg hl9, if_neg (show ¬ j + 1 < i + 1 by omega)]
  refine hK _ _ _ _ (hK _ _ _ _ (?_))
  exact lp _ 1 _ M rfl (by decide) (by decide) rfl fr_r (fun q j _ _ => by rw [if_neg (show ¬ j + 1 < 1 by omega)])
theorem c_note {nS d n : Nat} {M : aM} {p b f : Int32} (hn : n ≤ 20) (hd : M.1 20 0 4 = Int32.ofNat n) : aC nS (d + 3) 74 [vR 20 0, vI p, vI b, vI f] M (fun v M' => v = none ∧ fr PHh M M' ∧ NT M M' n p b f) (fun _ _ => False) := by
  refine aC_mk rfl rfl ?_
  intro K hK _
  have tl : ∀ M1 : aM, fr PHh M M1 → M1.1 20 0 4 = Int32.ofNat (min n 19) → (∀ q j, 21 ≤ q → q ≤ 23 → j < min n 19 → M1.1 q 0 j = M.1 q 0 (j + (n - 19))) → K 13 [some (vR 20 0), some (vI p), some (vI b), some (vI f)] [] M1 := by
    intro M1 hf h4 hc
    have n20 : min n 19 < 20 := by omega
    refine hK _ _ _ _ (hK _ _ _ _ (hK _ _ _ _ (hK _ _ _ _ (hK _ _ _ _ (hK _ _ _ _ (⟨_, g_put21 h4 n20, rfl, fun v22 M22 g22 => ?_⟩))))))
    obtain ⟨rfl, rfl⟩ := g22
    refine hK _ _ _ _ (hK _ _ _ _ (hK _ _ _ _ (hK _ _ _ _ (hK _ _ _ _ (hK _ _ _ _ (⟨_, g_put22 ((x_pn (fun z => absurd z.1 (by decide))).trans h4) n20, rfl, fun v34 M34 g34 => ?_⟩))))))
    obtain ⟨rfl, rfl⟩ := g34
    refine hK _ _ _ _ (hK _ _ _ _ (hK _ _ _ _ (hK _ _ _ _ (hK _ _ _ _ (hK _ _ _ _ (⟨_, g_put23 ((x_pn (fun z => absurd z.1 (by decide))).trans ((x_pn (fun z => absurd z.1 (by decide))).trans h4)) n20, rfl, fun v46 M46 g46 => ?_⟩))))))
    obtain ⟨rfl, rfl⟩ := g46
    have e4 : (a_pI (a_pI (a_pI M1 21 0 (min n 19) p) 22 0 (min n 19) b) 23 0 (min n 19) f).1 20 0 4 = Int32.ofNat (min n 19) := (x_pn (fun z => absurd z.1 (by decide))).trans ((x_pn (fun z => absurd z.1 (by decide))).trans ((x_pn (fun z => absurd z.1 (by decide))).trans h4))
    have e5 : (a_pI (a_pI (a_pI M1 21 0 (min n 19) p) 22 0 (min n 19) b) 23 0 (min n 19) f).1 20 0 4 + 1 = Int32.ofNat (hN n) := by
      rw [e4]
      exact hI_s
    have F : ∀ {M2 : aM} {x y : Int32} {q j : Nat}, 21 ≤ q → (a_pI (a_pI M2 20 0 4 x) 20 0 5 y).1 q 0 j = M2.1 q 0 j := fun a => (x_pn (fun z => by have := z.1; omega)).trans (x_pn (fun z => by have := z.1; omega))
    refine hK _ _ _ _ (hK _ _ _ _ (hK _ _ _ _ (hK _ _ _ _ (hK _ _ _ _ (hK _ _ _ _ (hK _ _ _ _ (hK _ _ _ _ (hK _ _ _ _ (hK _ _ _ _ (hK _ _ _ _ (⟨rfl, fr_p (fr_p (fr_p (fr_p (fr_p hf (PHh_t (by decide) (by decide))) (PHh_t (by decide) (by decide))) (PHh_t (by decide) (by decide))) (PHh_t (by decide) (by decide))) (PHh_t (by decide) (by decide)), ⟨?_, ?_⟩, fun q j a b2 c => ?_, ?_, ?_, ?_⟩)))))))))))
    · exact (x_pn (fun z => absurd z.2.2 (by decide))).trans (x_pe.trans e5)
    · exact x_pe.trans (x_pe.trans e5)
    · rw [F a, ← hc q j a b2 c]
      exact (x_pn (fun z => by have := z.2.2; omega)).trans ((x_pn (fun z => by have := z.2.2; omega)).trans (x_pn (fun z => by have := z.2.2; omega)))
    · exact (F (by decide)).trans ((x_pn (fun z => absurd z.1 (by decide))).trans ((x_pn (fun z => absurd z.1 (by decide))).trans x_pe))
    · exact (F (by decide)).trans ((x_pn (fun z => absurd z.1 (by decide))).trans x_pe)
    · exact (F (by decide)).trans x_pe
  refine hK _ _ _ _ (hK _ _ _ _ (hK _ _ _ _ (hK _ _ _ _ (⟨fun h => ?_, fun h => ?_⟩))))
  · have h9 := x_lt (x := n) (y := 20) hd rfl (by omega) (by decide) h
    exact tl M fr_r (by rw [hd, show min n 19 = n by omega]) (fun q j _ _ _ => by rw [show n - 19 = 0 by omega, Nat.add_zero])
  · have h9 := x_nlt (x := n) (y := 20) hd rfl (by omega) (by decide) h
    refine hK _ _ _ _ (hK _ _ _ _ (⟨_, c_drop, rfl, fun v10 M10 g10 => ?_⟩))
    obtain ⟨rfl, hf, h4, hc⟩ := g10
    refine tl M10 hf (by rw [h4, show min n 19 = 19 by omega]; rfl) (fun q j a b2 c => ?_)
    rw [hc q j a b2 (by omega), show n - 19 = 1 by omega]
theorem c_noteLine {nS d n : Nat} {M : aM} {p b f : Int32} (hn : n ≤ 20) (hd : M.1 20 0 4 = Int32.ofNat n) : aC nS (d + 4) 72 [vR 20 0, vI p, vI b, vI f] M (fun v M' => v = none ∧ fr PHh M M' ∧ NT M M' n p b f) (fun _ _ => False) := by
  refine aC_mk rfl rfl ?_
  intro K hK _
  refine hK _ _ _ _ (hK _ _ _ _ (hK _ _ _ _ (hK _ _ _ _ (hK _ _ _ _ (⟨_, c_note hn hd, rfl, fun v4 M4 g4 => ?_⟩)))))
  obtain ⟨rfl, hf, hc⟩ := g4
  exact hK _ _ _ _ (⟨rfl, hf, hc⟩)
theorem c_noteFrame {nS d n : Nat} {M : aM} {p b f : Int32} (hn : n ≤ 20) (hd : M.1 20 0 4 = Int32.ofNat n) : aC nS (d + 4) 73 [vR 20 0, vI p, vI b, vI f] M (fun v M' => v = none ∧ fr PHh M M' ∧ NT M M' n (32 + p) b f) (fun _ _ => False) := by
  refine aC_mk rfl rfl ?_
  intro K hK _
  refine hK _ _ _ _ (hK _ _ _ _ (hK _ _ _ _ (hK _ _ _ _ (hK _ _ _ _ (hK _ _ _ _ (hK _ _ _ _ (⟨_, c_note hn hd, rfl, fun v7 M7 g7 => ?_⟩)))))))
  obtain ⟨rfl, hf, hc⟩ := g7
  exact hK _ _ _ _ (⟨rfl, hf, hc⟩)
theorem r_rem {nS d n : Nat} {M : aM} (hn : n ≤ 20) (h8 : M.1 37 0 8 = Int32.ofNat n) : aC nS (d + 1) 216 [vR 36 0] M (fun v M' => v = none ∧ fr PU M M' ∧ M'.1 37 0 8 = Int32.ofNat (min n 19) ∧ (∀ u, u < 48 * min n 19 → M'.1 37 0 (50 + u) = M.1 37 0 (50 + 48 * (n - 19) + u)) ∧ ∀ c, c < 24 → M'.1 37 0 (50 + 48 * min n 19 + c) = M.1 37 0 (20 + c)) (fun _ _ => False) := by
  refine aC_mk rfl rfl ?_
  intro K hK _
  have l2 : ∀ (m c : Nat) (y : Int32) (M1 : aM), 24 - c = m → c ≤ 24 → y = Int32.ofNat c → fr PU M M1 → M1.1 37 0 8 = Int32.ofNat (min n 19) → (∀ u, u < 48 * min n 19 → M1.1 37 0 (50 + u) = M.1 37 0 (50 + 48 * (n - 19) + u)) → (∀ c2, c2 < c → M1.1 37 0 (50 + 48 * min n 19 + c2) = M.1 37 0 (20 + c2)) → K 70 [some (vR 36 0), some (vI y)] [] M1 := by
    intro m
    induction m with
    | zero =>
      intro c y M1 hm hc hy hf h4 hu hv
      subst hy
      refine hK _ _ _ _ (hK _ _ _ _ (hK _ _ _ _ (⟨fun h => ?_, fun h => ?_⟩)))
      · exact hK _ _ _ _ (⟨rfl, hf, h4, hu, fun c2 hc2 => hv c2 (by omega)⟩)
      · exact absurd (x_nge (x := c) (y := 24) rfl rfl (by omega) (by decide) h) (by omega)
    | succ m ih =>
      intro c y M1 hm hc hy hf h4 hu hv
      subst hy
      refine hK _ _ _ _ (hK _ _ _ _ (hK _ _ _ _ (⟨fun h => ?_, fun h => ?_⟩)))
      · exact absurd (x_ge (x := c) (y := 24) rfl rfl (by omega) (by decide) h) (by omega)
      · refine hK _ _ _ _ (hK _ _ _ _ (hK _ _ _ _ (hK _ _ _ _ (hK _ _ _ _ (hK _ _ _ _ (hK _ _ _ _ (hK _ _ _ _ (⟨x_vp (a := 8) rfl (by decide) (by decide), ?_⟩))))))))
        rw [x_cl (j := 8) (a := 8) rfl (by decide), h4]
        refine hK _ _ _ _ (hK _ _ _ _ (hK _ _ _ _ (hK _ _ _ _ (hK _ _ _ _ (hK _ _ _ _ (hK _ _ _ _ (hK _ _ _ _ (hK _ _ _ _ (hK _ _ _ _ (⟨x_vp (a := 20 + c) (hI_ad (a := 20)) (by omega) (by decide), ?_⟩))))))))))
        rw [x_cl (x_20 (c := c)) (by omega), hf.1 37 0 (20 + c) (PU_no (by omega) (by omega) (by omega))]
        refine hK _ _ _ _ (⟨x_vp (a := 50 + 48 * min n 19 + c) x_ix (by omega) (by decide), ?_⟩)
        rw [x_cl (x_ix (a := min n 19) (b := c)) (by omega)]
        refine hK _ _ _ _ (hK _ _ _ _ (?_))
        refine ih (c + 1) _ _ (by omega) (by omega) hI_s (fr_p hf (PU_t (Or.inl (by omega)))) ((x_pn (fun z => by have := z.2.2; omega)).trans h4) (fun u hu9 => (x_pn (fun z => by have := z.2.2; omega)).trans (hu u hu9)) (fun c2 hc2 => ?_)
        by_cases he : c2 = c
        · rw [he]
          exact x_pe
        · exact (x_pn (fun z => he (by have := z.2.2; omega))).trans (hv c2 (by omega))
  have l1 : n = 20 → ∀ (m u : Nat) (y : Int32) (M1 : aM), 962 - u = m → 50 ≤ u → u ≤ 962 → y = Int32.ofNat u → fr PU M M1 → M1.1 37 0 8 = Int32.ofNat n → (∀ j, 50 ≤ j → M1.1 37 0 j = if j < u then M.1 37 0 (j + 48) else M.1 37 0 j) → K 29 [some (vR 36 0), some (vI y)] [] M1 := by
    intro hn20 m
    induction m with
    | zero =>
      intro u y M1 hm hu5 hu hy hf h4 hc
      subst hy
      refine hK _ _ _ _ (hK _ _ _ _ (hK _ _ _ _ (⟨fun h => ?_, fun h => ?_⟩)))
      · refine hK _ _ _ _ (hK _ _ _ _ (hK _ _ _ _ (hK _ _ _ _ (hK _ _ _ _ (⟨x_vp (a := 8) rfl (by decide) (by decide), ?_⟩)))))
        rw [x_cl (j := 8) (a := 8) rfl (by decide), h4]
        refine hK _ _ _ _ (hK _ _ _ _ (hK _ _ _ _ (⟨x_vp (a := 8) rfl (by decide) (by decide), ?_⟩)))
        rw [x_cl (j := 8) (a := 8) rfl (by decide)]
        refine hK _ _ _ _ (hK _ _ _ _ (?_))
        refine l2 _ 0 _ _ rfl (Nat.zero_le _) rfl (fr_p hf (PU_t (Or.inr (Or.inr rfl)))) (x_pe.trans ?_) (fun u9 hu9 => ?_) (fun c2 hc2 => absurd hc2 (Nat.not_lt_zero _))
        · rw [hn20]
          rfl
        · rw [x_pn (fun z => by have := z.2.2; omega), hc (50 + u9) (by omega), if_pos (by omega), show 50 + u9 + 48 = 50 + 48 * (n - 19) + u9 by omega]
      · exact absurd (x_nge (x := u) (y := 962) rfl rfl (by omega) (by decide) h) (by omega)
    | succ m ih =>
      intro u y M1 hm hu5 hu hy hf h4 hc
      subst hy
      refine hK _ _ _ _ (hK _ _ _ _ (hK _ _ _ _ (⟨fun h => ?_, fun h => ?_⟩)))
      · exact absurd (x_ge (x := u) (y := 962) rfl rfl (by omega) (by decide) h) (by omega)
      · refine hK _ _ _ _ (hK _ _ _ _ (hK _ _ _ _ (hK _ _ _ _ (hK _ _ _ _ (hK _ _ _ _ (hK _ _ _ _ (hK _ _ _ _ (hK _ _ _ _ (⟨x_vp (a := u + 48) (hI_ad (b := 48)) (by omega) (by decide), ?_⟩)))))))))
        rw [x_cl (x_48 (c := u)) (by omega)]
        refine hK _ _ _ _ (⟨x_vp (a := u) rfl (by omega) (by decide), ?_⟩)
        rw [x_cl rfl (by omega)]
        refine hK _ _ _ _ (hK _ _ _ _ (?_))
        refine ih (u + 1) _ _ (by omega) (by omega) (by omega) hI_s (fr_p hf (PU_t (Or.inl hu5))) ((x_pn (fun z => by have := z.2.2; omega)).trans h4) (fun j hj => ?_)
        by_cases he : j = u
        · rw [he, x_pe, if_pos (Nat.lt_succ_self u), hc (u + 48) (by omega), if_neg (by omega)]
        · rw [x_pn (fun z => he z.2.2), hc j hj]
          by_cases h9 : j < u
          · rw [if_pos h9, if_pos (show j < u + 1 by omega)]
          · rw [if_neg h9, if_neg (show ¬ j < u + 1 by omega)]
  have f0 : ∀ x : Int32, fr PU M (a_pI M 37 0 7 x) := fun x => fr_p fr_r (PU_t (Or.inr (Or.inl rfl)))
  refine hK _ _ _ _ (hK _ _ _ _ (hK _ _ _ _ (hK _ _ _ _ (hK _ _ _ _ (hK _ _ _ _ (hK _ _ _ _ (⟨x_vp (a := 8) rfl (by decide) (by decide), ?_⟩)))))))
  rw [x_cl (j := 8) (a := 8) rfl (by decide), h8]
  refine hK _ _ _ _ (⟨x_vp (a := 7) rfl (by decide) (by decide), ?_⟩)
  rw [x_cl (j := 7) (a := 7) rfl (by decide)]
  refine hK _ _ _ _ (hK _ _ _ _ (hK _ _ _ _ (hK _ _ _ _ (⟨x_vp (a := 8) rfl (by decide) (by decide), ?_⟩))))
  rw [x_cl (j := 8) (a := 8) rfl (by decide), show (a_pI M 37 0 7 (Int32.ofNat n)).1 37 0 8 = Int32.ofNat n from (x_pn (fun z => absurd z.2.2 (by decide))).trans h8]
  refine hK _ _ _ _ (hK _ _ _ _ (⟨fun h => ?_, fun h => ?_⟩))
  · have h9 : ¬ n = 20 := fun z => h (by rw [z]; rfl)
    refine hK _ _ _ _ (hK _ _ _ _ (?_))
    refine l2 _ 0 _ _ rfl (Nat.zero_le _) rfl (f0 _) ?_ (fun u9 hu9 => ?_) (fun c2 hc2 => absurd hc2 (Nat.not_lt_zero _))
    · rw [show min n 19 = n by omega]
      exact (x_pn (fun z => absurd z.2.2 (by decide))).trans h8
    · rw [x_pn (fun z => by have := z.2.2; omega), show 50 + 48 * (n - 19) + u9 = 50 + u9 by omega]
  · have h9 : n = 20 := x_eq (x := n) (y := 20) rfl rfl (by omega) (by decide) h
    refine hK _ _ _ _ (hK _ _ _ _ (?_))
    exact l1 h9 _ 50 _ _ rfl (by decide) (by decide) rfl (f0 _) ((x_pn (fun z => absurd z.2.2 (by decide))).trans h8) (fun j hj => by rw [if_neg (show ¬ j < 50 by omega)]; exact x_pn (fun z => by have := z.2.2; omega))
theorem r_done {nS d n : Nat} {M : aM} (hn : n ≤ 19) (h8 : M.1 37 0 8 = Int32.ofNat n) : aC nS (d + 1) 217 [vR 36 0] M (fun v M' => v = none ∧ fr PU M M' ∧ M'.1 37 0 8 = Int32.ofNat (n + 1) ∧ M'.1 37 0 7 = Int32.ofNat (n + 1) ∧ (∀ u, u < 48 * n + 24 → M'.1 37 0 (50 + u) = M.1 37 0 (50 + u)) ∧ ∀ c, c < 24 → M'.1 37 0 (74 + 48 * n + c) = M.1 37 0 (20 + c)) (fun _ _ => False) := by
  refine aC_mk rfl rfl ?_
  intro K hK _
  have l2 : ∀ (m c : Nat) (y : Int32) (M1 : aM), 24 - c = m → c ≤ 24 → y = Int32.ofNat c → fr PU M M1 → M1.1 37 0 8 = Int32.ofNat n → (∀ u, u < 48 * n + 24 → M1.1 37 0 (50 + u) = M.1 37 0 (50 + u)) → (∀ c2, c2 < c → M1.1 37 0 (74 + 48 * n + c2) = M.1 37 0 (20 + c2)) → K 2 [some (vR 36 0), some (vI y)] [] M1 := by
    intro m
    induction m with
    | zero =>
      intro c y M1 hm hc hy hf h4 hu hv
      subst hy
      refine hK _ _ _ _ (hK _ _ _ _ (hK _ _ _ _ (⟨fun h => ?_, fun h => ?_⟩)))
      · refine hK _ _ _ _ (hK _ _ _ _ (hK _ _ _ _ (hK _ _ _ _ (hK _ _ _ _ (⟨x_vp (a := 8) rfl (by decide) (by decide), ?_⟩)))))
        rw [x_cl (j := 8) (a := 8) rfl (by decide), h4]
        refine hK _ _ _ _ (hK _ _ _ _ (hK _ _ _ _ (⟨x_vp (a := 8) rfl (by decide) (by decide), ?_⟩)))
        rw [x_cl (j := 8) (a := 8) rfl (by decide)]
        refine hK _ _ _ _ (hK _ _ _ _ (hK _ _ _ _ (hK _ _ _ _ (hK _ _ _ _ (hK _ _ _ _ (hK _ _ _ _ (⟨x_vp (a := 8) rfl (by decide) (by decide), ?_⟩)))))))
        rw [x_cl (j := 8) (a := 8) rfl (by decide), x_pe]
        refine hK _ _ _ _ (⟨x_vp (a := 7) rfl (by decide) (by decide), ?_⟩)
        rw [x_cl (j := 7) (a := 7) rfl (by decide)]
        exact hK _ _ _ _ (⟨rfl, fr_p (fr_p hf (PU_t (Or.inr (Or.inr rfl)))) (PU_t (Or.inr (Or.inl rfl))), (x_pn (fun z => absurd z.2.2 (by decide))).trans (x_pe.trans hI_s), x_pe.trans hI_s, fun u hu9 => (x_pn (fun z => by have := z.2.2; omega)).trans ((x_pn (fun z => by have := z.2.2; omega)).trans (hu u hu9)), fun c2 hc2 => (x_pn (fun z => by have := z.2.2; omega)).trans ((x_pn (fun z => by have := z.2.2; omega)).trans (hv c2 (by omega)))⟩)
      · exact absurd (x_nge (x := c) (y := 24) rfl rfl (by omega) (by decide) h) (by omega)
    | succ m ih =>
      intro c y M1 hm hc hy hf h4 hu hv
      subst hy
      refine hK _ _ _ _ (hK _ _ _ _ (hK _ _ _ _ (⟨fun h => ?_, fun h => ?_⟩)))
      · exact absurd (x_ge (x := c) (y := 24) rfl rfl (by omega) (by decide) h) (by omega)
      · refine hK _ _ _ _ (hK _ _ _ _ (hK _ _ _ _ (hK _ _ _ _ (hK _ _ _ _ (hK _ _ _ _ (hK _ _ _ _ (hK _ _ _ _ (⟨x_vp (a := 8) rfl (by decide) (by decide), ?_⟩))))))))
        rw [x_cl (j := 8) (a := 8) rfl (by decide), h4]
        refine hK _ _ _ _ (hK _ _ _ _ (hK _ _ _ _ (hK _ _ _ _ (hK _ _ _ _ (hK _ _ _ _ (hK _ _ _ _ (hK _ _ _ _ (hK _ _ _ _ (hK _ _ _ _ (hK _ _ _ _ (hK _ _ _ _ (⟨x_vp (a := 20 + c) (hI_ad (a := 20)) (by omega) (by decide), ?_⟩))))))))))))
        rw [x_cl (x_20 (c := c)) (by omega), hf.1 37 0 (20 + c) (PU_no (by omega) (by omega) (by omega))]
        refine hK _ _ _ _ (⟨x_vp (a := 74 + 48 * n + c) x_iy (by omega) (by decide), ?_⟩)
        rw [x_cl (x_iy (a := n) (b := c)) (by omega)]
        refine hK _ _ _ _ (hK _ _ _ _ (?_))
        refine ih (c + 1) _ _ (by omega) (by omega) hI_s (fr_p hf (PU_t (Or.inl (by omega)))) ((x_pn (fun z => by have := z.2.2; omega)).trans h4) (fun u hu9 => (x_pn (fun z => by have := z.2.2; omega)).trans (hu u hu9)) (fun c2 hc2 => ?_)
        by_cases he : c2 = c
        · rw [he]
          exact x_pe
        · exact (x_pn (fun z => he (by have := z.2.2; omega))).trans (hv c2 (by omega))
  refine hK _ _ _ _ (hK _ _ _ _ (?_))
  exact l2 _ 0 _ M rfl (Nat.zero_le _) rfl fr_r h8 (fun _ _ => rfl) (fun c2 hc2 => absurd hc2 (Nat.not_lt_zero _))
