theorem b_countText {nS d i : Nat} {M : aM} : aC nS (d + 1) 5 [vR 4 i] M (fun v M' => v = none ∧ M' = a_pI M 4 i 4 (M.1 4 i 4 + 1)) (fun _ _ => False) := by
  refine aC_mk rfl rfl ?_
  intro K hK _
  exact hK _ _ _ _ (hK _ _ _ _ (hK _ _ _ _ (hK _ _ _ _ (hK _ _ _ _ (hK _ _ _ _ (hK _ _ _ _ ⟨rfl, rfl⟩))))))
theorem t_clear {nS d : Nat} {M : aM} : aC nS (d + 1) 133 [vR 1 0] M (fun v M' => v = none ∧ M' = a_pI M 1 0 1 0) (fun _ _ => False) := by
  refine aC_mk rfl rfl ?_
  intro K hK _
  exact hK _ _ _ _ (hK _ _ _ _ (hK _ _ _ _ (hK _ _ _ _ ⟨rfl, rfl⟩)))
theorem b_forget {nS d : Nat} {M : aM} : aC nS (d + 1) 71 [vR 20 0] M (fun v M' => v = none ∧ M' = a_pI (a_pI M 20 0 4 0) 20 0 5 0) (fun _ _ => False) := by
  refine aC_mk rfl rfl ?_
  intro K hK _
  exact hK _ _ _ _ (hK _ _ _ _ (hK _ _ _ _ (hK _ _ _ _ (hK _ _ _ _ (hK _ _ _ _ (hK _ _ _ _ ⟨rfl, rfl⟩))))))
/-- the class's side between calls: n bytes, the board e, t texts, h and k changes; a kept image -/
def cG (i : Nat) (M : aM) : Prop := ∃ k o, gF i M k o
theorem cB_G {i : Nat} {M : aM} {e : xB} (h : cB i M e) : cG i M := ⟨_, _, h.1⟩
theorem cG_fr {i : Nat} {M M' : aM} (h : cG i M) (hc : ∀ q j, 5 ≤ q → q ≤ 11 → M'.1 q i j = M.1 q i j) : cG i M' := by
  obtain ⟨k, o, h⟩ := h
  exact ⟨k, o, gF_fr h hc⟩
def PTb : xF := fun k i j => (Nat.beq k 3 || ((Nat.ble 4 k && Nat.ble k 14) && (Nat.beq i 1 || Nat.beq i 0))) || ((Nat.beq k 1 && Nat.beq j 1) || (Nat.beq k 20 && (Nat.beq j 4 || Nat.beq j 5)))
theorem PTb_1 {k i j : Nat} (h1 : 4 ≤ k) (h2 : k ≤ 14) (h3 : i = 0 ∨ i = 1) : PTb k i j = true := by
  show ((Nat.beq k 3 || ((Nat.ble 4 k && Nat.ble k 14) && (Nat.beq i 1 || Nat.beq i 0))) || ((Nat.beq k 1 && Nat.beq j 1) || (Nat.beq k 20 && (Nat.beq j 4 || Nat.beq j 5)))) = true
  rw [Nat.ble_eq_true_of_le h1, Nat.ble_eq_true_of_le h2]
  rcases h3 with rfl | rfl
  · rw [show (Nat.beq 0 1 || Nat.beq 0 0) = true from rfl, Bool.and_self, Bool.and_self, Bool.or_true, Bool.true_or]
  · rw [show (Nat.beq 1 1 || Nat.beq 1 0) = true from rfl, Bool.and_self, Bool.and_self, Bool.or_true, Bool.true_or]
theorem PT_b {A B : aM} (h : fr PT A B) : fr PTb A B := fr_i h (fun k i j z => by
  have z : (Nat.beq k 3 || (((Nat.ble 4 k && Nat.ble k 14) && !(Nat.beq k 4 && Nat.beq j 4)) && Nat.beq i 1)) = true := z
  rw [Bool.or_eq_true, Bool.and_eq_true, Bool.and_eq_true, Bool.and_eq_true] at z
  rcases z with z | z
  · rw [Nat.eq_of_beq_eq_true z]
    rfl
  · exact PTb_1 (Nat.le_of_ble_eq_true z.1.1.1) (Nat.le_of_ble_eq_true z.1.1.2) (Or.inr (Nat.eq_of_beq_eq_true z.2)))
theorem PB_b {i : Nat} {A B : aM} (hi : i = 0 ∨ i = 1) (h : fr (PB i) A B) : fr PTb A B := fr_i h (fun k i' j z => by
  have z : ((Nat.ble 4 k && Nat.ble k 14) && Nat.beq i' i) = true := z
  rw [Bool.and_eq_true, Bool.and_eq_true] at z
  refine PTb_1 (Nat.le_of_ble_eq_true z.1.1) (Nat.le_of_ble_eq_true z.1.2) ?_
  rw [Nat.eq_of_beq_eq_true z.2]
  exact hi)
theorem x_k {q a i j : Nat} {A B : aM} (h : fr (PB i) A B) (hn : ¬ a = i) : B.1 q a j = A.1 q a j := h.1 q a j (by show (_ && Nat.beq a i) = false; rw [x_nbq hn, Bool.and_false])
theorem c_board {nS d n : Nat} {M : aM} {e : xB} (hn : M.1 1 0 1 = Int32.ofNat n) (h4 : n ≤ 400) (hB : cB 0 M e) (hD : cG 1 M) (ht : ∃ t, t ≤ 12 ∧ M.1 4 0 4 = Int32.ofNat t) : aC nS (d + 11) 152 [vR 0 0] M (fun v M' => fr PTb M M' ∧ M'.1 1 0 1 = 0 ∧ cG 1 M' ∧ M.1 4 0 4 ≠ 12 ∧ ∃ e', t_read (M.1 2 0) n e = some e' ∧ cB 0 M' e' ∧ v = some (vI (M.1 4 0 4 + 1)) ∧ M'.1 4 0 4 = M.1 4 0 4 + 1 ∧ M'.1 20 0 4 = 0 ∧ M'.1 20 0 5 = 0) (fun x M' => (fr PTb M M' ∧ M'.1 1 0 1 = 0 ∧ cG 1 M' ∧ cB 0 M' e ∧ M'.1 4 0 4 = M.1 4 0 4 ∧ M'.1 20 0 4 = M.1 20 0 4 ∧ M'.1 20 0 5 = M.1 20 0 5) ∧ ((x = 0 ∧ t_read (M.1 2 0) n e = none) ∨ (x = 1 ∧ M.1 4 0 4 = 12 ∧ ∃ e', t_read (M.1 2 0) n e = some e'))) := by
  obtain ⟨kd, od, hD⟩ := hD
  obtain ⟨t, ht1, ht2⟩ := ht
  refine aC_mk rfl rfl ?_
  intro K hK _
  refine hK _ _ _ _ (hK _ _ _ _ (hK _ _ _ _ (hK _ _ _ _ (hK _ _ _ _ ⟨_, b_copyFrom (a := 0) (b := 1) (by decide) (by decide) (by decide) hD hB, rfl, fun v8 M8 g8 => ?_⟩))))
  obtain ⟨rfl, f1, B1, T1⟩ := g8
  have n1 : M8.1 1 0 1 = Int32.ofNat n := (f1.1 1 0 1 rfl).trans hn
  have r1 : M8.1 2 0 = M.1 2 0 := by
    funext j
    exact f1.1 2 0 j rfl
  refine hK _ _ _ _ (hK _ _ _ _ (hK _ _ _ _ ⟨_, b_read n1 h4 B1, rfl, fun v15 M15 g15 => ?_⟩))
  obtain ⟨f2, hx⟩ := g15
  rw [r1] at hx
  have f3 : fr PTb M M15 := fr_t (PB_b (Or.inr rfl) f1) (PT_b f2)
  have B3 : cB 0 M15 e := cB_fr hB (fun q j h1 h2 _ => (f2.1 q 0 j (by show (Nat.beq q 3 || (_ && Nat.beq 0 1)) = false; rw [x_nbq (show ¬ q = 3 by omega), show Nat.beq 0 1 = false from rfl, Bool.and_false, Bool.or_self])).trans (x_k f1 (by decide)))
  have T3 : M15.1 4 0 4 = M.1 4 0 4 := (f2.1 4 0 4 rfl).trans (x_k f1 (by decide))
  have H4 : M15.1 20 0 4 = M.1 20 0 4 := (f2.1 20 0 4 rfl).trans (f1.1 20 0 4 rfl)
  have H5 : M15.1 20 0 5 = M.1 20 0 5 := (f2.1 20 0 5 rfl).trans (f1.1 20 0 5 rfl)
  have c4 : ∀ q i j, ¬ q = 1 → (a_pI M15 1 0 1 0).1 q i j = M15.1 q i j := fun q i j hq => x_pn (fun z => hq z.1)
  have f4 : fr PTb M (a_pI M15 1 0 1 0) := fr_p f3 rfl
  rcases hx with ⟨e', a1, rfl, a2⟩ | ⟨a1, rfl, ed, a2⟩
  · have B4 : cB 1 (a_pI M15 1 0 1 0) e' := cB_fr a2 (fun q j h1 h2 _ => c4 q 1 j (by omega))
    refine hK _ _ _ _ (hK _ _ _ _ (hK _ _ _ _ (hK _ _ _ _ ⟨_, t_clear, rfl, fun v23 M23 g23 => ?_⟩)))
    obtain ⟨rfl, rfl⟩ := g23
    refine hK _ _ _ _ (hK _ _ _ _ ⟨fun _ => ?_, fun q => absurd q (by decide)⟩)
    refine hK _ _ _ _ (hK _ _ _ _ (hK _ _ _ _ ⟨_, b_texts, rfl, fun v44 M44 g44 => ?_⟩))
    obtain ⟨rfl, rfl⟩ := g44
    refine hK _ _ _ _ (hK _ _ _ _ ⟨fun q => ?_, fun q => ?_⟩)
    · have t12 : M.1 4 0 4 ≠ 12 := fun z => by
        rw [c4 4 0 4 (by decide), T3, z] at q
        exact absurd q (by decide)
      refine hK _ _ _ _ (hK _ _ _ _ (hK _ _ _ _ ⟨_, b_countText, rfl, fun v66 M66 g66 => ?_⟩))
      obtain ⟨rfl, rfl⟩ := g66
      have B5 : cB 1 (a_pI (a_pI M15 1 0 1 0) 4 1 4 ((a_pI M15 1 0 1 0).1 4 1 4 + 1)) e' := cB_fr B4 (fun q j h1 h2 h3 => x_pn (fun z => h3 z.1 z.2.2))
      have e0 : gF 0 (a_pI (a_pI M15 1 0 1 0) 4 1 4 ((a_pI M15 1 0 1 0).1 4 1 4 + 1)) e.1.1 e.1.2 := gF_fr B3.1 (fun q j h1 h2 => (x_pn (fun z => by have := z.1; omega)).trans (c4 q 0 j (by omega)))
      refine hK _ _ _ _ (hK _ _ _ _ (hK _ _ _ _ (hK _ _ _ _ (hK _ _ _ _ ⟨_, b_copyFrom (a := 1) (b := 0) (by decide) (by decide) (by decide) e0 B5, rfl, fun v77 M77 g77 => ?_⟩))))
      obtain ⟨rfl, f7, B7, T7⟩ := g77
      have T8 : M77.1 4 0 4 = M.1 4 0 4 + 1 := by
        rw [T7, x_pe, c4 4 1 4 (by decide)]
        have h9 : M15.1 4 1 4 = M8.1 4 1 4 := f2.1 4 1 4 rfl
        rw [h9, T1]
      refine hK _ _ _ _ (hK _ _ _ _ (hK _ _ _ _ ⟨_, b_forget, rfl, fun v84 M84 g84 => ?_⟩))
      obtain ⟨rfl, rfl⟩ := g84
      refine hK _ _ _ _ (hK _ _ _ _ (hK _ _ _ _ ⟨_, b_texts, rfl, fun v91 M91 g91 => ?_⟩))
      obtain ⟨rfl, rfl⟩ := g91
      have c9 : ∀ q i j, ¬ q = 20 → (a_pI (a_pI M77 20 0 4 0) 20 0 5 0).1 q i j = M77.1 q i j := fun q i j hq => (x_pn (fun z => hq z.1)).trans (x_pn (fun z => hq z.1))
      refine hK _ _ _ _ ⟨?_, ?_, ?_, t12, e', a1, ?_, ?_, ?_, ?_, ?_⟩
      · exact fr_p (fr_p (fr_t (fr_p f4 rfl) (PB_b (Or.inl rfl) f7)) rfl) rfl
      · exact (c9 1 0 1 (by decide)).trans ((f7.1 1 0 1 rfl).trans ((x_pn (by decide)).trans x_pe))
      · exact cG_fr (cB_G B5) (fun q j h1 h2 => (c9 q 1 j (by omega)).trans (x_k f7 (by decide)))
      · exact cB_fr B7 (fun q j h1 h2 h3 => c9 q 0 j (by omega))
      · rw [c9 4 0 4 (by decide), T8]
      · exact (c9 4 0 4 (by decide)).trans T8
      · exact (x_pn (by decide)).trans x_pe
      · exact x_pe
    · have t12 : M.1 4 0 4 = 12 := by
        rw [c4 4 0 4 (by decide), T3, ht2] at q
        have := x_nlt rfl (y := 12) rfl (by omega) (by decide) q
        rw [ht2, show t = 12 by omega]
        rfl
      refine hK _ _ _ _ ⟨Nat.ble_eq_true_of_le (show 6 ≤ d + 10 by omega), ?_⟩
      exact ⟨⟨f4, x_pe, cB_G B4, cB_fr B3 (fun q j h1 h2 _ => c4 q 0 j (by omega)), (c4 4 0 4 (by decide)).trans T3, (c4 20 0 4 (by decide)).trans H4, (c4 20 0 5 (by decide)).trans H5⟩, Or.inr ⟨rfl, t12, e', a1⟩⟩
  · refine hK _ _ _ _ (hK _ _ _ _ (hK _ _ _ _ (hK _ _ _ _ ⟨_, t_clear, rfl, fun v23 M23 g23 => ?_⟩)))
    obtain ⟨rfl, rfl⟩ := g23
    refine hK _ _ _ _ (hK _ _ _ _ ⟨fun q => absurd rfl q, fun _ => ?_⟩)
    refine hK _ _ _ _ ⟨Nat.ble_eq_true_of_le (show 6 ≤ d + 10 by omega), ?_⟩
    exact ⟨⟨f4, x_pe, cG_fr (cB_G a2) (fun q j h1 h2 => c4 q 1 j (by omega)), cB_fr B3 (fun q j h1 h2 _ => c4 q 0 j (by omega)), (c4 4 0 4 (by decide)).trans T3, (c4 20 0 4 (by decide)).trans H4, (c4 20 0 5 (by decide)).trans H5⟩, Or.inl ⟨rfl, a1⟩⟩
theorem t_part_sk {r : Nat → Int32} {n p : Nat} {e : xB} (pn : p ≤ n) : t_part r n e (t_sk r n p) = t_part r n e p := by
  have h : t_sk r n (t_sk r n p) = t_sk r n p := t_go_id pn
  unfold t_part t_wd
  rw [h]
def PM : xF := fun k _ j => (Nat.beq k 36 && (Nat.beq j 0 || (Nat.ble 6 j && Nat.ble j 10))) || ((Nat.beq k 37 && Nat.blt j 50) || Nat.beq k 39)
theorem PM_37 {i j : Nat} (h : j < 50) : PM 37 i j = true := by
  show ((Nat.beq 37 36 && _) || ((Nat.beq 37 37 && Nat.blt j 50) || Nat.beq 37 39)) = true
  rw [x_blt h]
  rfl
theorem PM_39 {i j : Nat} : PM 39 i j = true := by
  show (_ || (_ || Nat.beq 39 39)) = true
  rw [Nat.beq_refl, Bool.or_true, Bool.or_true]
theorem P36_M {A B : aM} (h : fr P36 A B) : fr PM A B := fr_i h (fun k i j z => by
  have z : (Nat.beq k 36 && (Nat.beq j 8 || (Nat.beq j 9 || Nat.beq j 10))) = true := z
  rw [Bool.and_eq_true, Bool.or_eq_true, Bool.or_eq_true] at z
  rw [Nat.eq_of_beq_eq_true z.1]
  rcases z.2 with q | q | q <;> rw [Nat.eq_of_beq_eq_true q] <;> rfl)
theorem PLx_M {A B : aM} (h : fr PLx A B) : fr PM A B := fr_i h (fun k i j z => by
  have z : ((Nat.beq k 36 && (Nat.beq j 8 || (Nat.beq j 9 || Nat.beq j 10))) || (Nat.beq k 37 && ((Nat.ble 1 j && Nat.ble j 6) || (Nat.ble 10 j && Nat.ble j 43)))) = true := z
  rw [Bool.or_eq_true] at z
  rcases z with z | z
  · rw [Bool.and_eq_true, Bool.or_eq_true, Bool.or_eq_true] at z
    rw [Nat.eq_of_beq_eq_true z.1]
    rcases z.2 with q | q | q <;> rw [Nat.eq_of_beq_eq_true q] <;> rfl
  · rw [Bool.and_eq_true, Bool.or_eq_true, Bool.and_eq_true, Bool.and_eq_true] at z
    rw [Nat.eq_of_beq_eq_true z.1]
    refine PM_37 ?_
    rcases z.2 with q | q
    · have := Nat.le_of_ble_eq_true q.2
      omega
    · have := Nat.le_of_ble_eq_true q.2
      omega)
theorem r_begins {nS d : Nat} {M : aM} : aC nS (d + 1) 210 [vR 36 0] M (fun v M' => v = none ∧ fr PM M M' ∧ M'.1 36 0 9 = -1 ∧ M'.1 36 0 7 = M.1 36 0 6 ∧ M'.1 36 0 6 = 0 ∧ M'.1 36 0 8 = 0 ∧ ∀ k j, ¬ k = 36 → M'.1 k 0 j = M.1 k 0 j) (fun _ _ => False) := by
  refine aC_mk rfl rfl ?_
  intro K hK _
  exact hK _ _ _ _ (hK _ _ _ _ (hK _ _ _ _ (hK _ _ _ _ (hK _ _ _ _ (hK _ _ _ _ (hK _ _ _ _ (hK _ _ _ _ (hK _ _ _ _ (hK _ _ _ _ (hK _ _ _ _ (hK _ _ _ _ (hK _ _ _ _ (hK _ _ _ _ ⟨rfl, fr_p (fr_p (fr_p (fr_p fr_r rfl) rfl) rfl) rfl, (x_pn (by decide)).trans ((x_pn (by decide)).trans ((x_pn (by decide)).trans x_pe)), (x_pn (by decide)).trans ((x_pn (by decide)).trans (x_pe.trans (x_pn (by decide)))), (x_pn (by decide)).trans x_pe, x_pe, fun k j h => (x_pn (fun z => h z.1)).trans ((x_pn (fun z => h z.1)).trans ((x_pn (fun z => h z.1)).trans (x_pn (fun z => h z.1))))⟩)))))))))))))
theorem P8_no {q i j : Nat} (h : ¬ (q = 36 ∧ j = 8)) : P8 q i j = false := by
  show (Nat.beq q 36 && Nat.beq j 8) = false
  by_cases z : q = 36
  · rw [x_nbq (show ¬ j = 8 from fun z2 => h ⟨z, z2⟩), Bool.and_false]
  · rw [x_nbq z, Bool.false_and]
theorem P36_no {q j i : Nat} (h : ¬ (q = 36 ∧ (j = 8 ∨ j = 9 ∨ j = 10))) : P36 q i j = false := by
  show (Nat.beq q 36 && (Nat.beq j 8 || (Nat.beq j 9 || Nat.beq j 10))) = false
  by_cases z : q = 36
  · rw [x_nbq (show ¬ j = 8 from fun z2 => h ⟨z, Or.inl z2⟩), x_nbq (show ¬ j = 9 from fun z2 => h ⟨z, Or.inr (Or.inl z2)⟩), x_nbq (show ¬ j = 10 from fun z2 => h ⟨z, Or.inr (Or.inr z2)⟩), Bool.or_self, Bool.or_self, Bool.and_false]
  · rw [x_nbq z, Bool.false_and]
theorem r_board {nS d n : Nat} {M : aM} {e : xB} (hn : M.1 36 0 6 = Int32.ofNat n) (h4 : n ≤ 400) (hB : rBL 37 M e) : aC nS (d + 10) 211 [vR 36 0] M (fun v M' => fr PM M M' ∧ M'.1 36 0 6 = 0 ∧ ((t_read (M.1 40 0) n e = none ∧ M'.1 36 0 0 = 1 ∧ (∀ u, u < 50 → M'.1 37 0 u = M.1 37 0 u) ∧ v = some (vI 0)) ∨ ((∃ e', t_read (M.1 40 0) n e = some e') ∧ M.1 37 0 0 = 12 ∧ M'.1 36 0 0 = 2 ∧ (∀ u, u < 50 → M'.1 37 0 u = M.1 37 0 u) ∧ v = some (vI 0)) ∨ (∃ e', t_read (M.1 40 0) n e = some e' ∧ M.1 37 0 0 ≠ 12 ∧ M'.1 36 0 0 = 0 ∧ rBL 37 M' e' ∧ M'.1 37 0 0 = M.1 37 0 0 + 1 ∧ M'.1 37 0 7 = 0 ∧ M'.1 37 0 8 = 0 ∧ v = some (vI (M.1 37 0 0 + 1))))) (fun _ _ => False) := by
  refine aC_mk rfl rfl ?_
  intro K hK _
  -- what was there is put back
  have rs : ∀ (x : Int32), ((t_read (M.1 40 0) n e = none ∧ x = 1) ∨ ((∃ e', t_read (M.1 40 0) n e = some e') ∧ M.1 37 0 0 = 12 ∧ x = 2)) → ∀ (m j : Nat) (M1 : aM) (x1 x2 : Int32), j + m = 50 → fr PM M M1 → M1.1 36 0 0 = x → M1.1 36 0 6 = 0 → (∀ u, u < 50 → M1.1 39 0 u = M.1 37 0 u) → (∀ u, u < j → M1.1 37 0 u = M.1 37 0 u) → K 195 [some (vR 36 0), some (vI x1), some (vI x2), some (vI (Int32.ofNat j))] [] M1 := by
    intro x hx m
    induction m with
    | zero =>
      intro j M1 x1 x2 hj hf h0 h6 hb hu
      refine hK _ _ _ _ (hK _ _ _ _ (hK _ _ _ _ ⟨fun h => ?_, fun h => ?_⟩))
      · exact hK _ _ _ _ (hK _ _ _ _ ⟨hf, h6, by
          rcases hx with ⟨t1, rfl⟩ | ⟨t1, t2, rfl⟩
          · exact Or.inl ⟨t1, h0, fun u hu2 => hu u (by omega), rfl⟩
          · exact Or.inr (Or.inl ⟨t1, t2, h0, fun u hu2 => hu u (by omega), rfl⟩)⟩)
      · exact absurd (x_nge (x := j) (y := 50) rfl rfl (by omega) (by decide) h) (by omega)
    | succ m ih =>
      intro j M1 x1 x2 hj hf h0 h6 hb hu
      refine hK _ _ _ _ (hK _ _ _ _ (hK _ _ _ _ ⟨fun h => ?_, fun h => ?_⟩))
      · exact absurd (x_ge (x := j) (y := 50) rfl rfl (by omega) (by decide) h) (by omega)
      · refine hK _ _ _ _ (hK _ _ _ _ (hK _ _ _ _ (hK _ _ _ _ (hK _ _ _ _ (hK _ _ _ _ (hK _ _ _ _ ⟨x_vp rfl (show j < 50 by omega) (by decide), ?_⟩))))))
        rw [x_cl rfl (by omega), hb j (by omega)]
        refine hK _ _ _ _ ⟨x_vp rfl (show j < 1010 by omega) (by decide), ?_⟩
        rw [x_cl rfl (by omega)]
        refine hK _ _ _ _ (hK _ _ _ _ ?_)
        rw [hI_s]
        refine ih (j + 1) _ _ _ (by omega) (fr_p hf (PM_37 (by omega))) ((x_pn (fun z => absurd z.1 (by decide))).trans h0) ((x_pn (fun z => absurd z.1 (by decide))).trans h6) (fun u hu2 => (x_pn (fun z => absurd z.1 (by decide))).trans (hb u hu2)) (fun u hu2 => ?_)
        by_cases he : u = j
        · rw [he]
          exact x_pe
        · rw [x_pn (fun z => he z.2.2)]
          exact hu u (by omega)
  -- behind the last line
  have tail : ∀ (M1 : aM) (x1 x2 : Int32), fr PM M M1 → M1.1 36 0 6 = 0 → (∀ u, u < 50 → M1.1 39 0 u = M.1 37 0 u) → M1.1 37 0 0 = M.1 37 0 0 → ((¬ M1.1 36 0 9 = -1 ∧ t_read (M.1 40 0) n e = none) ∨ (M1.1 36 0 9 = -1 ∧ ∃ e', t_read (M.1 40 0) n e = some e' ∧ rBL 37 M1 e')) → K 154 [some (vR 36 0), some (vI x1), some (vI x2), none] [] M1 := by
    intro M1 x1 x2 hf h6 hb h00 hc
    have bad : ∀ y : Int32, (y = 1 ∨ y = 2) → ((t_read (M.1 40 0) n e = none ∧ y = 1) ∨ ((∃ e', t_read (M.1 40 0) n e = some e') ∧ M.1 37 0 0 = 12 ∧ y = 2)) → K 183 [some (vR 36 0), some (vI x1), some (vI x2), none] [vI y, vR 36 0] M1 := by
      intro y hy1 hy
      refine hK _ _ _ _ (hK _ _ _ _ (hK _ _ _ _ (hK _ _ _ _ ⟨fun q => ?_, fun _ => ?_⟩)))
      · exfalso
        rw [x_pe] at q
        rcases hy1 with rfl | rfl
        · exact absurd q (by decide)
        · exact absurd q (by decide)
      refine hK _ _ _ _ (hK _ _ _ _ ?_)
      exact rs y hy 50 0 _ _ _ rfl (fr_p hf rfl) x_pe ((x_pn (by decide)).trans h6) (fun u hu => (x_pn (fun z => absurd z.1 (by decide))).trans (hb u hu)) (fun u hu => absurd hu (Nat.not_lt_zero _))
    rcases hc with ⟨h9, ht⟩ | ⟨h9, e', ht, hB'⟩
    · refine hK _ _ _ _ (hK _ _ _ _ (hK _ _ _ _ (hK _ _ _ _ (hK _ _ _ _ ⟨fun q => absurd q h9, fun _ => ?_⟩))))
      refine hK _ _ _ _ (hK _ _ _ _ ?_)
      exact bad 1 (Or.inl rfl) (Or.inl ⟨ht, rfl⟩)
    · refine hK _ _ _ _ (hK _ _ _ _ (hK _ _ _ _ (hK _ _ _ _ (hK _ _ _ _ ⟨fun _ => ?_, fun q => absurd h9 q⟩))))
      refine hK _ _ _ _ (hK _ _ _ _ (hK _ _ _ _ (hK _ _ _ _ ⟨x_vp (a := 0) rfl (by decide) (by decide), ?_⟩)))
      rw [x_cl (j := 0) (a := 0) rfl (by decide), h00]
      refine hK _ _ _ _ (hK _ _ _ _ ⟨fun q => ?_, fun q => ?_⟩)
      · refine hK _ _ _ _ ?_
        refine hK _ _ _ _ (hK _ _ _ _ (hK _ _ _ _ (hK _ _ _ _ ⟨fun _ => ?_, fun q2 => ?_⟩)))
        · refine hK _ _ _ _ (hK _ _ _ _ (hK _ _ _ _ (hK _ _ _ _ (hK _ _ _ _ ⟨x_vp (a := 0) rfl (by decide) (by decide), ?_⟩))))
          rw [x_cl (j := 0) (a := 0) rfl (by decide)]
          refine hK _ _ _ _ (hK _ _ _ _ (hK _ _ _ _ ⟨x_vp (a := 0) rfl (by decide) (by decide), ?_⟩))
          rw [x_cl (j := 0) (a := 0) rfl (by decide)]
          refine hK _ _ _ _ (hK _ _ _ _ (hK _ _ _ _ (hK _ _ _ _ (hK _ _ _ _ ⟨x_vp (a := 7) rfl (by decide) (by decide), ?_⟩))))
          rw [x_cl (j := 7) (a := 7) rfl (by decide)]
          refine hK _ _ _ _ (hK _ _ _ _ (hK _ _ _ _ (hK _ _ _ _ (hK _ _ _ _ ⟨x_vp (a := 8) rfl (by decide) (by decide), ?_⟩))))
          rw [x_cl (j := 8) (a := 8) rfl (by decide)]
          refine hK _ _ _ _ (hK _ _ _ _ (hK _ _ _ _ (hK _ _ _ _ ⟨x_vp (a := 0) rfl (by decide) (by decide), ?_⟩)))
          rw [x_cl (j := 0) (a := 0) rfl (by decide)]
          rw [x_pn (M := M1) (by decide), h00]
          have c9 : ∀ q j, ¬ (q = 37 ∧ (j = 0 ∨ j = 7 ∨ j = 8)) → ¬ (q = 36 ∧ j = 0) → (a_pI (a_pI (a_pI (a_pI M1 36 0 0 0) 37 0 0 (M.1 37 0 0 + 1)) 37 0 7 0) 37 0 8 0).1 q 0 j = M1.1 q 0 j := fun q j z1 z2 => (x_pn (fun z => z1 ⟨z.1, Or.inr (Or.inr z.2.2)⟩)).trans ((x_pn (fun z => z1 ⟨z.1, Or.inr (Or.inl z.2.2)⟩)).trans ((x_pn (fun z => z1 ⟨z.1, Or.inl z.2.2⟩)).trans (x_pn (fun z => z2 ⟨z.1, z.2.2⟩))))
          have e00 : (a_pI (a_pI (a_pI (a_pI M1 36 0 0 0) 37 0 0 (M.1 37 0 0 + 1)) 37 0 7 0) 37 0 8 0).1 37 0 0 = M.1 37 0 0 + 1 := (x_pn (by decide)).trans ((x_pn (by decide)).trans x_pe)
          refine hK _ _ _ _ ⟨fr_p (fr_p (fr_p (fr_p hf rfl) rfl) rfl) rfl, (c9 36 6 (by decide) (by decide)).trans h6, Or.inr (Or.inr ⟨e', ht, q, (x_pn (by decide)).trans ((x_pn (by decide)).trans ((x_pn (by decide)).trans x_pe)), rBL_fr hB' (fun j j1 j2 j3 j4 => c9 37 j (by omega) (by omega)), e00, (x_pn (by decide)).trans x_pe, x_pe, by rw [e00]⟩)⟩
        · exact absurd q2 (by rw [x_pe]; decide)
      · refine hK _ _ _ _ (hK _ _ _ _ ?_)
        exact bad 2 (Or.inr rfl) (Or.inr ⟨⟨e', ht⟩, q, rfl⟩)
  have stop : ∀ (M1 : aM) (x2 : Int32), fr PM M M1 → M1.1 36 0 6 = 0 → (∀ u, u < 50 → M1.1 39 0 u = M.1 37 0 u) → M1.1 37 0 0 = M.1 37 0 0 → ((¬ M1.1 36 0 9 = -1 ∧ t_read (M.1 40 0) n e = none) ∨ (M1.1 36 0 9 = -1 ∧ ∃ e', t_read (M.1 40 0) n e = some e' ∧ rBL 37 M1 e')) → K 53 [some (vR 36 0), some (vI 0), some (vI x2), none] [] M1 := by
    intro M1 x2 hf h6 hb h00 hc
    refine hK _ _ _ _ (hK _ _ _ _ ⟨fun _ => ?_, fun q => absurd rfl q⟩)
    exact tail M1 _ _ hf h6 hb h00 hc
  -- the lines
  have lp : ∀ (m u p : Nat) (e1 : xB) (M1 : aM), u + m = 12 → fr PM M M1 → M1.1 36 0 6 = 0 → (∀ u, u < 50 → M1.1 39 0 u = M.1 37 0 u) → M1.1 37 0 0 = M.1 37 0 0 → MS M1 n p e1 → t_read (M.1 40 0) n e = t_text (M.1 40 0) n m e1 p → K 53 [some (vR 36 0), some (vI 1), some (vI (Int32.ofNat u)), none] [] M1 := by
    intro m
    induction m with
    | zero =>
      intro u p e1 M1 hu hf h6 hb h00 hS he
      obtain ⟨s9, s7, s4, s8, sp, sB⟩ := hS
      have er : M1.1 40 0 = M.1 40 0 := by
        funext j
        exact hf.1 40 0 j rfl
      refine hK _ _ _ _ (hK _ _ _ _ ⟨fun q => absurd q (by decide), fun _ => ?_⟩)
      refine hK _ _ _ _ (hK _ _ _ _ (hK _ _ _ _ (hK _ _ _ _ ⟨fun q => absurd s9 q, fun _ => ?_⟩)))
      refine hK _ _ _ _ (hK _ _ _ _ ⟨_, t_skip s7 h4 s8 (Nat.le_trans sp h4), rfl, fun v66 M66 g66 => ?_⟩)
      obtain ⟨rfl, f2, a2⟩ := g66
      have c2 : ∀ q j, ¬ (q = 36 ∧ j = 8) → M66.1 q 0 j = M1.1 q 0 j := fun q j z => f2.1 q 0 j (P8_no z)
      refine hK _ _ _ _ (hK _ _ _ _ (hK _ _ _ _ ⟨fun q => ?_, fun _ => ?_⟩))
      · exact absurd (show Int32.ofNat u = 12 by rw [show u = 12 by omega]; rfl) q
      refine hK _ _ _ _ (hK _ _ _ _ (hK _ _ _ _ (hK _ _ _ _ ⟨_, t_wrong ((f2.1 36 0 9 rfl).trans s9), rfl, fun v80 M80 g80 => ?_⟩)))
      obtain ⟨rfl, f3, a3, w3⟩ := g80
      have w3' : ¬ M80.1 36 0 9 = -1 := by
        rw [w3, a2]
        exact x_m1 (by have : t_sk (M1.1 40 0) n p ≤ n := t_go_le sp; omega)
      have f4 := fr_t hf (fr_t (P36_M (P8_w f2)) (P36_M f3))
      have s7' : M80.1 36 0 7 = Int32.ofNat n := (f3.1 36 0 7 rfl).trans ((f2.1 36 0 7 rfl).trans s7)
      have p80 : t_sk (M1.1 40 0) n p ≤ n := t_go_le sp
      refine hK _ _ _ _ (hK _ _ _ _ (hK _ _ _ _ (hK _ _ _ _ ⟨_, t_skip (p := t_sk (M1.1 40 0) n p) s7' h4 (a3.trans a2) (Nat.le_trans p80 h4), rfl, fun v94 M94 g94 => ?_⟩)))
      obtain ⟨rfl, f5, a5⟩ := g94
      have c5 : ∀ q j, ¬ (q = 36 ∧ (j = 8 ∨ j = 9 ∨ j = 10)) → M94.1 q 0 j = M66.1 q 0 j := fun q j z => ((P8_w f5).1 q 0 j (P36_no z)).trans (f3.1 q 0 j (P36_no z))
      have w5 : ¬ M94.1 36 0 9 = -1 := by
        rw [f5.1 36 0 9 rfl]
        exact w3'
      refine hK _ _ _ _ (hK _ _ _ _ (hK _ _ _ _ (hK _ _ _ _ ⟨fun _ => ?_, fun q => absurd q w5⟩)))
      refine hK _ _ _ _ (hK _ _ _ _ (hK _ _ _ _ ?_))
      exact stop M94 _ (fr_t f4 (P36_M (P8_w f5))) ((c5 36 6 (by decide)).trans ((c2 36 6 (by decide)).trans h6)) (fun v hv => (c5 39 v (by omega)).trans ((c2 39 v (by omega)).trans (hb v hv))) ((c5 37 0 (by decide)).trans ((c2 37 0 (by decide)).trans h00)) (Or.inl ⟨w5, he⟩)
    | succ m ih =>
      intro u p e1 M1 hu hf h6 hb h00 hS he
      obtain ⟨s9, s7, s4, s8, sp, sB⟩ := hS
      have er : M1.1 40 0 = M.1 40 0 := by
        funext j
        exact hf.1 40 0 j rfl
      refine hK _ _ _ _ (hK _ _ _ _ ⟨fun q => absurd q (by decide), fun _ => ?_⟩)
      refine hK _ _ _ _ (hK _ _ _ _ (hK _ _ _ _ (hK _ _ _ _ ⟨fun q => absurd s9 q, fun _ => ?_⟩)))
      refine hK _ _ _ _ (hK _ _ _ _ ⟨_, t_skip s7 h4 s8 (Nat.le_trans sp h4), rfl, fun v66 M66 g66 => ?_⟩)
      obtain ⟨rfl, f2, a2⟩ := g66
      rw [er] at a2
      have c2 : ∀ q j, ¬ (q = 36 ∧ j = 8) → M66.1 q 0 j = M1.1 q 0 j := fun q j z => f2.1 q 0 j (P8_no z)
      have p2 : t_sk (M.1 40 0) n p ≤ n := t_go_le sp
      refine hK _ _ _ _ (hK _ _ _ _ (hK _ _ _ _ ⟨fun q => ?_, fun q => ?_⟩))
      · refine hK _ _ _ _ (hK _ _ _ _ ⟨_, r_boardLine ⟨(f2.1 36 0 9 rfl).trans s9, (f2.1 36 0 7 rfl).trans s7, h4, a2, p2, rBL_fr sB (fun j _ _ _ _ => c2 37 j (by omega))⟩, rfl, fun v87 M87 g87 => ?_⟩)
        obtain ⟨rfl, f3, hr⟩ := g87
        have er2 : M66.1 40 0 = M.1 40 0 := by
          funext j
          exact (c2 40 j (by omega)).trans (congrFun er j)
        rw [er2, t_part_sk sp] at hr
        have f4 := fr_t hf (fr_t (P36_M (P8_w f2)) (PLx_M f3))
        have er3 : M87.1 40 0 = M.1 40 0 := by
          funext j
          exact f4.1 40 0 j rfl
        have s7' : M87.1 36 0 7 = Int32.ofNat n := (f3.1 36 0 7 rfl).trans ((f2.1 36 0 7 rfl).trans s7)
        have h6' : M87.1 36 0 6 = 0 := (f3.1 36 0 6 rfl).trans ((f2.1 36 0 6 rfl).trans h6)
        have hb' : ∀ v, v < 50 → M87.1 39 0 v = M.1 37 0 v := fun v hv => (f3.1 39 0 v rfl).trans ((f2.1 39 0 v rfl).trans (hb v hv))
        have h00' : M87.1 37 0 0 = M.1 37 0 0 := (f3.1 37 0 0 rfl).trans ((f2.1 37 0 0 rfl).trans h00)
        obtain ⟨q9, hq9, ha9⟩ : ∃ q9, q9 ≤ n ∧ M87.1 36 0 8 = Int32.ofNat q9 := by
          rcases hr with ⟨e2, q, r1, r2, r3, r4, r5⟩ | ⟨r1, r2, q, r3, r4⟩
          · exact ⟨q, r2, r4⟩
          · exact ⟨q, r3, r4⟩
        refine hK _ _ _ _ (hK _ _ _ _ ?_)
        rw [hI_s]
        refine hK _ _ _ _ ⟨_, t_skip s7' h4 ha9 (Nat.le_trans hq9 h4), rfl, fun v94 M94 g94 => ?_⟩
        obtain ⟨rfl, f5, a5⟩ := g94
        rw [er3] at a5
        have c5 : ∀ q j, ¬ (q = 36 ∧ j = 8) → M94.1 q 0 j = M87.1 q 0 j := fun q j z => f5.1 q 0 j (P8_no z)
        have f6 := fr_t f4 (P36_M (P8_w f5))
        have h6b : M94.1 36 0 6 = 0 := (c5 36 6 (by decide)).trans h6'
        have hbb : ∀ v, v < 50 → M94.1 39 0 v = M.1 37 0 v := fun v hv => (c5 39 v (by omega)).trans (hb' v hv)
        have h0b : M94.1 37 0 0 = M.1 37 0 0 := (c5 37 0 (by decide)).trans h00'
        rcases hr with ⟨e2, q, r1, r2, r3, r4, r5⟩ | ⟨r1, r2, q, r3, r4⟩
        · have e9 : q9 = q := x_inj (by omega) (by omega) (ha9.symm.trans r4)
          subst e9
          have he2 : t_read (M.1 40 0) n e = if t_semi (M.1 40 0) n q9 = true then t_text (M.1 40 0) n m e2 (t_sk (M.1 40 0) n q9 + 1) else if t_sk (M.1 40 0) n q9 < n then none else some e2 := by
            rw [he]
            show (match t_part (M.1 40 0) n e1 p with
              | none => none
              | some (e', q) => if t_semi (M.1 40 0) n q = true then t_text (M.1 40 0) n m e' (t_sk (M.1 40 0) n q + 1) else if t_sk (M.1 40 0) n q < n then none else some e') = _
            rw [r1]
          have w5 : M94.1 36 0 9 = -1 := (c5 36 9 (by decide)).trans r5
          have B5 : rBL 37 M94 e2 := rBL_fr r3 (fun j _ _ _ _ => c5 37 j (by omega))
          have s5 : M94.1 36 0 7 = Int32.ofNat n := (c5 36 7 (by decide)).trans s7'
          have p5 : t_sk (M.1 40 0) n q9 ≤ n := t_go_le r2
          have p6 : t_sk (M.1 40 0) n (t_sk (M.1 40 0) n q9) = t_sk (M.1 40 0) n q9 := t_go_id r2
          refine hK _ _ _ _ (hK _ _ _ _ (hK _ _ _ _ (hK _ _ _ _ ⟨fun q => absurd w5 q, fun q => ?_⟩)))
          · refine hK _ _ _ _ (hK _ _ _ _ (hK _ _ _ _ (hK _ _ _ _ (hK _ _ _ _ ⟨fun q => ?_, fun q => ?_⟩))))
            · have lt : t_sk (M.1 40 0) n q9 < n := by
                have : ¬ t_sk (M.1 40 0) n q9 = n := fun z => q (by rw [a5, s5, z])
                omega
              have er4 : M94.1 40 0 = M.1 40 0 := by
                funext j
                exact f6.1 40 0 j rfl
              refine hK _ _ _ _ (hK _ _ _ _ (hK _ _ _ _ ⟨_, t_isSign s5 h4 a5 p5, rfl, fun v124 M124 g124 => ?_⟩))
              obtain ⟨f7, a7, rfl⟩ := g124
              rw [er4, p6] at a7
              rw [er4, p6]
              have c7 : ∀ q j, ¬ (q = 36 ∧ j = 8) → M124.1 q 0 j = M94.1 q 0 j := fun q j z => f7.1 q 0 j (P8_no z)
              have f8 := fr_t f6 (P36_M (P8_w f7))
              by_cases hs : M.1 40 0 (t_sk (M.1 40 0) n q9) = 59
              · rw [if_pos ⟨lt, hs⟩]
                have hse : t_semi (M.1 40 0) n q9 = true := by
                  unfold t_semi
                  rw [x_blt lt, decide_eq_true hs]
                  rfl
                rw [if_pos hse] at he2
                refine hK _ _ _ _ ⟨fun q => absurd q (by decide), fun _ => ?_⟩
                refine hK _ _ _ _ (hK _ _ _ _ (hK _ _ _ _ (hK _ _ _ _ (hK _ _ _ _ (hK _ _ _ _ (hK _ _ _ _ ?_))))))
                refine ih (u + 1) _ e2 _ (by omega) (fr_p f8 rfl) ((x_pn (by decide)).trans ((c7 36 6 (by decide)).trans h6b)) (fun v hv => (x_pn (fun z => absurd z.1 (by decide))).trans ((c7 39 v (by omega)).trans (hbb v hv))) ((x_pn (by decide)).trans ((c7 37 0 (by decide)).trans h0b)) ⟨(x_pn (by decide)).trans ((c7 36 9 (by decide)).trans w5), (x_pn (by decide)).trans ((c7 36 7 (by decide)).trans s5), h4, x_pe.trans (x_s a7), lt, rBL_fr B5 (fun j _ _ _ _ => (x_pn (fun z => absurd z.1 (by decide))).trans (c7 37 j (by omega)))⟩ he2
              · rw [if_neg (fun z => hs z.2)]
                have hse : ¬ t_semi (M.1 40 0) n q9 = true := by
                  unfold t_semi
                  rw [decide_eq_false hs, Bool.and_false]
                  decide
                rw [if_neg hse, if_pos lt] at he2
                refine hK _ _ _ _ ⟨fun _ => ?_, fun q => absurd rfl q⟩
                refine hK _ _ _ _ (hK _ _ _ _ (hK _ _ _ _ (hK _ _ _ _ ⟨_, t_wrong ((c7 36 9 (by decide)).trans w5), rfl, fun v148 M148 g148 => ?_⟩)))
                obtain ⟨rfl, f9, a9, w9⟩ := g148
                rw [a7] at w9
                have w9' : ¬ M148.1 36 0 9 = -1 := by
                  rw [w9]
                  exact x_m1 (by omega)
                refine hK _ _ _ _ ?_
                refine hK _ _ _ _ (hK _ _ _ _ ⟨fun q => absurd q (by decide), fun _ => ?_⟩)
                refine hK _ _ _ _ (hK _ _ _ _ (hK _ _ _ _ (hK _ _ _ _ ⟨fun _ => ?_, fun q => absurd q w9'⟩)))
                exact tail M148 _ _ (fr_t f8 (P36_M f9)) ((f9.1 36 0 6 rfl).trans ((c7 36 6 (by decide)).trans h6b)) (fun v hv => (f9.1 39 0 v rfl).trans ((c7 39 v (by omega)).trans (hbb v hv))) ((f9.1 37 0 0 rfl).trans ((c7 37 0 (by decide)).trans h0b)) (Or.inl ⟨w9', he2⟩)
            · have eq : t_sk (M.1 40 0) n q9 = n := x_eq a5 s5 (by omega) (by omega) q
              have hse : ¬ t_semi (M.1 40 0) n q9 = true := by
                unfold t_semi
                rw [x_nblt (show ¬ t_sk (M.1 40 0) n q9 < n by omega), Bool.false_and]
                decide
              rw [if_neg hse, if_neg (show ¬ t_sk (M.1 40 0) n q9 < n by omega)] at he2
              refine hK _ _ _ _ (hK _ _ _ _ (hK _ _ _ _ ?_))
              exact stop M94 _ f6 h6b hbb h0b (Or.inr ⟨w5, e2, he2, B5⟩)
        · have w5 : ¬ M94.1 36 0 9 = -1 := by
            rw [c5 36 9 (by decide)]
            exact r2
          have he2 : t_read (M.1 40 0) n e = none := by
            rw [he]
            show (match t_part (M.1 40 0) n e1 p with
              | none => none
              | some (e', q) => if t_semi (M.1 40 0) n q = true then t_text (M.1 40 0) n m e' (t_sk (M.1 40 0) n q + 1) else if t_sk (M.1 40 0) n q < n then none else some e') = _
            rw [r1]
          refine hK _ _ _ _ (hK _ _ _ _ (hK _ _ _ _ (hK _ _ _ _ ⟨fun _ => ?_, fun q5 => absurd q5 w5⟩)))
          refine hK _ _ _ _ (hK _ _ _ _ (hK _ _ _ _ ?_))
          exact stop M94 _ f6 h6b hbb h0b (Or.inl ⟨w5, he2⟩)
      · exact absurd (x_eq (x := u) (y := 12) rfl rfl (by omega) (by decide) q) (by omega)
  -- what is there is kept
  have cp : ∀ (m j : Nat) (M1 : aM), j + m = 50 → fr (fun k _ _ => Nat.beq k 39) M M1 → (∀ u, u < j → M1.1 39 0 u = M.1 37 0 u) → K 2 [some (vR 36 0), some (vI (Int32.ofNat j)), none, none] [] M1 := by
    intro m
    induction m with
    | zero =>
      intro j M1 hj hf hb
      refine hK _ _ _ _ (hK _ _ _ _ (hK _ _ _ _ ⟨fun q => ?_, fun q => ?_⟩))
      · refine hK _ _ _ _ (hK _ _ _ _ ⟨_, r_begins, rfl, fun v27 M27 g27 => ?_⟩)
        obtain ⟨rfl, f2, b9, b7, b6, b8, bo⟩ := g27
        have f3 : fr PM M M27 := fr_t (fr_i hf (fun k i j z => by rw [Nat.eq_of_beq_eq_true (show Nat.beq k 39 = true from z)]; exact PM_39)) f2
        have n2 : M27.1 36 0 7 = Int32.ofNat n := b7.trans ((hf.1 36 0 6 rfl).trans hn)
        refine hK _ _ _ _ (hK _ _ _ _ ⟨_, t_skip (p := 0) n2 h4 b8 (Nat.zero_le _), rfl, fun v31 M31 g31 => ?_⟩)
        obtain ⟨rfl, f4, a4⟩ := g31
        have er : M27.1 40 0 = M.1 40 0 := by
          funext j
          exact f3.1 40 0 j rfl
        rw [er] at a4
        have f5 := fr_t f3 (P36_M (P8_w f4))
        have n5 : M31.1 36 0 7 = Int32.ofNat n := (f4.1 36 0 7 rfl).trans n2
        have h65 : M31.1 36 0 6 = 0 := (f4.1 36 0 6 rfl).trans b6
        have w5 : M31.1 36 0 9 = -1 := (f4.1 36 0 9 rfl).trans b9
        have bo5 : ∀ q j, ¬ q = 36 → M31.1 q 0 j = M1.1 q 0 j := fun q j h => (f4.1 q 0 j (by show (Nat.beq q 36 && _) = false; rw [x_nbq h, Bool.false_and])).trans (bo q j h)
        have hb5 : ∀ v, v < 50 → M31.1 39 0 v = M.1 37 0 v := fun v hv => (bo5 39 v (by decide)).trans (hb v (by omega))
        have h05 : ∀ v, M31.1 37 0 v = M.1 37 0 v := fun v => (bo5 37 v (by decide)).trans (hf.1 37 0 v rfl)
        have B5 : rBL 37 M31 e := rBL_fr hB (fun v _ _ _ _ => h05 v)
        have p5 : t_sk (M.1 40 0) n 0 ≤ n := t_go_le (Nat.zero_le _)
        refine hK _ _ _ _ (hK _ _ _ _ (hK _ _ _ _ (hK _ _ _ _ (hK _ _ _ _ ⟨fun q => ?_, fun q => ?_⟩))))
        · have lt : ¬ t_sk (M.1 40 0) n 0 < n := by
            have := x_ge a4 n5 (by omega) (by omega) q
            omega
          refine hK _ _ _ _ (hK _ _ _ _ (hK _ _ _ _ (hK _ _ _ _ ?_)))
          refine stop M31 _ f5 h65 hb5 (h05 0) (Or.inr ⟨w5, e, ?_, B5⟩)
          unfold t_read
          rw [if_neg lt]
        · have lt : t_sk (M.1 40 0) n 0 < n := x_nge a4 n5 (by omega) (by omega) q
          refine hK _ _ _ _ (hK _ _ _ _ (hK _ _ _ _ (hK _ _ _ _ (hK _ _ _ _ ?_))))
          refine lp 12 0 _ e M31 rfl f5 h65 hb5 (h05 0) ⟨w5, n5, h4, a4, p5, B5⟩ ?_
          unfold t_read
          rw [if_pos lt]
      · exact absurd (x_nge (x := j) (y := 50) rfl rfl (by omega) (by decide) q) (by omega)
    | succ m ih =>
      intro j M1 hj hf hb
      refine hK _ _ _ _ (hK _ _ _ _ (hK _ _ _ _ ⟨fun q => ?_, fun _ => ?_⟩))
      · exact absurd (x_ge (x := j) (y := 50) rfl rfl (by omega) (by decide) q) (by omega)
      refine hK _ _ _ _ (hK _ _ _ _ (hK _ _ _ _ (hK _ _ _ _ (hK _ _ _ _ (hK _ _ _ _ (hK _ _ _ _ ⟨x_vp rfl (show j < 1010 by omega) (by decide), ?_⟩))))))
      rw [x_cl rfl (by omega)]
      refine hK _ _ _ _ ⟨x_vp rfl (show j < 50 by omega) (by decide), ?_⟩
      rw [x_cl rfl (by omega)]
      refine hK _ _ _ _ (hK _ _ _ _ ?_)
      rw [hI_s]
      refine ih (j + 1) _ (by omega) (fr_p hf rfl) (fun u hu => ?_)
      by_cases he : u = j
      · rw [he]
        exact x_pe.trans (hf.1 37 0 j rfl)
      · rw [x_pn (fun z => he z.2.2)]
        exact hb u (by omega)
  refine hK _ _ _ _ (hK _ _ _ _ ?_)
  exact cp 50 0 M rfl fr_r (fun u hu => absurd hu (Nat.not_lt_zero _))
