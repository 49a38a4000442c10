/-- what an image writes, of the class -/
def PI2 : xF := fun k i j => PB 2 k i j || (Nat.beq k 0 && Nat.beq j 5)
def PK0 : xF := fun k i j => PB 0 k i j || (Nat.beq k 20 && (Nat.beq j 4 || Nat.beq j 5))
theorem P_or {P Q : xF} {A B : aM} (h : fr P A B) : fr (fun k i j => P k i j || Q k i j) A B := fr_i h (fun k i j z => by
  show (P k i j || Q k i j) = true
  rw [z]
  rfl)
theorem c_imageX {nS : Nat} {M : aM} {e : xB} (hB : cB 0 M e) (hG : cG 2 M) : aC nS 60 175 [vR 0 0] M (fun v M' => v = none ∧ fr PI2 M M' ∧ M'.1 0 0 5 = 1 ∧ cB 2 M' e ∧ M'.1 4 2 4 = M.1 4 0 4) (fun _ _ => False) := by
  obtain ⟨k0, o0, hF⟩ := hG
  refine aC_mk rfl rfl ?_
  intro K hK _
  refine hK _ _ _ _ (hK _ _ _ _ (hK _ _ _ _ (hK _ _ _ _ (hK _ _ _ _ (⟨_, b_copyFrom (a := 0) (b := 2) (d := 55) (by decide) (by decide) (by decide) hF hB, rfl, fun v8 M8 g8 => ?_⟩)))))
  obtain ⟨rfl, f1, B1, T1⟩ := g8
  have c1 : ∀ q i j, ¬ q = 0 → (a_pI M8 0 0 5 1).1 q i j = M8.1 q i j := fun q i j hq => x_pn (fun z => hq z.1)
  refine hK _ _ _ _ (hK _ _ _ _ (hK _ _ _ _ (⟨Or.inr rfl, ?_⟩)))
  exact hK _ _ _ _ ⟨rfl, fr_p (P_or f1) rfl, x_pe, cB_fr B1 (fun q j h1 _ _ => c1 q 2 j (by omega)), (c1 4 2 4 (by decide)).trans T1⟩
theorem c_back0 {nS : Nat} {M : aM} (h : M.1 0 0 5 = 0) : aC nS 60 176 [vR 0 0] M (fun v M' => v = some (vI 0) ∧ M = M') (fun _ _ => False) := by
  refine aC_mk rfl rfl ?_
  intro K hK _
  refine hK _ _ _ _ (hK _ _ _ _ (hK _ _ _ _ (⟨fun q => ?_, fun q => ?_⟩)))
  · exact absurd h q
  · exact hK _ _ _ _ (hK _ _ _ _ (⟨Or.inl rfl, rfl, rfl⟩))
theorem c_back1 {nS : Nat} {M : aM} {e : xB} (h : M.1 0 0 5 = 1) (hG : cG 0 M) (hB : cB 2 M e) : aC nS 60 176 [vR 0 0] M (fun v M' => v = some (vI 1) ∧ fr PK0 M M' ∧ cB 0 M' e ∧ M'.1 4 0 4 = M.1 4 2 4 ∧ M'.1 20 0 4 = 0 ∧ M'.1 20 0 5 = 0) (fun _ _ => False) := by
  obtain ⟨k0, o0, hF⟩ := hG
  refine aC_mk rfl rfl ?_
  intro K hK _
  refine hK _ _ _ _ (hK _ _ _ _ (hK _ _ _ _ (⟨fun q => ?_, fun q => ?_⟩)))
  · refine hK _ _ _ _ (hK _ _ _ _ (hK _ _ _ _ (hK _ _ _ _ (hK _ _ _ _ (⟨_, b_copyFrom (a := 2) (b := 0) (d := 55) (by decide) (by decide) (by decide) hF hB, rfl, fun v17 M17 g17 => ?_⟩)))))
    obtain ⟨rfl, f1, B1, T1⟩ := g17
    refine hK _ _ _ _ (hK _ _ _ _ (hK _ _ _ _ (⟨_, b_forget, rfl, fun v24 M24 g24 => ?_⟩)))
    obtain ⟨rfl, rfl⟩ := g24
    have c9 : ∀ q i j, ¬ q = 20 → (a_pI (a_pI M17 20 0 4 0) 20 0 5 0).1 q i j = M17.1 q i j := fun q i j hq => (x_pn (fun z => hq z.1)).trans (x_pn (fun z => hq z.1))
    exact hK _ _ _ _ (hK _ _ _ _ (⟨Or.inr rfl, rfl, fr_p (fr_p (P_or f1) rfl) rfl, cB_fr B1 (fun q j h1 h2 _ => c9 q 0 j (by omega)), (c9 4 0 4 (by decide)).trans T1, (x_pn (by decide)).trans x_pe, x_pe⟩))
  · exact absurd (q.symm.trans h) (by decide)
/-- a byte of a number -/
def by8 (v s : Int32) : Int32 := (v.toUInt32 >>> (s.toUInt32 &&& Int32.toUInt32 31)).toInt32 &&& 255
def bs5 (a b c d e : Int32) : Nat → Int32
  | 0 => a
  | 1 => b
  | 2 => c
  | 3 => d
  | _ => e
def fw5 (a b c d e : Int32) (u : Nat) : Int32 := by8 (bs5 a b c d e (u / 4)) (Int32.ofNat (24 - 8 * (u % 4)))
/-- a row behind k bytes from n on -/
def fdr (r : Nat → Int32) (n k : Nat) (w : Nat → Int32) (j : Nat) : Int32 := bif Nat.ble n j && Nat.blt j (n + k) then w (j - n) else r j
theorem fdr_p {M : aM} {q n k : Nat} {r w : Nat → Int32} {x : Int32} (h : ∀ j, M.1 q 0 j = fdr r n k w j) (hx : x = w k) (j : Nat) : (a_pI M q 0 (n + k) x).1 q 0 j = fdr r n (k + 1) w j := by
  by_cases hj : j = n + k
  · rw [hj, x_pe]
    show x = (bif Nat.ble n (n + k) && Nat.blt (n + k) (n + (k + 1)) then w (n + k - n) else r (n + k))
    rw [Nat.ble_eq_true_of_le (Nat.le_add_right n k), x_blt (show n + k < n + (k + 1) by omega), Nat.add_sub_cancel_left]
    exact hx
  · rw [x_pn (fun z => hj z.2.2), h j]
    show (bif Nat.ble n j && Nat.blt j (n + k) then w (j - n) else r j) = (bif Nat.ble n j && Nat.blt j (n + (k + 1)) then w (j - n) else r j)
    by_cases h2 : j < n + k
    · rw [x_blt h2, x_blt (show j < n + (k + 1) by omega)]
    · rw [x_nblt h2, x_nblt (show ¬ j < n + (k + 1) by omega)]
theorem fdr_0 {r w : Nat → Int32} {n : Nat} (j : Nat) : r j = fdr r n 0 w j := by
  show r j = (bif Nat.ble n j && Nat.blt j (n + 0) then w (j - n) else r j)
  by_cases h : n ≤ j
  · rw [x_nblt (show ¬ j < n + 0 by omega), Bool.and_false]
    rfl
  · rw [x_nble h, Bool.false_and]
    rfl
theorem g_put2 {nS d i : Nat} {M : aM} {j x : Int32} {a : Nat} (hj : j = Int32.ofNat a) (ha : a < 400) : aC nS (d + 1) 106 [vR 2 i, vI j, vI x] M (fun v M' => v = none ∧ M' = a_pI M 2 i a x) (fun _ _ => False) := by
  refine aC_mk rfl rfl ?_
  intro K hK _
  subst hj
  refine hK _ _ _ _ (hK _ _ _ _ ⟨fun h => ?_, fun h => ?_⟩)
  · exact absurd (x_lt (y := 0) rfl rfl (by omega) (by decide) h) (by omega)
  · refine hK _ _ _ _ (hK _ _ _ _ (hK _ _ _ _ (hK _ _ _ _ ⟨fun h => ?_, fun h => ?_⟩)))
    · exact absurd (x_ge (y := 400) rfl rfl (by omega) (by decide) h) (by omega)
    · refine hK _ _ _ _ (hK _ _ _ _ (hK _ _ _ _ (hK _ _ _ _ ⟨x_vp rfl ha (by decide), ?_⟩)))
      rw [x_cl rfl (by omega)]
      exact hK _ _ _ _ ⟨rfl, rfl⟩
theorem x_append {nS d n k : Nat} {M : aM} {v : Int32} {r w : Nat → Int32} (hn : M.1 1 0 1 = Int32.ofNat (n + k)) (h4 : n + k + 4 ≤ 400) (hr : ∀ j, M.1 2 0 j = fdr r n k w j) (hw : ∀ u, u < 4 → w (k + u) = by8 v (Int32.ofNat (24 - 8 * u))) : aC nS (d + 2) 131 [vR 1 0, vI v] M (fun u M' => u = none ∧ M'.1 1 0 1 = Int32.ofNat (n + (k + 4)) ∧ ∀ j, M'.1 2 0 j = fdr r n (k + 4) w j) (fun _ _ => False) := by
  refine aC_mk rfl rfl ?_
  intro K hK _
  have one : ∀ (i : Nat) (s : Int32) (M1 : aM), i < 4 → s = Int32.ofNat (24 - 8 * i) → M1.1 1 0 1 = Int32.ofNat (n + (k + i)) → (∀ j, M1.1 2 0 j = fdr r n (k + i) w j) → (∀ M2 : aM, M2.1 1 0 1 = Int32.ofNat (n + (k + (i + 1))) → (∀ j, M2.1 2 0 j = fdr r n (k + (i + 1)) w j) → K 3 [some (vR 1 0), some (vI v), some (vI (s + (-8)))] [] M2) → K 3 [some (vR 1 0), some (vI v), some (vI s)] [] M1 := by
    intro i s M1 hi hs h1 h2 nx
    refine hK _ _ _ _ (hK _ _ _ _ (⟨fun q => ?_, fun q => ?_⟩))
    · exfalso
      rw [hs] at q
      have := (hI_lt (a := 24 - 8 * i) (b := 0) (by omega) (by decide)).mp q
      omega
    · refine hK _ _ _ _ (hK _ _ _ _ (hK _ _ _ _ (hK _ _ _ _ (hK _ _ _ _ (hK _ _ _ _ (hK _ _ _ _ (hK _ _ _ _ (hK _ _ _ _ (hK _ _ _ _ (⟨_, g_put2 (d := d) h1 (by omega), rfl, fun v22 M22 g22 => ?_⟩))))))))))
      obtain ⟨rfl, rfl⟩ := g22
      refine hK _ _ _ _ (hK _ _ _ _ (hK _ _ _ _ (hK _ _ _ _ (hK _ _ _ _ (hK _ _ _ _ (hK _ _ _ _ (hK _ _ _ _ (?_))))))))
      refine nx _ ?_ ?_
      · rw [x_pe, x_pn (fun z => absurd z.1 (by decide)), h1]
        exact hI_s
      · intro j
        rw [x_pn (fun z => absurd z.1 (by decide))]
        refine fdr_p (k := k + i) h2 ?_ j
        rw [hw i hi, ← hs]
        rfl
  refine hK _ _ _ _ (hK _ _ _ _ (?_))
  refine one 0 24 M (by decide) (by decide) hn hr (fun M1 a1 b1 => ?_)
  refine one 1 _ M1 (by decide) (by decide) a1 b1 (fun M2 a2 b2 => ?_)
  refine one 2 _ M2 (by decide) (by decide) a2 b2 (fun M3 a3 b3 => ?_)
  refine one 3 _ M3 (by decide) (by decide) a3 b3 (fun M4 a4 b4 => ?_)
  refine hK _ _ _ _ (hK _ _ _ _ (⟨fun q => ?_, fun q => ?_⟩))
  · exact hK _ _ _ _ ⟨rfl, a4, b4⟩
  · exact absurd (by decide) q
theorem x_w5_0 {a b c d e : Int32} {u : Nat} (hu : u < 4) : fw5 a b c d e (0 + u) = by8 a (Int32.ofNat (24 - 8 * u)) := by
  rcases (show u = 0 ∨ u = 1 ∨ u = 2 ∨ u = 3 by omega) with rfl | rfl | rfl | rfl <;> rfl
theorem x_w5_1 {a b c d e : Int32} {u : Nat} (hu : u < 4) : fw5 a b c d e (4 + u) = by8 b (Int32.ofNat (24 - 8 * u)) := by
  rcases (show u = 0 ∨ u = 1 ∨ u = 2 ∨ u = 3 by omega) with rfl | rfl | rfl | rfl <;> rfl
theorem x_w5_2 {a b c d e : Int32} {u : Nat} (hu : u < 4) : fw5 a b c d e (8 + u) = by8 c (Int32.ofNat (24 - 8 * u)) := by
  rcases (show u = 0 ∨ u = 1 ∨ u = 2 ∨ u = 3 by omega) with rfl | rfl | rfl | rfl <;> rfl
theorem x_w5_3 {a b c d e : Int32} {u : Nat} (hu : u < 4) : fw5 a b c d e (12 + u) = by8 d (Int32.ofNat (24 - 8 * u)) := by
  rcases (show u = 0 ∨ u = 1 ∨ u = 2 ∨ u = 3 by omega) with rfl | rfl | rfl | rfl <;> rfl
theorem x_w5_4 {a b c d e : Int32} {u : Nat} (hu : u < 4) : fw5 a b c d e (16 + u) = by8 e (Int32.ofNat (24 - 8 * u)) := by
  rcases (show u = 0 ∨ u = 1 ∨ u = 2 ∨ u = 3 by omega) with rfl | rfl | rfl | rfl <;> rfl
theorem x_feed {nS n : Nat} {M : aM} {a b c d e : Int32} (hT : z_MT (zTb, [], []) M) (hlt : n < 2147483648) (hn : M.1 1 0 1 = Int32.ofNat n) : aC nS 60 150 [vR 0 0, vI a, vI b, vI c, vI d, vI e] M (fun v M' => (n + 20 ≤ 400 ∧ ∀ j, M'.1 2 0 j = fdr (M.1 2 0) n 20 (fw5 a b c d e) j) ∨ (400 < n + 20 ∧ ∀ j, M'.1 2 0 j = M.1 2 0 j)) (fun _ _ => False) := by
  obtain ⟨z1, z2⟩ := h_SZ hT
  refine aC_mk rfl rfl ?_
  intro K hK _
  refine hK _ _ _ _ (hK _ _ _ _ (hK _ _ _ _ (hK _ _ _ _ (⟨_, e_room (d := 58) hT, rfl, fun v6 M6 g6 => ?_⟩))))
  obtain ⟨g6, rfl⟩ := g6
  rcases g6 with ⟨rfl, hs⟩ | ⟨rfl, hs⟩
  · refine hK _ _ _ _ (⟨fun _ => ?_, fun q => absurd q (by decide)⟩)
    have h4 : n + 20 ≤ 400 := by
      rw [hn, z_b_ofNat hlt] at hs
      omega
    refine hK _ _ _ _ (hK _ _ _ _ (hK _ _ _ _ (hK _ _ _ _ (⟨_, x_append (d := 57) (k := 0) (r := M.1 2 0) (w := fw5 a b c d e) hn (by omega) (fun j => fdr_0 j) (fun u hu => x_w5_0 hu), rfl, fun v19 M19 g19 => ?_⟩))))
    obtain ⟨rfl, n19, r19⟩ := g19
    refine hK _ _ _ _ (hK _ _ _ _ (hK _ _ _ _ (hK _ _ _ _ (⟨_, x_append (d := 57) (k := 4) (r := M.1 2 0) (w := fw5 a b c d e) n19 (by omega) r19 (fun u hu => x_w5_1 hu), rfl, fun v27 M27 g27 => ?_⟩))))
    obtain ⟨rfl, n27, r27⟩ := g27
    refine hK _ _ _ _ (hK _ _ _ _ (hK _ _ _ _ (hK _ _ _ _ (⟨_, x_append (d := 57) (k := 8) (r := M.1 2 0) (w := fw5 a b c d e) n27 (by omega) r27 (fun u hu => x_w5_2 hu), rfl, fun v35 M35 g35 => ?_⟩))))
    obtain ⟨rfl, n35, r35⟩ := g35
    refine hK _ _ _ _ (hK _ _ _ _ (hK _ _ _ _ (hK _ _ _ _ (⟨_, x_append (d := 57) (k := 12) (r := M.1 2 0) (w := fw5 a b c d e) n35 (by omega) r35 (fun u hu => x_w5_3 hu), rfl, fun v44 M44 g44 => ?_⟩))))
    obtain ⟨rfl, n44, r44⟩ := g44
    refine hK _ _ _ _ (hK _ _ _ _ (hK _ _ _ _ (hK _ _ _ _ (⟨_, x_append (d := 57) (k := 16) (r := M.1 2 0) (w := fw5 a b c d e) n44 (by omega) r44 (fun u hu => x_w5_4 hu), rfl, fun v53 M53 g53 => ?_⟩))))
    obtain ⟨rfl, n53, r53⟩ := g53
    refine hK _ _ _ _ (hK _ _ _ _ (hK _ _ _ _ (⟨_, t_size, rfl, fun v60 M60 g60 => ?_⟩)))
    obtain ⟨rfl, rfl⟩ := g60
    exact hK _ _ _ _ (Or.inl ⟨h4, r53⟩)
  · refine hK _ _ _ _ (⟨fun q => absurd rfl q, fun _ => ?_⟩)
    have h4 : 400 < n + 20 := by
      rw [hn, z_b_ofNat hlt] at hs
      omega
    exact hK _ _ _ _ (hK _ _ _ _ ((Or.inr ⟨h4, fun _ => rfl⟩)))
theorem y_feed {nS n : Nat} {M : aM} {a b c d e : Int32} (hT : z_MT (zTb, [], []) M) (hlt : n < 2147483648) (hn : M.1 36 0 6 = Int32.ofNat n) : aC nS 60 200 [vR 36 0, vI a, vI b, vI c, vI d, vI e] M (fun v M' => (n + 20 ≤ 400 ∧ ∀ j, M'.1 40 0 j = fdr (M.1 40 0) n 20 (fw5 a b c d e) j) ∨ (400 < n + 20 ∧ ∀ j, M'.1 40 0 j = M.1 40 0 j)) (fun _ _ => False) := by
  obtain ⟨z1, z2⟩ := h_TP hT
  rw [hn, z_b_ofNat hlt] at z2
  refine aC_mk rfl rfl ?_
  intro K hK _
  have lp : n + 20 ≤ 400 → ∀ (m k : Nat) (c7 : Option aV) (M1 : aM), k + m = 20 → M1.1 36 0 6 = Int32.ofNat (n + k) → (∀ j, M1.1 40 0 j = fdr (M.1 40 0) n k (fw5 a b c d e) j) → K 23 [some (vR 36 0), some (vI a), some (vI b), some (vI c), some (vI d), some (vI e), some (vI (Int32.ofNat k)), c7] [] M1 := by
    intro h4 m
    induction m with
    | zero =>
      intro k c7 M1 hk h6 hr
      have e20 : k = 20 := by omega
      subst e20
      refine hK _ _ _ _ (hK _ _ _ _ (hK _ _ _ _ (⟨fun q => ?_, fun q => ?_⟩)))
      · exact hK _ _ _ _ (hK _ _ _ _ (hK _ _ _ _ ((Or.inl ⟨h4, hr⟩))))
      · exact absurd ((hI_le (a := 20) (b := 20) (by decide) (by decide)).mpr (Nat.le_refl _)) q
    | succ m ih =>
      intro k c7 M1 hk h6 hr
      have nx : ∀ v : Int32, v = bs5 a b c d e (k / 4) → K 76 [some (vR 36 0), some (vI a), some (vI b), some (vI c), some (vI d), some (vI e), some (vI (Int32.ofNat k)), c7] [vI v] M1 := by
        intro v hv
        refine hK _ _ _ _ (hK _ _ _ _ (hK _ _ _ _ (hK _ _ _ _ (hK _ _ _ _ (hK _ _ _ _ (hK _ _ _ _ (hK _ _ _ _ (hK _ _ _ _ (hK _ _ _ _ (hK _ _ _ _ (⟨fun z => absurd z (by decide), ?_⟩)))))))))))
        rw [show Int32.ofNat k - Int32.ofNat k / 4 * 4 = Int32.ofNat (k % 4) from x_rem (b := 4) (by omega) (by decide)]
        have e24 : (24 : Int32) - 8 * Int32.ofNat (k % 4) = Int32.ofNat (24 - 8 * (k % 4)) := by
          rcases (show k % 4 = 0 ∨ k % 4 = 1 ∨ k % 4 = 2 ∨ k % 4 = 3 by omega) with h | h | h | h <;> rw [h] <;> decide
        refine hK _ _ _ _ (hK _ _ _ _ (hK _ _ _ _ (hK _ _ _ _ (hK _ _ _ _ (hK _ _ _ _ (⟨x_vp h6 (show n + k < 400 by omega) (by decide), ?_⟩))))))
        rw [x_cl h6 (by omega), e24]
        refine hK _ _ _ _ (hK _ _ _ _ (hK _ _ _ _ (hK _ _ _ _ (hK _ _ _ _ (hK _ _ _ _ (hK _ _ _ _ (hK _ _ _ _ (?_))))))))
        rw [hI_s]
        refine ih (k + 1) _ _ (by omega) ?_ ?_
        · rw [x_pe, x_pn (fun z => absurd z.1 (by decide)), h6]
          exact hI_s
        · intro j
          rw [x_pn (fun z => absurd z.1 (by decide))]
          refine fdr_p hr ?_ j
          rw [hv]
          rfl
      have le : ∀ y : Nat, y < 100 → Int32.ofNat y ≤ Int32.ofNat k → y ≤ k := fun y hy h => (hI_le (by omega) (by omega)).mp h
      have nl : ∀ y : Nat, y < 100 → ¬ Int32.ofNat y ≤ Int32.ofNat k → k < y := fun y hy h => by
        have : ¬ y ≤ k := fun z => h ((hI_le (by omega) (by omega)).mpr z)
        omega
      refine hK _ _ _ _ (hK _ _ _ _ (hK _ _ _ _ (⟨fun q => ?_, fun q => ?_⟩)))
      · have := le 20 (by decide) q
        omega
      refine hK _ _ _ _ (hK _ _ _ _ (hK _ _ _ _ (⟨fun q1 => ?_, fun q1 => ?_⟩)))
      · have q1 := le 4 (by decide) q1
        refine hK _ _ _ _ (hK _ _ _ _ (hK _ _ _ _ (⟨fun q2 => ?_, fun q2 => ?_⟩)))
        · have q2 := le 8 (by decide) q2
          refine hK _ _ _ _ (hK _ _ _ _ (hK _ _ _ _ (⟨fun q3 => ?_, fun q3 => ?_⟩)))
          · have q3 := le 12 (by decide) q3
            refine hK _ _ _ _ (hK _ _ _ _ (hK _ _ _ _ (⟨fun q4 => ?_, fun q4 => ?_⟩)))
            · have q4 := le 16 (by decide) q4
              refine hK _ _ _ _ (?_)
              exact nx _ (by rw [show k / 4 = 4 by omega]; rfl)
            · have q4 := nl 16 (by decide) q4
              refine hK _ _ _ _ (hK _ _ _ _ (?_))
              exact nx _ (by rw [show k / 4 = 3 by omega]; rfl)
          · have q3 := nl 12 (by decide) q3
            refine hK _ _ _ _ (hK _ _ _ _ (?_))
            exact nx _ (by rw [show k / 4 = 2 by omega]; rfl)
        · have q2 := nl 8 (by decide) q2
          refine hK _ _ _ _ (hK _ _ _ _ (?_))
          exact nx _ (by rw [show k / 4 = 1 by omega]; rfl)
      · have q1 := nl 4 (by decide) q1
        refine hK _ _ _ _ (hK _ _ _ _ (?_))
        exact nx _ (by rw [show k / 4 = 0 by omega]; rfl)
  have e6 : (a_pI M 36 0 0 0).1 36 0 6 = Int32.ofNat n := (x_pn (by decide)).trans hn
  have e26 : Int32.ofNat n + 20 = Int32.ofNat (n + 20) := hI_ad (b := 20)
  refine hK _ _ _ _ (hK _ _ _ _ (hK _ _ _ _ (hK _ _ _ _ (hK _ _ _ _ (hK _ _ _ _ (?_))))))
  rw [e6]
  refine hK _ _ _ _ (hK _ _ _ _ (hK _ _ _ _ (⟨fun q => ?_, fun q => ?_⟩)))
  · have h4 : n + 20 ≤ 400 := by
      rw [e26] at q
      exact (hI_le (by omega) (by decide)).mp q
    refine hK _ _ _ _ (hK _ _ _ _ (?_))
    exact lp h4 20 0 _ _ rfl e6 (fun j => (x_pn (fun z => absurd z.1 (by decide))).trans (fdr_0 j))
  · have h4 : 400 < n + 20 := by
      rw [e26] at q
      have : ¬ n + 20 ≤ 400 := fun z => q ((hI_le (a := n + 20) (b := 400) (by omega) (by decide)).mpr z)
      omega
    exact hK _ _ _ _ (hK _ _ _ _ ((Or.inr ⟨h4, fun j => x_pn (fun z => absurd z.1 (by decide))⟩)))
