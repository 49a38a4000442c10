def gTa (i : Nat) (M : aM) (k o : Nat) : Prop := (∀ a b, a < o → b < o → M.1 6 i (a * 8 + b) = Int32.ofNat (rt k o a b)) ∧ ∀ a, a < o → M.1 7 i a = Int32.ofNat (ag k o a)
def PGp (i : Nat) : xF := fun k i' _ => (Nat.beq k 6 || Nat.beq k 7) && Nat.beq i' i
def PGk (i : Nat) : xF := fun k i' j => (Nat.beq k 8 || (Nat.beq k 9 || (Nat.beq k 5 && Nat.beq j 2))) && Nat.beq i' i
def PGc (i : Nat) : xF := fun k i' _ => (Nat.beq k 10 || Nat.beq k 11) && Nat.beq i' i
theorem x_bt {b : Bool} {i : Nat} (h : b = true) : (b && Nat.beq i i) = true := by rw [h, Nat.beq_refl]; rfl
theorem PGp_6 {i j : Nat} : PGp i 6 i j = true := x_bt rfl
theorem PGp_7 {i j : Nat} : PGp i 7 i j = true := x_bt rfl
theorem PGk_5 {i : Nat} : PGk i 5 i 2 = true := x_bt rfl
theorem PGk_8 {i j : Nat} : PGk i 8 i j = true := x_bt rfl
theorem PGk_9 {i j : Nat} : PGk i 9 i j = true := x_bt rfl
theorem PGc_10 {i j : Nat} : PGc i 10 i j = true := x_bt rfl
theorem PGc_11 {i j : Nat} : PGc i 11 i j = true := x_bt rfl
theorem x_m8 {a b : Nat} : Int32.ofNat a * 8 + Int32.ofNat b = Int32.ofNat (a * 8 + b) := by
  rw [show (8 : Int32) = Int32.ofNat 8 from rfl, ← Int32.ofNat_mul, hI_ad]
theorem g_ctimes {nS d i : Nat} {M : aM} {k o a b : Nat} {x y : Int32} (hq : (k, o) ∈ gP) (ht : gTa i M k o) (hx : x = Int32.ofNat a) (hy : y = Int32.ofNat b) (ha : a < o) (hb : b < o) : aC nS (d + 1) 59 [vR 5 i, vI x, vI y] M (fun v M' => v = some (vI (Int32.ofNat (rt k o a b))) ∧ M = M') (fun _ _ => False) := by
  obtain ⟨o2, o8, k3⟩ := gP_o hq
  subst hx
  subst hy
  refine aC_mk rfl rfl ?_
  intro K hK _
  have ej := x_m8 (a := a) (b := b)
  refine hK _ _ _ _ (hK _ _ _ _ (hK _ _ _ _ (hK _ _ _ _ (hK _ _ _ _ (hK _ _ _ _ (hK _ _ _ _ (hK _ _ _ _ ⟨fun h => ?_, fun h => ?_⟩)))))))
  · exact absurd (x_lt (y := 0) ej rfl (by omega) (by decide) h) (by omega)
  · refine hK _ _ _ _ (hK _ _ _ _ (hK _ _ _ _ (hK _ _ _ _ (hK _ _ _ _ ⟨fun h => ?_, fun h => ?_⟩))))
    · exact absurd (x_ge (y := 64) ej rfl (by omega) (by decide) h) (by omega)
    · refine hK _ _ _ _ (hK _ _ _ _ (hK _ _ _ _ (hK _ _ _ _ ⟨x_vp ej (show a * 8 + b < 64 by omega) (by decide), ?_⟩)))
      rw [x_cl ej (by omega)]
      exact hK _ _ _ _ (hK _ _ _ _ ⟨by rw [ht.1 a b ha hb], rfl⟩)
theorem g_cagainst {nS d i : Nat} {M : aM} {k o a : Nat} {x : Int32} (hq : (k, o) ∈ gP) (ht : gTa i M k o) (hx : x = Int32.ofNat a) (ha : a < o) : aC nS (d + 1) 60 [vR 5 i, vI x] M (fun v M' => v = some (vI (Int32.ofNat (ag k o a))) ∧ M = M') (fun _ _ => False) := by
  obtain ⟨o2, o8, k3⟩ := gP_o hq
  subst hx
  refine aC_mk rfl rfl ?_
  intro K hK _
  refine hK _ _ _ _ (hK _ _ _ _ ⟨fun h => ?_, fun h => ?_⟩)
  · exact absurd (x_lt (y := 0) rfl rfl (by omega) (by decide) h) (by omega)
  · refine hK _ _ _ _ (hK _ _ _ _ (hK _ _ _ _ (hK _ _ _ _ (hK _ _ _ _ ⟨fun h => ?_, fun h => ?_⟩))))
    · exact absurd (x_ge (y := 8) rfl rfl (by omega) (by decide) h) (by omega)
    · refine hK _ _ _ _ (hK _ _ _ _ (hK _ _ _ _ (hK _ _ _ _ ⟨x_vp rfl (show a < 8 by omega) (by decide), ?_⟩)))
      rw [x_cl rfl (by omega)]
      exact hK _ _ _ _ (hK _ _ _ _ ⟨by rw [ht.2 a ha], rfl⟩)
theorem g_fillP {nS d i : Nat} {M : aM} {k o : Nat} (hi : i < 3) (hg : gC i M k o) : aC nS (d + 2) 53 [vR 5 i] M (fun v M' => v = none ∧ fr (PGp i) M M' ∧ gTa i M' k o) (fun _ _ => False) := by
  obtain ⟨o2, o8, k3⟩ := gP_o hg.1
  refine aC_mk rfl rfl ?_
  intro K hK _
  have ho : ∀ {M1 : aM}, fr (PGp i) M M1 → M1.1 5 i 1 = Int32.ofNat o := fun hf => (hf.1 5 i 1 rfl).trans hg.2.2
  have hgc : ∀ {M1 : aM}, fr (PGp i) M M1 → gC i M1 k o := fun hf => ⟨hg.1, (hf.1 5 i 0 rfl).trans hg.2.1, ho hf⟩
  have inn : ∀ (a : Nat), a < o → (∀ (M1 : aM) (x2 x3 : Option aV), fr (PGp i) M M1 → (∀ a' b', b' < o → a' < a + 1 → M1.1 6 i (a' * 8 + b') = Int32.ofNat (rt k o a' b')) → (∀ a', a' < a + 1 → M1.1 7 i a' = Int32.ofNat (ag k o a')) → K 60 [some (vR 5 i), some (vI (Int32.ofNat a)), x2, x3] [] M1) → ∀ (m b : Nat) (M1 : aM) (x3 : Option aV), o - b = m → b ≤ o → fr (PGp i) M M1 → (∀ a' b', b' < o → (a' < a ∨ a' = a ∧ b' < b) → M1.1 6 i (a' * 8 + b') = Int32.ofNat (rt k o a' b')) → (∀ a', a' < a → M1.1 7 i a' = Int32.ofNat (ag k o a')) → (ag k o a < b → M1.1 7 i a = Int32.ofNat (ag k o a)) → K 12 [some (vR 5 i), some (vI (Int32.ofNat a)), some (vI (Int32.ofNat b)), x3] [] M1 := by
    intro a ha out m
    induction m with
    | zero =>
      intro b M1 x3 hm hb hf hr h1 h2
      have hbo : b = o := by omega
      refine hK _ _ _ _ (hK _ _ _ _ (hK _ _ _ _ (hK _ _ _ _ ⟨fun h => ?_, fun h => ?_⟩)))
      · exact out M1 _ _ hf (fun a' b' z1 z2 => hr a' b' z1 (by omega)) (fun a' z => by
          by_cases he : a' = a
          · rw [he]
            exact h2 (by have := ag_lt hg.1 ha; omega)
          · exact h1 a' (by omega))
      · exact absurd (x_nge (x := b) rfl (ho hf) (by omega) (by omega) h) (by omega)
    | succ m ih =>
      intro b M1 x3 hm hb hf hr h1 h2
      have hbo : b < o := by omega
      have hrl := rt_lt hg.1 ha hbo
      have nx : ∀ (M3 : aM) (x3 : Option aV), fr (PGp i) M M3 → (∀ a' b', b' < o → (a' < a ∨ a' = a ∧ b' < b + 1) → M3.1 6 i (a' * 8 + b') = Int32.ofNat (rt k o a' b')) → (∀ a', a' < a → M3.1 7 i a' = Int32.ofNat (ag k o a')) → (ag k o a < b + 1 → M3.1 7 i a = Int32.ofNat (ag k o a)) → K 54 [some (vR 5 i), some (vI (Int32.ofNat a)), some (vI (Int32.ofNat b)), x3] [] M3 := by
        intro M3 x3 f3 r3 i3 j3
        refine hK _ _ _ _ (hK _ _ _ _ ?_)
        rw [hI_s]
        exact ih (b + 1) M3 x3 (by omega) (by omega) f3 r3 i3 j3
      refine hK _ _ _ _ (hK _ _ _ _ (hK _ _ _ _ (hK _ _ _ _ ⟨fun h => ?_, fun h => ?_⟩)))
      · exact absurd (x_ge (x := b) rfl (ho hf) (by omega) (by omega) h) (by omega)
      · refine hK _ _ _ _ (hK _ _ _ _ (hK _ _ _ _ (hK _ _ _ _ ⟨_, g_product hi (hgc hf) ha hbo, rfl, fun v23 M23 g23 => ?_⟩)))
        obtain ⟨rfl, rfl⟩ := g23
        refine hK _ _ _ _ (hK _ _ _ _ (hK _ _ _ _ (hK _ _ _ _ (hK _ _ _ _ (hK _ _ _ _ (hK _ _ _ _ (hK _ _ _ _ (hK _ _ _ _ (hK _ _ _ _ ⟨_, g_put6 (x_m8 (a := a) (b := b)) (by omega), rfl, fun v38 M38 g38 => ?_⟩)))))))))
        obtain ⟨rfl, rfl⟩ := g38
        have f2 : fr (PGp i) M (a_pI M1 6 i (a * 8 + b) (Int32.ofNat (rt k o a b))) := fr_p hf PGp_6
        have r2 : ∀ a' b', b' < o → (a' < a ∨ a' = a ∧ b' < b + 1) → (a_pI M1 6 i (a * 8 + b) (Int32.ofNat (rt k o a b))).1 6 i (a' * 8 + b') = Int32.ofNat (rt k o a' b') := by
          intro a' b' z1 z2
          by_cases he : a' = a ∧ b' = b
          · rw [he.1, he.2]
            exact x_pe
          · rw [x_pn (fun z => he (by have := z.2.2; omega))]
            exact hr a' b' z1 (by omega)
        have i2 : ∀ a', (a_pI M1 6 i (a * 8 + b) (Int32.ofNat (rt k o a b))).1 7 i a' = M1.1 7 i a' := fun a' => x_pn (fun z => absurd z.1 (by decide))
        refine hK _ _ _ _ (hK _ _ _ _ ⟨fun h => ?_, fun h => ?_⟩)
        · refine nx _ _ f2 r2 (fun a' z => (i2 a').trans (h1 a' z)) (fun z => (i2 a).trans (h2 ?_))
          by_cases he : ag k o a = b
          · exfalso
            apply h
            rw [← he, ag_ex hg.1 ha]
            rfl
          · omega
        · have hz : rt k o a b = 0 := x_eq (y := 0) rfl rfl (by omega) (by decide) h
          have hab : b = ag k o a := ag_un hg.1 ha hbo hz
          refine hK _ _ _ _ (hK _ _ _ _ (hK _ _ _ _ (hK _ _ _ _ (hK _ _ _ _ ⟨_, g_put7 rfl (show a < 8 by omega), rfl, fun v51 M51 g51 => ?_⟩))))
          obtain ⟨rfl, rfl⟩ := g51
          refine nx _ _ (fr_p f2 PGp_7) (fun a' b' z1 z2 => (x_pn (fun z => absurd z.1 (by decide))).trans (r2 a' b' z1 z2)) (fun a' z => ?_) (fun _ => ?_)
          · rw [x_pn (fun q => by have := q.2.2; omega), i2]
            exact h1 a' z
          · rw [← hab]
            exact x_pe
  have lp : ∀ (m a : Nat) (M1 : aM) (x2 x3 : Option aV), o - a = m → a ≤ o → fr (PGp i) M M1 → (∀ a' b', b' < o → a' < a → M1.1 6 i (a' * 8 + b') = Int32.ofNat (rt k o a' b')) → (∀ a', a' < a → M1.1 7 i a' = Int32.ofNat (ag k o a')) → K 2 [some (vR 5 i), some (vI (Int32.ofNat a)), x2, x3] [] M1 := by
    intro m
    induction m with
    | zero =>
      intro a M1 x2 x3 hm ha hf hr h1
      refine hK _ _ _ _ (hK _ _ _ _ (hK _ _ _ _ (hK _ _ _ _ ⟨fun h => ?_, fun h => ?_⟩)))
      · exact hK _ _ _ _ ⟨rfl, hf, fun a' b' z1 z2 => hr a' b' z2 (by omega), fun a' z => h1 a' (by omega)⟩
      · exact absurd (x_nge (x := a) rfl (ho hf) (by omega) (by omega) h) (by omega)
    | succ m ih =>
      intro a M1 x2 x3 hm ha hf hr h1
      refine hK _ _ _ _ (hK _ _ _ _ (hK _ _ _ _ (hK _ _ _ _ ⟨fun h => ?_, fun h => ?_⟩)))
      · exact absurd (x_ge (x := a) rfl (ho hf) (by omega) (by omega) h) (by omega)
      · refine hK _ _ _ _ (hK _ _ _ _ ?_)
        refine inn a (by omega) (fun M2 x2 x3 f2 r2 i2 => ?_) _ 0 M1 x3 rfl (Nat.zero_le _) hf (fun a' b' z1 z2 => hr a' b' z1 (by omega)) h1 (fun z => absurd z (Nat.not_lt_zero _))
        refine hK _ _ _ _ (hK _ _ _ _ ?_)
        rw [hI_s]
        exact ih (a + 1) M2 x2 x3 (by omega) (by omega) f2 r2 i2
  refine hK _ _ _ _ (hK _ _ _ _ ?_)
  exact lp _ 0 M none none rfl (Nat.zero_le _) fr_r (fun a' b' h1 h2 => absurd h2 (Nat.not_lt_zero _)) (fun a' h => absurd h (Nat.not_lt_zero _))
