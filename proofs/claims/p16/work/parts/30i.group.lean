/-- kins as the class numbers them: 99 for none yet -/
def kfi (k o t n : Nat) (f : Nat → Nat) : Nat → Nat → Nat
  | 0 => f
  | c + 1 => fun j => bif Nat.beq j (rt k o (rt k o c t) (ag k o c)) then n else kfi k o t n f c j
def kfo (k o : Nat) : Nat → Nat × (Nat → Nat)
  | 0 => (0, fun _ => 99)
  | t + 1 => match kfo k o t with
    | (n, f) => bif Nat.beq (f t) 99 then (n + 1, kfi k o t n f o) else (n, f)
def kn (k o a : Nat) : Nat := (kfo k o o).2 a
def kc (k o : Nat) : Nat := (kfo k o o).1
def ksf (k o c : Nat) : Nat → Nat
  | 0 => 0
  | t + 1 => ksf k o c t + (bif Nat.beq (kn k o t) c then 1 else 0)
def kcd (v : Nat) : Int32 := bif Nat.beq v 99 then -1 else Int32.ofNat v
theorem kfi_v {k o t n : Nat} {f : Nat → Nat} (hn : n ≤ 98) (hf : ∀ j, f j ≤ 99) : ∀ c j, kfi k o t n f c j ≤ 99
  | 0, j => hf j
  | c + 1, j => by
    show (bif Nat.beq j (rt k o (rt k o c t) (ag k o c)) then n else kfi k o t n f c j) ≤ 99
    cases Nat.beq j (rt k o (rt k o c t) (ag k o c)) with
    | true => exact Nat.le_succ_of_le hn
    | false => exact kfi_v hn hf c j
theorem kfo_v {k o : Nat} : ∀ t, t ≤ 98 → (kfo k o t).1 ≤ t ∧ ∀ j, (kfo k o t).2 j ≤ 99
  | 0, _ => ⟨Nat.le_refl _, fun _ => Nat.le_refl _⟩
  | t + 1, h => by
    obtain ⟨h1, h2⟩ := kfo_v (k := k) (o := o) t (by omega)
    have e : kfo k o (t + 1) = bif Nat.beq ((kfo k o t).2 t) 99 then ((kfo k o t).1 + 1, kfi k o t (kfo k o t).1 (kfo k o t).2 o) else ((kfo k o t).1, (kfo k o t).2) := rfl
    rw [e]
    cases Nat.beq ((kfo k o t).2 t) 99 with
    | true => exact ⟨by show (kfo k o t).1 + 1 ≤ t + 1; omega, fun j => kfi_v (by omega) h2 o j⟩
    | false => exact ⟨by show (kfo k o t).1 ≤ t + 1; omega, h2⟩
theorem kcd_m {v : Nat} (hv : v ≤ 99) : kcd v = -1 ↔ v = 99 := by
  unfold kcd
  constructor
  · intro h
    cases hb : Nat.beq v 99 with
    | true => exact Nat.eq_of_beq_eq_true hb
    | false =>
      rw [hb, cond_false] at h
      exact absurd h (x_m1 (by omega))
  · intro h
    rw [h]
    rfl
theorem kcd_n {v : Nat} (hv : v ≤ 98) : kcd v = Int32.ofNat v := by
  unfold kcd
  cases hb : Nat.beq v 99 with
  | true =>
    have := Nat.eq_of_beq_eq_true hb
    omega
  | false => rfl
theorem kn_lt {k o a : Nat} (hq : (k, o) ∈ gP) (ha : a < o) : kn k o a < 8 := Nat.le_of_ble_eq_true (gA_all (P := fun k o a => Nat.ble (kn k o a + 1) 8) (by decide +kernel) hq ha)
/-- counts of commutators and of roots -/
def cmi (k o c a s : Nat) : Nat → Nat
  | 0 => s
  | b + 1 => cmi k o c a s b + (bif Nat.beq (rt k o (rt k o a b) (rt k o (ag k o a) (ag k o b))) c then 1 else 0)
def cmo (k o c : Nat) : Nat → Nat
  | 0 => 0
  | a + 1 => cmi k o c a (cmo k o c a) o
def rso (k o c : Nat) : Nat → Nat
  | 0 => 0
  | a + 1 => rso k o c a + (bif Nat.beq (rt k o a a) c then 1 else 0)
theorem x_bif {c x : Nat} (h : x = c) (n : Nat) : Int32.ofNat n + 1 = Int32.ofNat (n + (bif Nat.beq x c then 1 else 0)) := by
  rw [h, Nat.beq_refl, hI_s]
  rfl
theorem x_bin {c x : Nat} (h : ¬ x = c) (n : Nat) : Int32.ofNat n = Int32.ofNat (n + (bif Nat.beq x c then 1 else 0)) := by
  cases hb : Nat.beq x c with
  | true => exact absurd (Nat.eq_of_beq_eq_true hb) h
  | false => rfl
theorem gTa_fr {i : Nat} {M M' : aM} {k o : Nat} (h : gTa i M k o) (h6 : ∀ j, M'.1 6 i j = M.1 6 i j) (h7 : ∀ j, M'.1 7 i j = M.1 7 i j) : gTa i M' k o := ⟨fun a b ha hb => (h6 _).trans (h.1 a b ha hb), fun a ha => (h7 _).trans (h.2 a ha)⟩
theorem g_fillK {nS d i : Nat} {M : aM} {k o : Nat} (hg : gC i M k o) (ht : gTa i M k o) : aC nS (d + 2) 55 [vR 5 i] M (fun v M' => v = none ∧ fr (PGk i) M M' ∧ M'.1 5 i 2 = Int32.ofNat (kc k o) ∧ (∀ a, a < o → M'.1 8 i a = Int32.ofNat (kn k o a)) ∧ ∀ c, c < 8 → M'.1 9 i c = Int32.ofNat (ksf k o c o)) (fun _ _ => False) := by
  obtain ⟨o2, o8, k3⟩ := gP_o hg.1
  refine aC_mk rfl rfl ?_
  intro K hK _
  have ho : ∀ {M1 : aM}, fr (PGk i) M M1 → M1.1 5 i 1 = Int32.ofNat o := fun hf => (hf.1 5 i 1 rfl).trans hg.2.2
  have hta : ∀ {M1 : aM}, fr (PGk i) M M1 → gTa i M1 k o := fun hf => gTa_fr ht (fun j => hf.1 6 i j rfl) (fun j => hf.1 7 i j rfl)
  have sz : ∀ (m t : Nat) (M1 : aM) (x2 : Option aV), o - t = m → t ≤ o → fr (PGk i) M M1 → M1.1 5 i 2 = Int32.ofNat (kc k o) → (∀ a, a < o → M1.1 8 i a = Int32.ofNat (kn k o a)) → (∀ c, c < 8 → M1.1 9 i c = Int32.ofNat (ksf k o c t)) → K 106 [some (vR 5 i), some (vI (Int32.ofNat t)), x2] [] M1 := by
    intro m
    induction m with
    | zero =>
      intro t M1 x2 hm hto hf hn hk8 hs
      refine hK _ _ _ _ (hK _ _ _ _ (hK _ _ _ _ (hK _ _ _ _ ⟨fun h => ?_, fun h => ?_⟩)))
      · exact hK _ _ _ _ ⟨rfl, hf, hn, hk8, fun c hc => by rw [hs c hc, show t = o by omega]⟩
      · exact absurd (x_nge (x := t) rfl (ho hf) (by omega) (by omega) h) (by omega)
    | succ m ih =>
      intro t M1 x2 hm hto hf hn hk8 hs
      have hl := kn_lt hg.1 (show t < o by omega)
      refine hK _ _ _ _ (hK _ _ _ _ (hK _ _ _ _ (hK _ _ _ _ ⟨fun h => ?_, fun h => ?_⟩)))
      · exact absurd (x_ge (x := t) rfl (ho hf) (by omega) (by omega) h) (by omega)
      · refine hK _ _ _ _ (hK _ _ _ _ (hK _ _ _ _ (hK _ _ _ _ (hK _ _ _ _ (hK _ _ _ _ ⟨_, g_at8 rfl (show t < 8 by omega), rfl, fun v123 M123 g123 => ?_⟩)))))
        obtain ⟨rfl, rfl⟩ := g123
        refine hK _ _ _ _ (hK _ _ _ _ ⟨_, g_add9 (hk8 t (by omega)) hl, rfl, fun v127 M127 g127 => ?_⟩)
        obtain ⟨rfl, rfl⟩ := g127
        refine hK _ _ _ _ (hK _ _ _ _ ?_)
        rw [hI_s]
        refine ih (t + 1) _ x2 (by omega) (by omega) (fr_p hf PGk_9) ((x_pn (fun z => absurd z.1 (by decide))).trans hn) (fun a ha => (x_pn (fun z => absurd z.1 (by decide))).trans (hk8 a ha)) (fun c hc => ?_)
        by_cases he : c = kn k o t
        · rw [he, x_pe, hs _ hl]
          exact x_bif rfl _
        · rw [x_pn (fun z => he z.2.2), hs c hc]
          exact x_bin (fun z => he z.symm) _
  have inn : ∀ (t n : Nat) (f : Nat → Nat), t < o → n ≤ 8 → (∀ (M1 : aM) (x2 : Option aV), fr (PGk i) M M1 → M1.1 5 i 2 = Int32.ofNat n → (∀ c, c < 8 → M1.1 9 i c = 0) → (∀ j, j < 8 → M1.1 8 i j = kcd ((kfi k o t n f o) j)) → K 88 [some (vR 5 i), some (vI (Int32.ofNat t)), x2] [] M1) → ∀ (m c : Nat) (M1 : aM), o - c = m → c ≤ o → fr (PGk i) M M1 → M1.1 5 i 2 = Int32.ofNat n → (∀ c, c < 8 → M1.1 9 i c = 0) → (∀ j, j < 8 → M1.1 8 i j = kcd ((kfi k o t n f c) j)) → K 48 [some (vR 5 i), some (vI (Int32.ofNat t)), some (vI (Int32.ofNat c))] [] M1 := by
    intro t n f hto hn8 out m
    induction m with
    | zero =>
      intro c M1 hm hc hf hn h9 hs
      refine hK _ _ _ _ (hK _ _ _ _ (hK _ _ _ _ (hK _ _ _ _ ⟨fun h => ?_, fun h => ?_⟩)))
      · exact out M1 _ hf hn h9 (fun j hj => by rw [hs j hj, show c = o by omega])
      · exact absurd (x_nge (x := c) rfl (ho hf) (by omega) (by omega) h) (by omega)
    | succ m ih =>
      intro c M1 hm hc hf hn h9 hs
      have hco : c < o := by omega
      have r1 := rt_lt hg.1 hco hto
      have r2 := ag_lt hg.1 hco
      have r3 := rt_lt hg.1 r1 r2
      refine hK _ _ _ _ (hK _ _ _ _ (hK _ _ _ _ (hK _ _ _ _ ⟨fun h => ?_, fun h => ?_⟩)))
      · exact absurd (x_ge (x := c) rfl (ho hf) (by omega) (by omega) h) (by omega)
      · refine hK _ _ _ _ (hK _ _ _ _ (hK _ _ _ _ (hK _ _ _ _ (hK _ _ _ _ (hK _ _ _ _ (hK _ _ _ _ ⟨_, g_ctimes hg.1 (hta hf) rfl rfl hco hto, rfl, fun v64 M64 g64 => ?_⟩))))))
        obtain ⟨rfl, rfl⟩ := g64
        refine hK _ _ _ _ (hK _ _ _ _ (hK _ _ _ _ ⟨_, g_cagainst hg.1 (hta hf) rfl hco, rfl, fun v69 M69 g69 => ?_⟩))
        obtain ⟨rfl, rfl⟩ := g69
        refine hK _ _ _ _ ⟨_, g_ctimes hg.1 (hta hf) rfl rfl r1 r2, rfl, fun v72 M72 g72 => ?_⟩
        obtain ⟨rfl, rfl⟩ := g72
        refine hK _ _ _ _ (hK _ _ _ _ (hK _ _ _ _ ⟨_, g_put8 rfl (show rt k o (rt k o c t) (ag k o c) < 8 by omega), rfl, fun v79 M79 g79 => ?_⟩))
        obtain ⟨rfl, rfl⟩ := g79
        refine hK _ _ _ _ (hK _ _ _ _ ?_)
        rw [hI_s]
        refine ih (c + 1) _ (by omega) (by omega) (fr_p hf PGk_8) ((x_pn (fun z => absurd z.1 (by decide))).trans hn) (fun c2 hc2 => (x_pn (fun z => absurd z.1 (by decide))).trans (h9 c2 hc2)) (fun j hj => ?_)
        show _ = kcd (bif Nat.beq j (rt k o (rt k o c t) (ag k o c)) then n else kfi k o t n f c j)
        by_cases he : j = rt k o (rt k o c t) (ag k o c)
        · rw [← he, Nat.beq_refl, cond_true, x_pe, hn]
          exact (kcd_n (by omega)).symm
        · rw [x_pn (fun z => he z.2.2), hs j hj]
          cases hb : Nat.beq j (rt k o (rt k o c t) (ag k o c)) with
          | true => exact absurd (Nat.eq_of_beq_eq_true hb) he
          | false => rfl
  have lp : ∀ (m t : Nat) (M1 : aM) (x2 : Option aV), o - t = m → t ≤ o → fr (PGk i) M M1 → M1.1 5 i 2 = Int32.ofNat (kfo k o t).1 → (∀ c, c < 8 → M1.1 9 i c = 0) → (∀ j, j < 8 → M1.1 8 i j = kcd (((kfo k o t).2) j)) → K 23 [some (vR 5 i), some (vI (Int32.ofNat t)), x2] [] M1 := by
    intro m
    induction m with
    | zero =>
      intro t M1 x2 hm hto hf hn h9 hs
      have hte : t = o := by omega
      refine hK _ _ _ _ (hK _ _ _ _ (hK _ _ _ _ (hK _ _ _ _ ⟨fun h => ?_, fun h => ?_⟩)))
      · refine hK _ _ _ _ (hK _ _ _ _ ?_)
        refine sz _ 0 M1 x2 rfl (Nat.zero_le _) hf (by rw [hn, hte]; rfl) (fun a ha => ?_) (fun c hc => h9 c hc)
        rw [hs a (by omega), hte]
        exact kcd_n (by have := kn_lt hg.1 ha; show kn k o a ≤ 98; omega)
      · exact absurd (x_nge (x := t) rfl (ho hf) (by omega) (by omega) h) (by omega)
    | succ m ih =>
      intro t M1 x2 hm hto hf hn h9 hs
      obtain ⟨v1, v2⟩ := kfo_v (k := k) (o := o) t (by omega)
      have e9 : kfo k o (t + 1) = bif Nat.beq ((kfo k o t).2 t) 99 then ((kfo k o t).1 + 1, kfi k o t (kfo k o t).1 (kfo k o t).2 o) else ((kfo k o t).1, (kfo k o t).2) := rfl
      refine hK _ _ _ _ (hK _ _ _ _ (hK _ _ _ _ (hK _ _ _ _ ⟨fun h => ?_, fun h => ?_⟩)))
      · exact absurd (x_ge (x := t) rfl (ho hf) (by omega) (by omega) h) (by omega)
      · refine hK _ _ _ _ (hK _ _ _ _ (hK _ _ _ _ (hK _ _ _ _ ⟨_, g_at8 rfl (show t < 8 by omega), rfl, fun v36 M36 g36 => ?_⟩)))
        obtain ⟨rfl, rfl⟩ := g36
        refine hK _ _ _ _ (hK _ _ _ _ ⟨fun h => ?_, fun h => ?_⟩)
        · have h99 : (kfo k o t).2 t = 99 := (kcd_m (v2 t)).mp ((hs t (by omega)).symm.trans h)
          rw [h99] at e9
          refine hK _ _ _ _ (hK _ _ _ _ ?_)
          refine inn t (kfo k o t).1 (kfo k o t).2 (by omega) (by omega) (fun M2 x2 f2 n2 s9 s2 => ?_) _ 0 M1 rfl (Nat.zero_le _) hf hn h9 hs
          refine hK _ _ _ _ (hK _ _ _ _ (hK _ _ _ _ (hK _ _ _ _ (hK _ _ _ _ (hK _ _ _ _ (hK _ _ _ _ (hK _ _ _ _ ?_)))))))
          rw [hI_s]
          refine ih (t + 1) _ x2 (by omega) (by omega) (fr_p f2 PGk_5) ?_ (fun c hc => (x_pn (fun z => absurd z.1 (by decide))).trans (s9 c hc)) (fun j hj => ?_)
          · rw [e9]
            exact x_pe.trans (x_s n2)
          · rw [e9]
            exact (x_pn (fun z => absurd z.1 (by decide))).trans (s2 j hj)
        · have h99 : ¬ (kfo k o t).2 t = 99 := fun z => h ((hs t (by omega)).trans ((kcd_m (v2 t)).mpr z))
          have hb : Nat.beq ((kfo k o t).2 t) 99 = false := by
            cases hb : Nat.beq ((kfo k o t).2 t) 99 with
            | true => exact absurd (Nat.eq_of_beq_eq_true hb) h99
            | false => rfl
          rw [hb] at e9
          refine hK _ _ _ _ (hK _ _ _ _ (hK _ _ _ _ ?_))
          rw [hI_s]
          exact ih (t + 1) M1 x2 (by omega) (by omega) hf (by rw [e9]; exact hn) h9 (fun j hj => by rw [e9]; exact hs j hj)
  refine hK _ _ _ _ (hK _ _ _ _ (hK _ _ _ _ (hK _ _ _ _ (hK _ _ _ _ (hK _ _ _ _ (hK _ _ _ _ ⟨_, g_fill9, rfl, fun v10 M10 g10 => ?_⟩))))))
  obtain ⟨rfl, f9, s9⟩ := g10
  have f9b : fr (PGk i) M M10 := fr_t (fr_p fr_r PGk_5) (fr_w f9 (fun k' i' j' z => by
    show (Nat.beq k' 9 && Nat.beq i' i) = false
    have z : ((Nat.beq k' 8 || (Nat.beq k' 9 || (Nat.beq k' 5 && Nat.beq j' 2))) && Nat.beq i' i) = false := z
    cases h1 : Nat.beq k' 9 with
    | false => rfl
    | true =>
      rw [h1, Bool.true_or, Bool.or_true, Bool.true_and] at z
      rw [z]
      rfl))
  refine hK _ _ _ _ (hK _ _ _ _ (hK _ _ _ _ (hK _ _ _ _ ⟨_, g_fill8, rfl, fun v18 M18 g18 => ?_⟩)))
  obtain ⟨rfl, f8, s8⟩ := g18
  have f8b : fr (PGk i) M M18 := fr_t f9b (fr_w f8 (fun k' i' j' z => by
    show (Nat.beq k' 8 && Nat.beq i' i) = false
    have z : ((Nat.beq k' 8 || (Nat.beq k' 9 || (Nat.beq k' 5 && Nat.beq j' 2))) && Nat.beq i' i) = false := z
    cases h1 : Nat.beq k' 8 with
    | false => rfl
    | true =>
      rw [h1, Bool.true_or, Bool.true_and] at z
      rw [z]
      rfl))
  refine hK _ _ _ _ (hK _ _ _ _ ?_)
  exact lp _ 0 M18 none rfl (Nat.zero_le _) f8b ((f8.1 5 i 2 rfl).trans ((f9.1 5 i 2 rfl).trans x_pe)) (fun c hc => (f8.1 9 i c rfl).trans (s9 c hc)) (fun j hj => s8 j hj)
theorem g_fillC {nS d i : Nat} {M : aM} {k o : Nat} (hg : gC i M k o) (ht : gTa i M k o) : aC nS (d + 2) 56 [vR 5 i] M (fun v M' => v = none ∧ fr (PGc i) M M' ∧ (∀ c, c < 8 → M'.1 10 i c = Int32.ofNat (cmo k o c o)) ∧ ∀ c, c < 8 → M'.1 11 i c = Int32.ofNat (rso k o c o)) (fun _ _ => False) := by
  obtain ⟨o2, o8, k3⟩ := gP_o hg.1
  refine aC_mk rfl rfl ?_
  intro K hK _
  have ho : ∀ {M1 : aM}, fr (PGc i) M M1 → M1.1 5 i 1 = Int32.ofNat o := fun hf => (hf.1 5 i 1 rfl).trans hg.2.2
  have hta : ∀ {M1 : aM}, fr (PGc i) M M1 → gTa i M1 k o := fun hf => gTa_fr ht (fun j => hf.1 6 i j rfl) (fun j => hf.1 7 i j rfl)
  have inn : ∀ (a : Nat), a < o → (∀ (M1 : aM) (x2 x3 x4 : Option aV), fr (PGc i) M M1 → (∀ c, c < 8 → M1.1 10 i c = Int32.ofNat (cmo k o c (a + 1))) → (∀ c, c < 8 → M1.1 11 i c = Int32.ofNat (rso k o c (a + 1))) → K 94 [some (vR 5 i), some (vI (Int32.ofNat a)), x2, x3, x4] [] M1) → ∀ (m b : Nat) (M1 : aM) (x3 x4 : Option aV), o - b = m → b ≤ o → fr (PGc i) M M1 → (∀ c, c < 8 → M1.1 10 i c = Int32.ofNat (cmi k o c a (cmo k o c a) b)) → (∀ c, c < 8 → M1.1 11 i c = Int32.ofNat (rso k o c (a + 1))) → K 42 [some (vR 5 i), some (vI (Int32.ofNat a)), some (vI (Int32.ofNat b)), x3, x4] [] M1 := by
    intro a ha out m
    induction m with
    | zero =>
      intro b M1 x3 x4 hm hb hf h1 h2
      refine hK _ _ _ _ (hK _ _ _ _ (hK _ _ _ _ (hK _ _ _ _ ⟨fun h => ?_, fun h => ?_⟩)))
      · exact out M1 _ _ _ hf (fun c hc => by rw [h1 c hc, show b = o by omega]; rfl) h2
      · exact absurd (x_nge (x := b) rfl (ho hf) (by omega) (by omega) h) (by omega)
    | succ m ih =>
      intro b M1 x3 x4 hm hb hf h1 h2
      have hbo : b < o := by omega
      have r1 := rt_lt hg.1 ha hbo
      have r2 := rt_lt hg.1 (ag_lt hg.1 ha) (ag_lt hg.1 hbo)
      have r3 := rt_lt hg.1 r1 r2
      refine hK _ _ _ _ (hK _ _ _ _ (hK _ _ _ _ (hK _ _ _ _ ⟨fun h => ?_, fun h => ?_⟩)))
      · exact absurd (x_ge (x := b) rfl (ho hf) (by omega) (by omega) h) (by omega)
      · refine hK _ _ _ _ (hK _ _ _ _ (hK _ _ _ _ (hK _ _ _ _ ⟨_, g_ctimes hg.1 (hta hf) rfl rfl ha hbo, rfl, fun v53 M53 g53 => ?_⟩)))
        obtain ⟨rfl, rfl⟩ := g53
        refine hK _ _ _ _ (hK _ _ _ _ (hK _ _ _ _ (hK _ _ _ _ (hK _ _ _ _ ⟨_, g_cagainst hg.1 (hta hf) rfl ha, rfl, fun v60 M60 g60 => ?_⟩))))
        obtain ⟨rfl, rfl⟩ := g60
        refine hK _ _ _ _ (hK _ _ _ _ (hK _ _ _ _ ⟨_, g_cagainst hg.1 (hta hf) rfl hbo, rfl, fun v65 M65 g65 => ?_⟩))
        obtain ⟨rfl, rfl⟩ := g65
        refine hK _ _ _ _ ⟨_, g_ctimes hg.1 (hta hf) rfl rfl (ag_lt hg.1 ha) (ag_lt hg.1 hbo), rfl, fun v68 M68 g68 => ?_⟩
        obtain ⟨rfl, rfl⟩ := g68
        refine hK _ _ _ _ (hK _ _ _ _ (hK _ _ _ _ (hK _ _ _ _ (hK _ _ _ _ (hK _ _ _ _ (hK _ _ _ _ ⟨_, g_ctimes hg.1 (hta hf) rfl rfl r1 r2, rfl, fun v81 M81 g81 => ?_⟩))))))
        obtain ⟨rfl, rfl⟩ := g81
        refine hK _ _ _ _ (hK _ _ _ _ ⟨_, g_add10 rfl (show rt k o (rt k o a b) (rt k o (ag k o a) (ag k o b)) < 8 by omega), rfl, fun v85 M85 g85 => ?_⟩)
        obtain ⟨rfl, rfl⟩ := g85
        refine hK _ _ _ _ (hK _ _ _ _ ?_)
        rw [hI_s]
        refine ih (b + 1) _ _ _ (by omega) (by omega) (fr_p hf PGc_10) (fun c hc => ?_) (fun c hc => (x_pn (fun z => absurd z.1 (by decide))).trans (h2 c hc))
        by_cases he : c = rt k o (rt k o a b) (rt k o (ag k o a) (ag k o b))
        · rw [he, x_pe, h1 _ (by omega)]
          exact x_bif rfl _
        · rw [x_pn (fun z => he z.2.2), h1 c hc]
          exact x_bin (fun z => he z.symm) _
  have lp : ∀ (m a : Nat) (M1 : aM) (x2 x3 x4 : Option aV), o - a = m → a ≤ o → fr (PGc i) M M1 → (∀ c, c < 8 → M1.1 10 i c = Int32.ofNat (cmo k o c a)) → (∀ c, c < 8 → M1.1 11 i c = Int32.ofNat (rso k o c (a))) → K 18 [some (vR 5 i), some (vI (Int32.ofNat a)), x2, x3, x4] [] M1 := by
    intro m
    induction m with
    | zero =>
      intro a M1 x2 x3 x4 hm ha hf h1 h2
      refine hK _ _ _ _ (hK _ _ _ _ (hK _ _ _ _ (hK _ _ _ _ ⟨fun h => ?_, fun h => ?_⟩)))
      · exact hK _ _ _ _ ⟨rfl, hf, fun c hc => by rw [h1 c hc, show a = o by omega], fun c hc => by rw [h2 c hc, show a = o by omega]⟩
      · exact absurd (x_nge (x := a) rfl (ho hf) (by omega) (by omega) h) (by omega)
    | succ m ih =>
      intro a M1 x2 x3 x4 hm ha hf h1 h2
      have hao : a < o := by omega
      have r1 := rt_lt hg.1 hao hao
      refine hK _ _ _ _ (hK _ _ _ _ (hK _ _ _ _ (hK _ _ _ _ ⟨fun h => ?_, fun h => ?_⟩)))
      · exact absurd (x_ge (x := a) rfl (ho hf) (by omega) (by omega) h) (by omega)
      · refine hK _ _ _ _ (hK _ _ _ _ (hK _ _ _ _ (hK _ _ _ _ (hK _ _ _ _ (hK _ _ _ _ ⟨_, g_ctimes hg.1 (hta hf) rfl rfl hao hao, rfl, fun v33 M33 g33 => ?_⟩)))))
        obtain ⟨rfl, rfl⟩ := g33
        refine hK _ _ _ _ (hK _ _ _ _ ⟨_, g_add11 rfl (show rt k o a a < 8 by omega), rfl, fun v37 M37 g37 => ?_⟩)
        obtain ⟨rfl, rfl⟩ := g37
        refine hK _ _ _ _ (hK _ _ _ _ ?_)
        refine inn a hao (fun M2 x2 x3 x4 f2 s1 s2 => ?_) _ 0 _ x3 x4 rfl (Nat.zero_le _) (fr_p hf PGc_11) (fun c hc => (x_pn (fun z => absurd z.1 (by decide))).trans (h1 c hc)) (fun c hc => ?_)
        · refine hK _ _ _ _ (hK _ _ _ _ ?_)
          rw [hI_s]
          exact ih (a + 1) M2 x2 x3 x4 (by omega) (by omega) f2 s1 s2
        · by_cases he : c = rt k o a a
          · rw [he, x_pe, h2 _ (by omega)]
            exact x_bif rfl _
          · rw [x_pn (fun z => he z.2.2), h2 c hc]
            exact x_bin (fun z => he z.symm) _
  refine hK _ _ _ _ (hK _ _ _ _ (hK _ _ _ _ (hK _ _ _ _ ⟨_, g_fill10, rfl, fun v5 M5 g5 => ?_⟩)))
  obtain ⟨rfl, f9, s9⟩ := g5
  have f9b : fr (PGc i) M M5 := fr_w f9 (fun k' i' j' z => by
    show (Nat.beq k' 10 && Nat.beq i' i) = false
    have z : ((Nat.beq k' 10 || Nat.beq k' 11) && Nat.beq i' i) = false := z
    cases h1 : Nat.beq k' 10 with
    | false => rfl
    | true =>
      rw [h1, Bool.true_or, Bool.true_and] at z
      rw [z]
      rfl)
  refine hK _ _ _ _ (hK _ _ _ _ (hK _ _ _ _ (hK _ _ _ _ ⟨_, g_fill11, rfl, fun v13 M13 g13 => ?_⟩)))
  obtain ⟨rfl, f8, s8⟩ := g13
  have f8b : fr (PGc i) M M13 := fr_t f9b (fr_w f8 (fun k' i' j' z => by
    show (Nat.beq k' 11 && Nat.beq i' i) = false
    have z : ((Nat.beq k' 10 || Nat.beq k' 11) && Nat.beq i' i) = false := z
    cases h1 : Nat.beq k' 11 with
    | false => rfl
    | true =>
      rw [h1, Bool.or_true, Bool.true_and] at z
      rw [z]
      rfl))
  refine hK _ _ _ _ (hK _ _ _ _ ?_)
  exact lp _ 0 M13 none none none rfl (Nat.zero_le _) f8b (fun c hc => (f8.1 10 i c rfl).trans (s9 c hc)) (fun c hc => s8 c hc)
/-- the class's group, whole -/
def gF (i : Nat) (M : aM) (k o : Nat) : Prop := gC i M k o ∧ gTa i M k o ∧ M.1 5 i 2 = Int32.ofNat (kc k o) ∧ (∀ a, a < o → M.1 8 i a = Int32.ofNat (kn k o a)) ∧ (∀ c, c < 8 → M.1 9 i c = Int32.ofNat (ksf k o c o)) ∧ (∀ c, c < 8 → M.1 10 i c = Int32.ofNat (cmo k o c o)) ∧ ∀ c, c < 8 → M.1 11 i c = Int32.ofNat (rso k o c o)
def PGa (i : Nat) : xF := fun k i' _ => (Nat.ble 5 k && Nat.ble k 11) && Nat.beq i' i
theorem gF_fr {i : Nat} {M M' : aM} {k o : Nat} (h : gF i M k o) (hc : ∀ q j, 5 ≤ q → q ≤ 11 → M'.1 q i j = M.1 q i j) : gF i M' k o := by
  have e : ∀ q j, Nat.ble 5 q = true → Nat.ble q 11 = true → M'.1 q i j = M.1 q i j := fun q j h1 h2 => hc q j (Nat.le_of_ble_eq_true h1) (Nat.le_of_ble_eq_true h2)
  exact ⟨⟨h.1.1, (e 5 0 rfl rfl).trans h.1.2.1, (e 5 1 rfl rfl).trans h.1.2.2⟩, gTa_fr h.2.1 (fun j => e 6 j rfl rfl) (fun j => e 7 j rfl rfl), (e 5 2 rfl rfl).trans h.2.2.1, fun a ha => (e 8 a rfl rfl).trans (h.2.2.2.1 a ha), fun a ha => (e 9 a rfl rfl).trans (h.2.2.2.2.1 a ha), fun a ha => (e 10 a rfl rfl).trans (h.2.2.2.2.2.1 a ha), fun a ha => (e 11 a rfl rfl).trans (h.2.2.2.2.2.2 a ha)⟩
theorem PGa_w {P : xF} {i : Nat} {A B : aM} (h : fr P A B) (hP : ∀ k i' j, P k i' j = true → Nat.ble 5 k = true ∧ Nat.ble k 11 = true ∧ i' = i) : fr (PGa i) A B := fr_w h (fun k i' j z => by
  cases hp : P k i' j with
  | false => rfl
  | true =>
    obtain ⟨a, b, c⟩ := hP k i' j hp
    have z : ((Nat.ble 5 k && Nat.ble k 11) && Nat.beq i' i) = false := z
    rw [a, b, c, Nat.beq_refl] at z
    cases z)
theorem PGp_a {i : Nat} {A B : aM} (h : fr (PGp i) A B) : fr (PGa i) A B := PGa_w h (fun k i' j z => by
  have z : ((Nat.beq k 6 || Nat.beq k 7) && Nat.beq i' i) = true := z
  rw [Bool.and_eq_true, Bool.or_eq_true] at z
  refine ⟨?_, ?_, Nat.eq_of_beq_eq_true z.2⟩ <;> rcases z.1 with q | q <;> rw [Nat.eq_of_beq_eq_true q] <;> rfl)
theorem PGc_a {i : Nat} {A B : aM} (h : fr (PGc i) A B) : fr (PGa i) A B := PGa_w h (fun k i' j z => by
  have z : ((Nat.beq k 10 || Nat.beq k 11) && Nat.beq i' i) = true := z
  rw [Bool.and_eq_true, Bool.or_eq_true] at z
  refine ⟨?_, ?_, Nat.eq_of_beq_eq_true z.2⟩ <;> rcases z.1 with q | q <;> rw [Nat.eq_of_beq_eq_true q] <;> rfl)
theorem PGk_a {i : Nat} {A B : aM} (h : fr (PGk i) A B) : fr (PGa i) A B := PGa_w h (fun k i' j z => by
  have z : ((Nat.beq k 8 || (Nat.beq k 9 || (Nat.beq k 5 && Nat.beq j 2))) && Nat.beq i' i) = true := z
  rw [Bool.and_eq_true, Bool.or_eq_true, Bool.or_eq_true, Bool.and_eq_true] at z
  refine ⟨?_, ?_, Nat.eq_of_beq_eq_true z.2⟩ <;> rcases z.1 with q | q | q <;> first | (rw [Nat.eq_of_beq_eq_true q]; rfl) | (rw [Nat.eq_of_beq_eq_true q.1]; rfl))
theorem PGa_5 {i j : Nat} : PGa i 5 i j = true := x_bt rfl
theorem g_become {nS d i : Nat} {M : aM} {k o k' o' : Nat} {x y : Int32} (hi : i < 3) (hq : (k', o') ∈ gP) (hx : x = Int32.ofNat k') (hy : y = Int32.ofNat o') (hf : gF i M k o) : aC nS (d + 3) 52 [vR 5 i, vI x, vI y] M (fun v M' => v = none ∧ fr (PGa i) M M' ∧ gF i M' k' o') (fun _ _ => False) := by
  obtain ⟨o2, o8, k3⟩ := gP_o hf.1.1
  obtain ⟨o2', o8', k3'⟩ := gP_o hq
  subst hx
  subst hy
  refine aC_mk rfl rfl ?_
  intro K hK _
  have new : K 17 [some (vR 5 i), some (vI (Int32.ofNat k')), some (vI (Int32.ofNat o'))] [] M := by
    refine hK _ _ _ _ (hK _ _ _ _ (hK _ _ _ _ (hK _ _ _ _ (hK _ _ _ _ (hK _ _ _ _ (hK _ _ _ _ (hK _ _ _ _ ⟨_, g_fillP hi ⟨hq, (x_pn (fun z => absurd z.2.2 (by decide))).trans x_pe, x_pe⟩, rfl, fun v28 M28 g28 => ?_⟩)))))))
    obtain ⟨rfl, f1, t1⟩ := g28
    have f1a : fr (PGa i) M M28 := fr_t (fr_p (fr_p fr_r PGa_5) PGa_5) (PGp_a f1)
    have c1 : gC i M28 k' o' := ⟨hq, (f1.1 5 i 0 rfl).trans ((x_pn (fun z => absurd z.2.2 (by decide))).trans x_pe), (f1.1 5 i 1 rfl).trans x_pe⟩
    refine hK _ _ _ _ (hK _ _ _ _ ⟨_, g_fillK c1 t1, rfl, fun v32 M32 g32 => ?_⟩)
    obtain ⟨rfl, f2, s2, s3, s4⟩ := g32
    have c2 : gC i M32 k' o' := ⟨hq, (f2.1 5 i 0 rfl).trans c1.2.1, (f2.1 5 i 1 rfl).trans c1.2.2⟩
    have t2 : gTa i M32 k' o' := gTa_fr t1 (fun j => f2.1 6 i j rfl) (fun j => f2.1 7 i j rfl)
    refine hK _ _ _ _ (hK _ _ _ _ ⟨_, g_fillC c2 t2, rfl, fun v36 M36 g36 => ?_⟩)
    obtain ⟨rfl, f3, s5, s6⟩ := g36
    have c3 : gC i M36 k' o' := ⟨hq, (f3.1 5 i 0 rfl).trans c2.2.1, (f3.1 5 i 1 rfl).trans c2.2.2⟩
    have t3 : gTa i M36 k' o' := gTa_fr t2 (fun j => f3.1 6 i j rfl) (fun j => f3.1 7 i j rfl)
    exact hK _ _ _ _ ⟨rfl, fr_t f1a (fr_t (PGk_a f2) (PGc_a f3)), c3, t3, (f3.1 5 i 2 rfl).trans s2, fun a ha => (f3.1 8 i a rfl).trans (s3 a ha), fun c hc => (f3.1 9 i c rfl).trans (s4 c hc), s5, s6⟩
  refine hK _ _ _ _ (hK _ _ _ _ (hK _ _ _ _ (hK _ _ _ _ ⟨fun h => ?_, fun h1 => ?_⟩)))
  · exact new
  · refine hK _ _ _ _ (hK _ _ _ _ (hK _ _ _ _ (hK _ _ _ _ ⟨fun h => ?_, fun h2 => ?_⟩)))
    · exact new
    · exact hK _ _ _ _ ⟨rfl, fr_r, by
        have e1 : k = k' := x_eq hf.1.2.1 rfl (by omega) (by omega) h1
        have e2 : o = o' := x_eq hf.1.2.2 rfl (by omega) (by omega) h2
        rw [← e1, ← e2]
        exact hf⟩
