theorem kn_lk {k o a b : Nat} (hq : (k, o) ∈ gP) (ha : a < o) (hb : b < o) (h : kn k o a = kn k o b) : lk k o a = lk k o b := by
  have h9 := gT_all (P := fun k o a b => !(Nat.beq (kn k o a) (kn k o b)) || Nat.beq (lk k o a) (lk k o b)) (by decide +kernel) hq ha hb
  rw [x_beq h, Bool.not_true, Bool.false_or] at h9
  exact Nat.eq_of_beq_eq_true h9
theorem cmo_lk {k o a : Nat} (hq : (k, o) ∈ gP) (ha : a < o) : cmo k o a o = cmo k o (lk k o a) o := Nat.eq_of_beq_eq_true (gA_all (P := fun k o a => Nat.beq (cmo k o a o) (cmo k o (lk k o a) o)) (by decide +kernel) hq ha)
theorem rso_lk {k o a : Nat} (hq : (k, o) ∈ gP) (ha : a < o) : rso k o a o = rso k o (lk k o a) o := Nat.eq_of_beq_eq_true (gA_all (P := fun k o a => Nat.beq (rso k o a o) (rso k o (lk k o a) o)) (by decide +kernel) hq ha)
theorem cF_W {e : xB} (h : kW e) : cF e.1.1 e.1.2 (bdW e) := fun a b ha hb he => by
  show (e.2.2.1 a).toInt64 = (e.2.2.1 b).toInt64
  rw [h a b ha hb he]
theorem cF_C {e : xB} (hq : e.1 ∈ gP) : cF e.1.1 e.1.2 (bdC e) := fun a b ha hb he => by
  show (Int32.ofNat (cmo e.1.1 e.1.2 a e.1.2)).toInt64 = (Int32.ofNat (cmo e.1.1 e.1.2 b e.1.2)).toInt64
  rw [cmo_lk hq ha, cmo_lk hq hb, kn_lk hq ha hb he]
theorem cF_R {e : xB} (hq : e.1 ∈ gP) : cF e.1.1 e.1.2 (bdR e) := fun a b ha hb he => by
  show (Int32.ofNat (rso e.1.1 e.1.2 a e.1.2)).toInt64 = (Int32.ofNat (rso e.1.1 e.1.2 b e.1.2)).toInt64
  rw [rso_lk hq ha, rso_lk hq hb, kn_lk hq ha hb he]
/-- a body of s squares, h handles, c crosses -/
def bdv (e : xB) (s h c : Nat) : Int64 := mulN e.1.1 e.1.2 (mulN e.1.1 e.1.2 (mulN e.1.1 e.1.2 d0 (bdW e) s) (bdC e) h) (bdR e) c 0
theorem bdv_r {e : xB} {s h c : Nat} (hq : e.1 ∈ gP) (hk : kW e) : mulN e.1.1 e.1.2 (mulN e.1.1 e.1.2 (mulN e.1.1 e.1.2 d0 (bdC e) h) (bdR e) c) (bdW e) s 0 = bdv e s h c := by
  obtain ⟨o2, o8, -⟩ := gP_o (k := e.1.1) (o := e.1.2) hq
  have h0 : 0 < e.1.2 := by omega
  have W := cF_W hk
  have C := cF_C hq
  have R := cF_R hq
  unfold bdv
  rw [mulN_c hq R W s c 0 h0]
  exact mulN_e hq (fun a ha => mulN_c hq C W s h a ha) c 0 h0
/-- a number from 0 to m -/
def okM (m : Nat) (x : Int32) : Prop := ∃ n, n ≤ m ∧ x = Int32.ofNat n
theorem okM_i {m : Nat} {x : Int32} (hm : m < 1000) (h : 0 ≤ x ∧ x ≤ Int32.ofNat m) : okM m x := by
  obtain ⟨n, hn, rfl⟩ := hI_of h.1
  exact ⟨n, (hI_le hn (by omega)).mp h.2, rfl⟩
theorem okM_n {m : Nat} {x : Int32} (hm : m < 1000) (h : ¬ (0 ≤ x ∧ x ≤ Int32.ofNat m)) : ¬ okM m x := by
  intro z
  obtain ⟨n, hn, rfl⟩ := z
  exact h ⟨(hI_le (a := 0) (by decide) (by omega)).mpr (Nat.zero_le _), (hI_le (by omega) (by omega)).mpr hn⟩
theorem c_bodyX {nS : Nat} {M : aM} {a1 a2 a3 : Int32} {e : xB} (hB : cB 0 M e) : aC nS 60 171 [vR 0 0, vI a1, vI a2, vI a3] M (fun v M' => (∃ s h c, s ≤ 6 ∧ h ≤ 2 ∧ c ≤ 2 ∧ a1 = Int32.ofNat s ∧ a2 = Int32.ofNat h ∧ a3 = Int32.ofNat c ∧ v = some (vL (bdv e s h c))) ∧ M'.1 = M.1) (fun q M' => q = 0 ∧ ¬ (okM 6 a1 ∧ okM 2 a2 ∧ okM 2 a3) ∧ M' = M) := by
  refine aC_mk rfl rfl ?_
  intro K hK _
  have bad : ¬ (okM 6 a1 ∧ okM 2 a2 ∧ okM 2 a3) → K 28 [some (vR 0 0), some (vI a1), some (vI a2), some (vI a3)] [] M := fun no => hK _ _ _ _ (⟨rfl, rfl, no, rfl⟩)
  have lt0 : ∀ {x : Int32} {m : Nat}, m < 1000 → x < 0 → ¬ okM m x := fun hm h z => okM_n hm (fun q => absurd q.1 (x_nle h)) z
  have gt0 : ∀ {x : Int32} {m : Nat}, m < 1000 → Int32.ofNat m < x → ¬ okM m x := fun hm h z => okM_n hm (fun q => absurd q.2 (x_nle h)) z
  refine hK _ _ _ _ (hK _ _ _ _ (⟨fun h9 => ?_, fun h9 => ?_⟩))
  · exact bad (fun z => lt0 (by decide) h9 z.1)
  have p1 := h9
  refine hK _ _ _ _ (hK _ _ _ _ (hK _ _ _ _ (⟨fun h9 => ?_, fun h9 => ?_⟩)))
  · exact bad (fun z => gt0 (m := 6) (by decide) h9 z.1)
  obtain ⟨s, hs, rfl⟩ := okM_i (m := 6) (by decide) ⟨x_gen p1, x_len h9⟩
  refine hK _ _ _ _ (hK _ _ _ _ (⟨fun h9 => ?_, fun h9 => ?_⟩))
  · exact bad (fun z => lt0 (by decide) h9 z.2.1)
  have p2 := h9
  refine hK _ _ _ _ (hK _ _ _ _ (hK _ _ _ _ (⟨fun h9 => ?_, fun h9 => ?_⟩)))
  · exact bad (fun z => gt0 (m := 2) (by decide) h9 z.2.1)
  obtain ⟨h, hh, rfl⟩ := okM_i (m := 2) (by decide) ⟨x_gen p2, x_len h9⟩
  refine hK _ _ _ _ (hK _ _ _ _ (⟨fun h9 => ?_, fun h9 => ?_⟩))
  · exact bad (fun z => lt0 (by decide) h9 z.2.2)
  have p3 := h9
  refine hK _ _ _ _ (hK _ _ _ _ (hK _ _ _ _ (⟨fun h9 => ?_, fun h9 => ?_⟩)))
  · obtain ⟨c, hc, rfl⟩ := okM_i (m := 2) (by decide) ⟨x_gen p3, h9⟩
    refine hK _ _ _ _ (hK _ _ _ _ (hK _ _ _ _ (hK _ _ _ _ (hK _ _ _ _ (hK _ _ _ _ (⟨_, l_ofBody (d := 55) hB (show s < 1000 by omega) (show h < 1000 by omega) (show c < 1000 by omega), rfl, fun v46 M46 g46 => ?_⟩))))))
    obtain ⟨rfl, f1⟩ := g46
    exact hK _ _ _ _ (⟨⟨s, h, c, hs, hh, hc, rfl, rfl, rfl, rfl⟩, f1⟩)
  · exact bad (fun z => okM_n (m := 2) (by decide) (fun q => h9 q.2) z.2.2)
theorem r_bodyX {nS : Nat} {M : aM} {a1 a2 a3 : Int32} {e : xB} (hB : rB 37 M e) (hk : kW e) : aC nS 60 251 [vR 36 0, vI a1, vI a2, vI a3] M (fun v M' => (¬ (okM 6 a1 ∧ okM 2 a2 ∧ okM 2 a3) ∧ v = some (vL 0) ∧ M'.1 36 0 0 = 1) ∨ (∃ s h c, s ≤ 6 ∧ h ≤ 2 ∧ c ≤ 2 ∧ a1 = Int32.ofNat s ∧ a2 = Int32.ofNat h ∧ a3 = Int32.ofNat c ∧ v = some (vL (bdv e s h c)) ∧ M'.1 36 0 0 = 0)) (fun _ _ => False) := by
  have hB0 : rB 37 (a_pI M 36 0 0 0) e := rB_p hB
  refine aC_mk rfl rfl ?_
  intro K hK _
  have bad : ¬ (okM 6 a1 ∧ okM 2 a2 ∧ okM 2 a3) → K 29 [some (vR 36 0), some (vI a1), some (vI a2), some (vI a3), none] [vR 36 0] M := by
    intro no
    refine hK _ _ _ _ (hK _ _ _ _ (hK _ _ _ _ (hK _ _ _ _ (hK _ _ _ _ (hK _ _ _ _ (⟨fun h9 => ?_, fun h9 => ?_⟩))))))
    · exact absurd h9 (by first | (rw [x_pe]; decide) | rw [x_pe])
    · exact hK _ _ _ _ (hK _ _ _ _ (Or.inl ⟨no, rfl, x_pe⟩))
  refine hK _ _ _ _ (hK _ _ _ _ (hK _ _ _ _ (hK _ _ _ _ (hK _ _ _ _ (⟨_, t_isIn (d := 58), rfl, fun v5 M5 g5 => ?_⟩)))))
  obtain ⟨rfl, rfl⟩ := g5
  by_cases q1 : 0 ≤ a1 ∧ a1 ≤ 6
  case neg =>
    rw [if_neg q1]
    refine hK _ _ _ _ (⟨fun q => ?_, fun q => ?_⟩)
    · exact bad (fun z => okM_n (m := 6) (by decide) q1 z.1)
    · exact absurd rfl q
  rw [if_pos q1]
  refine hK _ _ _ _ (⟨fun q => absurd q (by decide), fun _ => ?_⟩)
  refine hK _ _ _ _ (hK _ _ _ _ (hK _ _ _ _ (hK _ _ _ _ (⟨_, t_isIn (d := 58), rfl, fun v14 M14 g14 => ?_⟩))))
  obtain ⟨rfl, rfl⟩ := g14
  by_cases q2 : 0 ≤ a2 ∧ a2 ≤ 2
  case neg =>
    rw [if_neg q2]
    refine hK _ _ _ _ (⟨fun q => ?_, fun q => ?_⟩)
    · exact bad (fun z => okM_n (m := 2) (by decide) q2 z.2.1)
    · exact absurd rfl q
  rw [if_pos q2]
  refine hK _ _ _ _ (⟨fun q => absurd q (by decide), fun _ => ?_⟩)
  refine hK _ _ _ _ (hK _ _ _ _ (hK _ _ _ _ (hK _ _ _ _ (⟨_, t_isIn (d := 58), rfl, fun v23 M23 g23 => ?_⟩))))
  obtain ⟨rfl, rfl⟩ := g23
  by_cases q3 : 0 ≤ a3 ∧ a3 ≤ 2
  case neg =>
    rw [if_neg q3]
    refine hK _ _ _ _ (⟨fun q => ?_, fun q => ?_⟩)
    · exact absurd rfl q
    · exact bad (fun z => okM_n (m := 2) (by decide) q3 z.2.2)
  rw [if_pos q3]
  refine hK _ _ _ _ (⟨fun _ => ?_, fun q => absurd q (by decide)⟩)
  obtain ⟨s, hs, rfl⟩ := okM_i (m := 6) (by decide) q1
  obtain ⟨h, hh, rfl⟩ := okM_i (m := 2) (by decide) q2
  obtain ⟨c, hc, rfl⟩ := okM_i (m := 2) (by decide) q3
  have l3 : ∀ (m i : Nat) (y : Int32) (M1 : aM), s - i = m → i ≤ s → y = Int32.ofNat i → M1.1 = (a_pI M 36 0 0 0).1 → FZ 43 M1 (mulN e.1.1 e.1.2 (mulN e.1.1 e.1.2 (mulN e.1.1 e.1.2 d0 (bdC e) h) (bdR e) c) (bdW e) i) → K 93 [some (vR 36 0), some (vI (Int32.ofNat s)), some (vI (Int32.ofNat h)), some (vI (Int32.ofNat c)), some (vI y)] [] M1 := by
    intro m
    induction m with
    | zero =>
      intro i y M1 hm hi hy h1 hf
      subst hy
      refine hK _ _ _ _ (hK _ _ _ _ (hK _ _ _ _ (⟨fun h9 => ?_, fun h9 => ?_⟩)))
      · have ei : i = s := by omega
        rw [ei] at hf
        refine hK _ _ _ _ (hK _ _ _ _ (hK _ _ _ _ (hK _ _ _ _ (⟨x_vp (a := 0) rfl (by decide) (by decide), ?_⟩))))
        rw [x_cl (j := 0) (a := 0) rfl (by decide)]
        have hz := hf 0 (by decide)
        rw [Nat.zero_mul] at hz
        rw [hz, bdv_r hB.1 hk]
        exact hK _ _ _ _ (Or.inr ⟨s, h, c, hs, hh, hc, rfl, rfl, rfl, rfl, by rw [h1]; exact x_pe⟩)
      · exact absurd (x_nge (x := i) (y := s) rfl rfl (by omega) (by omega) h9) (by omega)
    | succ m ih =>
      intro i y M1 hm hi hy h1 hf
      subst hy
      refine hK _ _ _ _ (hK _ _ _ _ (hK _ _ _ _ (⟨fun h9 => ?_, fun h9 => ?_⟩)))
      · exact absurd (x_ge (x := i) (y := s) rfl rfl (by omega) (by omega) h9) (by omega)
      · refine hK _ _ _ _ (hK _ _ _ _ (hK _ _ _ _ (⟨_, r_foldsPart (d := 54) (w := 0) (rB_1 hB0 h1) (by decide) hf, rfl, fun v101 M101 g101 => ?_⟩)))
        obtain ⟨rfl, q1, q2⟩ := g101
        refine hK _ _ _ _ (hK _ _ _ _ (?_))
        exact ih (i + 1) _ _ (by omega) (by omega) hI_s (q1.trans h1) q2
  have l2 : ∀ (m i : Nat) (y : Int32) (M1 : aM), c - i = m → i ≤ c → y = Int32.ofNat i → M1.1 = (a_pI M 36 0 0 0).1 → FZ 43 M1 (mulN e.1.1 e.1.2 (mulN e.1.1 e.1.2 d0 (bdC e) h) (bdR e) i) → K 73 [some (vR 36 0), some (vI (Int32.ofNat s)), some (vI (Int32.ofNat h)), some (vI (Int32.ofNat c)), some (vI y)] [] M1 := by
    intro m
    induction m with
    | zero =>
      intro i y M1 hm hi hy h1 hf
      subst hy
      refine hK _ _ _ _ (hK _ _ _ _ (hK _ _ _ _ (⟨fun h9 => ?_, fun h9 => ?_⟩)))
      · have ei : i = c := by omega
        rw [ei] at hf
        refine hK _ _ _ _ (hK _ _ _ _ (?_))
        exact l3 _ 0 _ _ rfl (Nat.zero_le _) rfl h1 hf
      · exact absurd (x_nge (x := i) (y := c) rfl rfl (by omega) (by omega) h9) (by omega)
    | succ m ih =>
      intro i y M1 hm hi hy h1 hf
      subst hy
      refine hK _ _ _ _ (hK _ _ _ _ (hK _ _ _ _ (⟨fun h9 => ?_, fun h9 => ?_⟩)))
      · exact absurd (x_ge (x := i) (y := c) rfl rfl (by omega) (by omega) h9) (by omega)
      · refine hK _ _ _ _ (hK _ _ _ _ (hK _ _ _ _ (⟨_, r_foldsPart (d := 54) (w := 2) (rB_1 hB0 h1) (by decide) hf, rfl, fun v81 M81 g81 => ?_⟩)))
        obtain ⟨rfl, q1, q2⟩ := g81
        refine hK _ _ _ _ (hK _ _ _ _ (?_))
        exact ih (i + 1) _ _ (by omega) (by omega) hI_s (q1.trans h1) q2
  have l1 : ∀ (m i : Nat) (y : Int32) (M1 : aM), h - i = m → i ≤ h → y = Int32.ofNat i → M1.1 = (a_pI M 36 0 0 0).1 → FZ 43 M1 (mulN e.1.1 e.1.2 d0 (bdC e) i) → K 53 [some (vR 36 0), some (vI (Int32.ofNat s)), some (vI (Int32.ofNat h)), some (vI (Int32.ofNat c)), some (vI y)] [] M1 := by
    intro m
    induction m with
    | zero =>
      intro i y M1 hm hi hy h1 hf
      subst hy
      refine hK _ _ _ _ (hK _ _ _ _ (hK _ _ _ _ (⟨fun h9 => ?_, fun h9 => ?_⟩)))
      · have ei : i = h := by omega
        rw [ei] at hf
        refine hK _ _ _ _ (hK _ _ _ _ (?_))
        exact l2 _ 0 _ _ rfl (Nat.zero_le _) rfl h1 hf
      · exact absurd (x_nge (x := i) (y := h) rfl rfl (by omega) (by omega) h9) (by omega)
    | succ m ih =>
      intro i y M1 hm hi hy h1 hf
      subst hy
      refine hK _ _ _ _ (hK _ _ _ _ (hK _ _ _ _ (⟨fun h9 => ?_, fun h9 => ?_⟩)))
      · exact absurd (x_ge (x := i) (y := h) rfl rfl (by omega) (by omega) h9) (by omega)
      · refine hK _ _ _ _ (hK _ _ _ _ (hK _ _ _ _ (⟨_, r_foldsPart (d := 54) (w := 1) (rB_1 hB0 h1) (by decide) hf, rfl, fun v61 M61 g61 => ?_⟩)))
        obtain ⟨rfl, q1, q2⟩ := g61
        refine hK _ _ _ _ (hK _ _ _ _ (?_))
        exact ih (i + 1) _ _ (by omega) (by omega) hI_s (q1.trans h1) q2
  refine hK _ _ _ _ (hK _ _ _ _ (hK _ _ _ _ (hK _ _ _ _ (hK _ _ _ _ (⟨fun _ => ?_, fun h => absurd (by first | (rw [x_pe]; decide) | rw [x_pe]) h⟩)))))
  refine hK _ _ _ _ (hK _ _ _ _ (⟨_, r_folds0 (d := 58), rfl, fun v47 M47 g47 => ?_⟩))
  obtain ⟨rfl, f1, f2⟩ := g47
  refine hK _ _ _ _ (hK _ _ _ _ (?_))
  refine l1 _ 0 _ _ rfl (Nat.zero_le _) rfl f1 (fun t ht => ?_)
  have h8 := f2 t 0 ht (by decide)
  rw [Nat.add_zero] at h8
  rw [h8]
  show Fz0 t 0 = d0 t
  unfold Fz0 d0
  by_cases ht0 : t = 0
  · rw [if_pos ⟨ht0, rfl⟩, if_pos ht0]
  · rw [if_neg (fun z => ht0 z.1), if_neg ht0]
