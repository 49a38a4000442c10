/-- a square's weights -/
def gq (e : xB) (x y : Nat) : Nat → Int64 := fun t => (wi e (y * 4 + x) t).toInt64
/-- squares within, the worth outside, the ways of what is within -/
def mst (e : xB) (W : Nat → Nat → Bool) (y x : Nat) (s : Nat × Int64 × (Nat → Int64)) : Nat × Int64 × (Nat → Int64) := bif W x y then (s.1 + 1, s.2.1, conv e.1.1 e.1.2 s.2.2 (gq e x y)) else (s.1, s.2.1 * sl (gq e x y) e.1.2, s.2.2)
def mrow (e : xB) (W : Nat → Nat → Bool) (y : Nat) (s : Nat × Int64 × (Nat → Int64)) : Nat → Nat × Int64 × (Nat → Int64)
  | 0 => s
  | x + 1 => mst e W y x (mrow e W y s x)
def mall (e : xB) (W : Nat → Nat → Bool) : Nat → Nat × Int64 × (Nat → Int64)
  | 0 => (0, 1, d0)
  | y + 1 => mrow e W y (mall e W y) e.2.1.1
theorem mst_t {e : xB} {W : Nat → Nat → Bool} {y x : Nat} {s : Nat × Int64 × (Nat → Int64)} (h : W x y = true) : mst e W y x s = (s.1 + 1, s.2.1, conv e.1.1 e.1.2 s.2.2 (gq e x y)) := by
  unfold mst
  rw [h]
  rfl
theorem mst_f {e : xB} {W : Nat → Nat → Bool} {y x : Nat} {s : Nat × Int64 × (Nat → Int64)} (h : W x y = false) : mst e W y x s = (s.1, s.2.1 * sl (gq e x y) e.1.2, s.2.2) := by
  unfold mst
  rw [h]
  rfl
def mns (e : xB) (c : Nat × Nat) (l : List Nat) : Nat × Int64 × (Nat → Int64) := mall e (fun x y => rwi c x y l) e.2.1.2.1
def mkf (e : xB) (c : Nat × Nat) (l : List Nat) (a : Int32) (f : Nat → Int64) (t : Nat) : Int64 := if Int32.ofNat (kn e.1.1 e.1.2 (if rar c l < 0 then ag e.1.1 e.1.2 t else t)) = a then f t else 0
/-- what mean answers -/
def man (e : xB) (c : Nat × Nat) (l : List Nat) (a : Int32) : Int64 := if a = -1 then (Int32.ofNat (mns e c l).1).toInt64 else sl (mkf e c l a (mns e c l).2.2) e.1.2 * (mns e c l).2.1
def okK (e : xB) (a : Int32) : Prop := a = -1 ∨ ∃ q, q < kc e.1.1 e.1.2 ∧ a = Int32.ofNat q
theorem kc_b {k o : Nat} (hq : (k, o) ∈ gP) : 1 ≤ kc k o ∧ kc k o ≤ 8 := by
  have h := gP_all (P := fun k o => Nat.ble 1 (kc k o) && Nat.ble (kc k o) 8) (by decide +kernel) hq
  rw [Bool.and_eq_true] at h
  exact ⟨Nat.le_of_ble_eq_true h.1, Nat.le_of_ble_eq_true h.2⟩
theorem okK_r {k o : Nat} {a : Int32} (hq : (k, o) ∈ gP) : (0 ≤ a ∧ a ≤ Int32.ofNat (kc k o) - 1) ↔ ∃ q, q < kc k o ∧ a = Int32.ofNat q := by
  obtain ⟨k1, k8⟩ := kc_b hq
  have es : Int32.ofNat (kc k o) - 1 = Int32.ofNat (kc k o - 1) := x_sub (y := 1) k1 (by omega)
  rw [es]
  constructor
  · intro h
    obtain ⟨n, hn, rfl⟩ := hI_of h.1
    have h2 := (hI_le hn (by omega)).mp h.2
    exact ⟨n, by omega, rfl⟩
  · intro ⟨q, hq, e⟩
    rw [e]
    exact ⟨(hI_le (a := 0) (by decide) (by omega)).mpr (Nat.zero_le _), (hI_le (by omega) (by omega)).mpr (by omega)⟩
theorem okK_c {k o : Nat} {a : Int32} (hq : (k, o) ∈ gP) : (0 ≤ a ∧ a < Int32.ofNat (kc k o)) ↔ ∃ q, q < kc k o ∧ a = Int32.ofNat q := by
  obtain ⟨k1, k8⟩ := kc_b hq
  constructor
  · intro h
    obtain ⟨n, hn, rfl⟩ := hI_of h.1
    exact ⟨n, (hI_lt hn (by omega)).mp h.2, rfl⟩
  · intro ⟨q, hq, e⟩
    rw [e]
    exact ⟨(hI_le (a := 0) (by decide) (by omega)).mpr (Nat.zero_le _), (hI_lt (by omega) (by omega)).mpr hq⟩
/-- the reference's state between squares -/
def FSq (M : aM) (s : Nat × Int64 × (Nat → Int64)) (nn : Int32) (O : Int64) : Prop := (∃ F, FR 43 M F ∧ (fun c => F c 0) = s.2.2) ∧ nn = Int32.ofNat s.1 ∧ O = s.2.1
theorem r_meanX {nS n : Nat} {M : aM} {a1 : Int32} {e : xB} (hn : M.1 36 0 6 = Int32.ofNat n) (h4 : n ≤ 400) (hB : rB 37 M e) (hL : LL 37 M e) : aC nS 60 247 [vR 36 0, vI a1] M (fun v M' => (¬ okK e a1 ∧ v = some (vL 0) ∧ M'.1 36 0 0 = 1) ∨ (okK e a1 ∧ w_read (M.1 40 0) n e = none ∧ v = some (vL 0) ∧ M'.1 36 0 0 = 2) ∨ (okK e a1 ∧ (∃ c u, w_read (M.1 40 0) n e = some (c, u) ∧ ¬ (e.2.1.2.2 = 0 ∧ rsm e c u)) ∧ v = some (vL 0) ∧ M'.1 36 0 0 = 3) ∨ (okK e a1 ∧ ∃ c u, w_read (M.1 40 0) n e = some (c, u) ∧ e.2.1.2.2 = 0 ∧ rsm e c u ∧ v = some (vL (man e c u.2.2 a1)) ∧ M'.1 36 0 0 = 0)) (fun _ _ => False) := by
  obtain ⟨hor, o2, o8, hS, w1, w3, h1, h3, s2⟩ := rB_h hB
  have hg := rB_g hB
  refine aC_mk rfl rfl ?_
  intro K hK _
  have thr : ∀ (M2 : aM) (z : Int32), ¬ z ≤ 0 → ((fun v M' => (¬ okK e a1 ∧ v = some (vL 0) ∧ M'.1 36 0 0 = 1) ∨ (okK e a1 ∧ w_read (M.1 40 0) n e = none ∧ v = some (vL 0) ∧ M'.1 36 0 0 = 2) ∨ (okK e a1 ∧ (∃ c u, w_read (M.1 40 0) n e = some (c, u) ∧ ¬ (e.2.1.2.2 = 0 ∧ rsm e c u)) ∧ v = some (vL 0) ∧ M'.1 36 0 0 = 3) ∨ (okK e a1 ∧ ∃ c u, w_read (M.1 40 0) n e = some (c, u) ∧ e.2.1.2.2 = 0 ∧ rsm e c u ∧ v = some (vL (man e c u.2.2 a1)) ∧ M'.1 36 0 0 = 0)) : Option aV → aM → Prop) (some (vL 0)) (a_pI M2 36 0 0 z) → K 69 [some (vR 36 0), some (vI a1), none, none, none, none, none, none, none, none] [vI z, vR 36 0] M2 := by
    intro M2 z hz hp
    refine hK _ _ _ _ (hK _ _ _ _ (hK _ _ _ _ (hK _ _ _ _ (⟨fun h9 => ?_, fun h9 => ?_⟩))))
    · rw [x_pe] at h9
      exact absurd h9 hz
    · exact hK _ _ _ _ (hK _ _ _ _ (hp))
  have good : okK e a1 → ∀ (c : Nat × Nat) (u : xW) (M0 : aM), w_read (M.1 40 0) n e = some (c, u) → e.2.1.2.2 = 0 → rsm e c u → rB 37 M0 e → RWs M0 u → QV e c u M0 → K 81 [some (vR 36 0), some (vI a1), none, none, none, none, none, none, none, none] [] (a_pI M0 36 0 0 0) := by
    intro ok c u M0 r1 s0 hr B0 hs qv
    obtain ⟨⟨q0, q1, q2, q3, q4⟩, q5⟩ := qv s0
    have hl := w_read_len r1
    obtain ⟨MM, hMM⟩ : ∃ MM, MM = a_pI M0 36 0 0 0 := ⟨_, rfl⟩
    have BM : rB 37 MM e := by
      rw [hMM]
      exact rB_p B0
    obtain ⟨ho2, -, -, hS2, -⟩ := rB_h BM
    have gm := rB_g BM
    have n16 : MM.1 36 0 16 = Int32.ofNat u.2.2.length := by
      rw [hMM]
      exact (x_pn (fun z => absurd z.2.2 (by decide))).trans hs.2.2.2
    have pth : ∀ i, i ≤ u.2.2.length → MM.1 41 0 i = Int32.ofNat (rpt c u.2.2 i).1 ∧ MM.1 42 0 i = Int32.ofNat (rpt c u.2.2 i).2 := by
      intro i hi
      rw [hMM]
      exact ⟨(x_pn (fun z => absurd z.1 (by decide))).trans (q5 i hi).1, (x_pn (fun z => absurd z.1 (by decide))).trans (q5 i hi).2⟩
    have t0 : MM.1 36 0 0 = 0 := by
      rw [hMM]
      exact x_pe
    rw [← hMM]
    have fin : ∀ (nn : Int32) (O : Int64) (l5 l6 l7 l8 l9 : Option aV) (M1 : aM), M1.1 = MM.1 → FSq M1 (mns e c u.2.2) nn O → K 199 [some (vR 36 0), some (vI a1), some (vI nn), some (vL O), none, l5, l6, l7, l8, l9] [] M1 := by
      intro nn O l5 l6 l7 l8 l9 M1 e1 hf
      obtain ⟨⟨F, hF, hF2⟩, hn2, hO2⟩ := hf
      subst hn2
      subst hO2
      refine hK _ _ _ _ (hK _ _ _ _ (hK _ _ _ _ (⟨fun h5 => ?_, fun h5 => ?_⟩)))
      · have lp : ∀ (m t : Nat) (A : Int64) (z : Int32), e.1.2 - t = m → t ≤ e.1.2 → A = sl (mkf e c u.2.2 a1 (mns e c u.2.2).2.2) t → z = Int32.ofNat t → K 213 [some (vR 36 0), some (vI a1), some (vI (Int32.ofNat (mns e c u.2.2).1)), some (vL (mns e c u.2.2).2.1), none, some (vL A), none, some (vI z), l8, l9] [] M1 := by
          intro m
          induction m with
          | zero =>
            intro t A z hm ht hA hz
            subst hz
            refine hK _ _ _ _ (hK _ _ _ _ (hK _ _ _ _ (hK _ _ _ _ (hK _ _ _ _ (⟨x_vp (a := 2) rfl (by decide) (by decide), ?_⟩)))))
            rw [x_cl (j := 2) (a := 2) rfl (by decide), e1, ho2]
            refine hK _ _ _ _ (⟨fun h => ?_, fun h => ?_⟩)
            · refine hK _ _ _ _ (hK _ _ _ _ (hK _ _ _ _ (hK _ _ _ _ (Or.inr (Or.inr (Or.inr ⟨ok, c, u, r1, s0, hr, ?_, by rw [e1]; exact t0⟩))))))
              show some (vL (A * (mns e c u.2.2).2.1)) = some (vL (if a1 = -1 then (Int32.ofNat (mns e c u.2.2).1).toInt64 else sl (mkf e c u.2.2 a1 (mns e c u.2.2).2.2) e.1.2 * (mns e c u.2.2).2.1))
              rw [if_neg h5, hA, show t = e.1.2 by omega]
            · exact absurd (x_nge (x := t) (y := e.1.2) rfl rfl (by omega) (by omega) h) (by omega)
          | succ m ih =>
            intro t A z hm ht hA hz
            subst hz
            have hto : t < e.1.2 := by omega
            refine hK _ _ _ _ (hK _ _ _ _ (hK _ _ _ _ (hK _ _ _ _ (hK _ _ _ _ (⟨x_vp (a := 2) rfl (by decide) (by decide), ?_⟩)))))
            rw [x_cl (j := 2) (a := 2) rfl (by decide), e1, ho2]
            refine hK _ _ _ _ (⟨fun h => ?_, fun h => ?_⟩)
            · exact absurd (x_ge (x := t) (y := e.1.2) rfl rfl (by omega) (by omega) h) (by omega)
            have add : ∀ x : Int64, x = mkf e c u.2.2 a1 (mns e c u.2.2).2.2 t → K 266 [some (vR 36 0), some (vI a1), some (vI (Int32.ofNat (mns e c u.2.2).1)), some (vL (mns e c u.2.2).2.1), none, some (vL A), none, some (vI (Int32.ofNat t)), l8, l9] [vL x, vL A] M1 := by
              intro x hx
              refine hK _ _ _ _ (hK _ _ _ _ (hK _ _ _ _ (hK _ _ _ _ (?_))))
              exact ih (t + 1) _ _ (by omega) (by omega) (by rw [hA, hx]; rfl) hI_s
            have knd : ∀ tt : Nat, tt < e.1.2 → tt = (if rar c u.2.2 < 0 then ag e.1.1 e.1.2 t else t) → K 245 [some (vR 36 0), some (vI a1), some (vI (Int32.ofNat (mns e c u.2.2).1)), some (vL (mns e c u.2.2).2.1), none, some (vL A), none, some (vI (Int32.ofNat t)), l8, l9] [vI (Int32.ofNat tt), vR 36 0, vL A] M1 := by
              intro tt htt et
              have ek : mkf e c u.2.2 a1 (mns e c u.2.2).2.2 t = if Int32.ofNat (kn e.1.1 e.1.2 tt) = a1 then (mns e c u.2.2).2.2 t else 0 := by
                rw [et]
                rfl
              have ej : (10 : Int32) * Int32.ofNat t = Int32.ofNat (t * 10 + 0) := by
                rw [show (10 : Int32) * Int32.ofNat t = Int32.ofNat (10 * t) from x_mul (a := 10) (by decide) (by omega), Nat.mul_comm]
                rfl
              refine hK _ _ _ _ (⟨_, r_kinOf (d := 54) (gM_1 gm e1) htt, rfl, fun v245 M245 g245 => ?_⟩)
              obtain ⟨rfl, rfl⟩ := g245
              refine hK _ _ _ _ (hK _ _ _ _ (⟨fun h6 => ?_, fun h6 => ?_⟩))
              · refine hK _ _ _ _ (?_)
                exact add 0 (by rw [ek, if_neg h6])
              · refine hK _ _ _ _ (hK _ _ _ _ (hK _ _ _ _ (hK _ _ _ _ (hK _ _ _ _ (hK _ _ _ _ (⟨x_vp ej (show t * 10 + 0 < 80 by omega) (by decide), ?_⟩))))))
                rw [x_cl ej (by omega), hF t 0 (by omega) (by decide)]
                refine hK _ _ _ _ (?_)
                exact add _ (by rw [ek, if_pos h6]; exact congrFun hF2 t)
            refine hK _ _ _ _ (hK _ _ _ _ (hK _ _ _ _ (hK _ _ _ _ (⟨_, r_isClockwise (d := 58) (c := c) (l := u.2.2) (by rw [e1]; exact n16) hl q0 q2 (by rw [e1]; exact pth), rfl, fun v228 M228 g228 => ?_⟩))))
            obtain ⟨rfl, rfl⟩ := g228
            by_cases hcw : rar c u.2.2 < 0
            · rw [decide_eq_true hcw]
              refine hK _ _ _ _ (⟨fun q => (by first | exact absurd q (by decide) | exact absurd rfl q | exact absurd (by decide) q), fun _ => ?_⟩)
              refine hK _ _ _ _ (hK _ _ _ _ (hK _ _ _ _ (⟨_, g_against (d := 57) (gM_1 gm e1) hto, rfl, fun v237 M237 g237 => ?_⟩)))
              obtain ⟨rfl, rfl⟩ := g237
              refine hK _ _ _ _ (?_)
              exact knd _ (ag_lt gm.1 hto) (if_pos hcw).symm
            · rw [decide_eq_false hcw]
              refine hK _ _ _ _ (⟨fun _ => ?_, fun q => (by first | exact absurd q (by decide) | exact absurd rfl q | exact absurd (by decide) q)⟩)
              refine hK _ _ _ _ (?_)
              exact knd _ hto (if_neg hcw).symm
        refine hK _ _ _ _ (hK _ _ _ _ (hK _ _ _ _ (hK _ _ _ _ (?_))))
        exact lp _ 0 _ _ rfl (Nat.zero_le _) rfl rfl
      · refine hK _ _ _ _ (hK _ _ _ _ (hK _ _ _ _ (Or.inr (Or.inr (Or.inr ⟨ok, c, u, r1, s0, hr, ?_, by rw [e1]; exact t0⟩)))))
        show some (vL (Int32.ofNat (mns e c u.2.2).1).toInt64) = some (vL (if a1 = -1 then (Int32.ofNat (mns e c u.2.2).1).toInt64 else sl (mkf e c u.2.2 a1 (mns e c u.2.2).2.2) e.1.2 * (mns e c u.2.2).2.1))
        rw [if_pos h5]
    have xl : ∀ (y : Nat), y < e.2.1.2.1 → (∀ (nn : Int32) (O : Int64) (l6 l7 l8 l9 : Option aV) (M1 : aM), M1.1 = MM.1 → FSq M1 (mall e (fun x y => rwi c x y u.2.2) (y + 1)) nn O → K 193 [some (vR 36 0), some (vI a1), some (vI nn), some (vL O), none, some (vI (Int32.ofNat y)), l6, l7, l8, l9] [] M1) → ∀ (m x : Nat) (nn : Int32) (O : Int64) (z : Int32) (l7 l8 l9 : Option aV) (M1 : aM), e.2.1.1 - x = m → x ≤ e.2.1.1 → z = Int32.ofNat x → M1.1 = MM.1 → FSq M1 (mrow e (fun x y => rwi c x y u.2.2) y (mall e (fun x y => rwi c x y u.2.2) y) x) nn O → K 106 [some (vR 36 0), some (vI a1), some (vI nn), some (vL O), none, some (vI (Int32.ofNat y)), some (vI z), l7, l8, l9] [] M1 := by
      intro y hy out m
      induction m with
      | zero =>
        intro x nn O z l7 l8 l9 M1 hm hx hz e1 hf
        subst hz
        refine hK _ _ _ _ (hK _ _ _ _ (hK _ _ _ _ (hK _ _ _ _ (hK _ _ _ _ (⟨x_vp (a := 3) rfl (by decide) (by decide), ?_⟩)))))
        rw [x_cl (j := 3) (a := 3) rfl (by decide), e1, hS2.1]
        refine hK _ _ _ _ (⟨fun h => ?_, fun h => ?_⟩)
        · refine out nn O _ l7 l8 l9 M1 e1 ?_
          rw [show x = e.2.1.1 by omega] at hf
          exact hf
        · exact absurd (x_nge (x := x) (y := e.2.1.1) rfl rfl (by omega) (by omega) h) (by omega)
      | succ m ih =>
        intro x nn O z l7 l8 l9 M1 hm hx hz e1 hf
        subst hz
        refine hK _ _ _ _ (hK _ _ _ _ (hK _ _ _ _ (hK _ _ _ _ (hK _ _ _ _ (⟨x_vp (a := 3) rfl (by decide) (by decide), ?_⟩)))))
        rw [x_cl (j := 3) (a := 3) rfl (by decide), e1, hS2.1]
        refine hK _ _ _ _ (⟨fun h => ?_, fun h => ?_⟩)
        · exact absurd (x_ge (x := x) (y := e.2.1.1) rfl rfl (by omega) (by omega) h) (by omega)
        have nxt : ∀ (l9 : Option aV), K 156 [some (vR 36 0), some (vI a1), some (vI nn), some (vL O), none, some (vI (Int32.ofNat y)), some (vI (Int32.ofNat x)), some (vL (sl (gq e x y) e.1.2)), none, l9] [] M1 := by
          intro l9
          have n1 : M1.1 36 0 16 = Int32.ofNat u.2.2.length := by
            rw [e1]
            exact n16
          have p1 : ∀ i, i ≤ u.2.2.length → M1.1 41 0 i = Int32.ofNat (rpt c u.2.2 i).1 ∧ M1.1 42 0 i = Int32.ofNat (rpt c u.2.2 i).2 := by
            rw [e1]
            exact pth
          refine hK _ _ _ _ (hK _ _ _ _ (hK _ _ _ _ (hK _ _ _ _ (⟨_, r_isWithin (d := 58) (c := c) (l := u.2.2) n1 hl q0 q2 p1 (show x < 4 by omega) (show y < 4 by omega), rfl, fun v161 M161 g161 => ?_⟩))))
          obtain ⟨rfl, rfl⟩ := g161
          obtain ⟨⟨F, hF, hF2⟩, hn2, hO2⟩ := hf
          cases hw : rwi c x y u.2.2 with
          | false =>
            refine hK _ _ _ _ (⟨fun _ => ?_, fun q => (by first | exact absurd q (by decide) | exact absurd rfl q | exact absurd (by decide) q)⟩)
            refine hK _ _ _ _ (hK _ _ _ _ (hK _ _ _ _ (hK _ _ _ _ (hK _ _ _ _ (hK _ _ _ _ (?_))))))
            refine ih (x + 1) _ _ _ _ _ _ _ (by omega) (by omega) hI_s e1 ?_
            show FSq M1 (mst e (fun x y => rwi c x y u.2.2) y x (mrow e (fun x y => rwi c x y u.2.2) y (mall e (fun x y => rwi c x y u.2.2) y) x)) _ _
            rw [mst_f (W := (fun x y => rwi c x y u.2.2)) hw]
            exact ⟨⟨F, hF, hF2⟩, hn2, by rw [hO2]⟩
          | true =>
            refine hK _ _ _ _ (⟨fun q => (by first | exact absurd q (by decide) | exact absurd rfl q | exact absurd (by decide) q), fun _ => ?_⟩)
            refine hK _ _ _ _ (hK _ _ _ _ (hK _ _ _ _ (hK _ _ _ _ (hK _ _ _ _ (hK _ _ _ _ (⟨_, r_foldsSquare (d := 56) (x := x) (y := y) (cb := false) (rB_1 BM e1) (show x < 3 by omega) (show y < 3 by omega) hF, rfl, fun v176 M176 g176 => ?_⟩))))))
            obtain ⟨rfl, f1, f2⟩ := g176
            refine hK _ _ _ _ (hK _ _ _ _ (hK _ _ _ _ (?_)))
            refine ih (x + 1) _ _ _ _ _ _ _ (by omega) (by omega) hI_s (f1.trans e1) ?_
            show FSq M176 (mst e (fun x y => rwi c x y u.2.2) y x (mrow e (fun x y => rwi c x y u.2.2) y (mall e (fun x y => rwi c x y u.2.2) y) x)) _ _
            rw [mst_t (W := (fun x y => rwi c x y u.2.2)) hw]
            refine ⟨⟨_, f2, funext (fun c2 => ?_)⟩, by rw [hn2]; exact hI_s, hO2⟩
            rw [fsq_0 c2, hF2]
            rfl
        have tl : ∀ (m t : Nat) (A : Int64) (z : Int32), e.1.2 - t = m → t ≤ e.1.2 → A = sl (gq e x y) t → z = Int32.ofNat t → K 123 [some (vR 36 0), some (vI a1), some (vI nn), some (vL O), none, some (vI (Int32.ofNat y)), some (vI (Int32.ofNat x)), some (vL A), none, some (vI z)] [] M1 := by
          intro m
          induction m with
          | zero =>
            intro t A z hm ht hA hz
            subst hz
            refine hK _ _ _ _ (hK _ _ _ _ (hK _ _ _ _ (hK _ _ _ _ (hK _ _ _ _ (⟨x_vp (a := 2) rfl (by decide) (by decide), ?_⟩)))))
            rw [x_cl (j := 2) (a := 2) rfl (by decide), e1, ho2]
            refine hK _ _ _ _ (⟨fun h => ?_, fun h => ?_⟩)
            · rw [hA, show t = e.1.2 by omega]
              exact nxt _
            · exact absurd (x_nge (x := t) (y := e.1.2) rfl rfl (by omega) (by omega) h) (by omega)
          | succ m iht =>
            intro t A z hm ht hA hz
            subst hz
            refine hK _ _ _ _ (hK _ _ _ _ (hK _ _ _ _ (hK _ _ _ _ (hK _ _ _ _ (⟨x_vp (a := 2) rfl (by decide) (by decide), ?_⟩)))))
            rw [x_cl (j := 2) (a := 2) rfl (by decide), e1, ho2]
            refine hK _ _ _ _ (⟨fun h => ?_, fun h => ?_⟩)
            · exact absurd (x_ge (x := t) (y := e.1.2) rfl rfl (by omega) (by omega) h) (by omega)
            · refine hK _ _ _ _ (hK _ _ _ _ (hK _ _ _ _ (hK _ _ _ _ (hK _ _ _ _ (hK _ _ _ _ (⟨_, r_weightOf (d := 57) (x := x) (y := y) (t := t) (rB_1 BM e1) (show x < 3 by omega) (show y < 3 by omega) (show t < 8 by omega), rfl, fun v143 M143 g143 => ?_⟩))))))
              obtain ⟨rfl, rfl⟩ := g143
              refine hK _ _ _ _ (hK _ _ _ _ (hK _ _ _ _ (hK _ _ _ _ (hK _ _ _ _ (?_)))))
              exact iht (t + 1) _ _ (by omega) (by omega) (by rw [hA]; rfl) hI_s
        refine hK _ _ _ _ (hK _ _ _ _ (hK _ _ _ _ (hK _ _ _ _ (?_))))
        exact tl _ 0 _ _ rfl (Nat.zero_le _) rfl rfl
    have yl : ∀ (m y : Nat) (nn : Int32) (O : Int64) (z : Int32) (l6 l7 l8 l9 : Option aV) (M1 : aM), e.2.1.2.1 - y = m → y ≤ e.2.1.2.1 → z = Int32.ofNat y → M1.1 = MM.1 → FSq M1 (mall e (fun x y => rwi c x y u.2.2) y) nn O → K 92 [some (vR 36 0), some (vI a1), some (vI nn), some (vL O), none, some (vI z), l6, l7, l8, l9] [] M1 := by
      intro m
      induction m with
      | zero =>
        intro y nn O z l6 l7 l8 l9 M1 hm hy hz e1 hf
        subst hz
        refine hK _ _ _ _ (hK _ _ _ _ (hK _ _ _ _ (hK _ _ _ _ (hK _ _ _ _ (⟨x_vp (a := 4) rfl (by decide) (by decide), ?_⟩)))))
        rw [x_cl (j := 4) (a := 4) rfl (by decide), e1, hS2.2.1]
        refine hK _ _ _ _ (⟨fun h => ?_, fun h => ?_⟩)
        · refine fin nn O _ _ _ _ _ M1 e1 ?_
          rw [show y = e.2.1.2.1 by omega] at hf
          exact hf
        · exact absurd (x_nge (x := y) (y := e.2.1.2.1) rfl rfl (by omega) (by omega) h) (by omega)
      | succ m ih =>
        intro y nn O z l6 l7 l8 l9 M1 hm hy hz e1 hf
        subst hz
        refine hK _ _ _ _ (hK _ _ _ _ (hK _ _ _ _ (hK _ _ _ _ (hK _ _ _ _ (⟨x_vp (a := 4) rfl (by decide) (by decide), ?_⟩)))))
        rw [x_cl (j := 4) (a := 4) rfl (by decide), e1, hS2.2.1]
        refine hK _ _ _ _ (⟨fun h => ?_, fun h => ?_⟩)
        · exact absurd (x_ge (x := y) (y := e.2.1.2.1) rfl rfl (by omega) (by omega) h) (by omega)
        · refine hK _ _ _ _ (hK _ _ _ _ (?_))
          refine xl y (by omega) (fun nn O l6 l7 l8 l9 M2 e2 hf2 => ?_) _ 0 _ _ _ _ _ _ _ rfl (Nat.zero_le _) rfl e1 hf
          refine hK _ _ _ _ (hK _ _ _ _ (?_))
          exact ih (y + 1) _ _ _ _ _ _ _ _ (by omega) (by omega) hI_s e2 hf2
    refine hK _ _ _ _ (hK _ _ _ _ (⟨_, r_folds0 (d := 58), rfl, fun v82 M82 g82 => ?_⟩))
    obtain ⟨rfl, f1, f2⟩ := g82
    refine hK _ _ _ _ (hK _ _ _ _ (hK _ _ _ _ (hK _ _ _ _ (hK _ _ _ _ (hK _ _ _ _ (?_))))))
    exact yl _ 0 _ _ _ _ _ _ _ _ rfl (Nat.zero_le _) rfl f1 ⟨⟨Fz0, f2, fy_0 (e := e) 0⟩, rfl, rfl⟩
  have at31 : okK e a1 → K 31 [some (vR 36 0), some (vI a1), none, none, none, none, none, none, none, none] [] M := by
    intro ok
    refine hK _ _ _ _ (hK _ _ _ _ (⟨_, r_walksX (d := 50) hn h4 hB hL (Q := QV e) (QV_ok w1 w3 h1 h3), rfl, fun v32 M32 g32 => ?_⟩))
    obtain ⟨rfl, f32, y6, g32⟩ := g32
    rcases g32 with ⟨c, u, r1, y9, hs, ho, ya, yb, c1, c2, qv⟩ | ⟨r1, y9⟩
    · have B32 := rB_v f32 hB
      obtain ⟨-, -, -, hS2, -⟩ := rB_h B32
      refine hK _ _ _ _ (hK _ _ _ _ (hK _ _ _ _ (hK _ _ _ _ (hK _ _ _ _ (⟨fun _ => ?_, fun q9 => absurd y9 q9⟩)))))
      refine hK _ _ _ _ (hK _ _ _ _ (hK _ _ _ _ (hK _ _ _ _ (⟨x_vp (a := 5) rfl (by decide) (by decide), ?_⟩))))
      rw [x_cl (j := 5) (a := 5) rfl (by decide), hS2.2.2]
      refine hK _ _ _ _ (⟨fun h5 => ?_, fun h5 => ?_⟩)
      · refine hK _ _ _ _ (hK _ _ _ _ (?_))
        exact thr M32 3 (by decide) (Or.inr (Or.inr (Or.inl ⟨ok, ⟨c, u, r1, fun z => h5 (by rw [z.1]; rfl)⟩, rfl, x_pe⟩)))
      · have s0 : e.2.1.2.2 = 0 := x_eq (y := 0) rfl rfl (by omega) (by decide) h5
        refine hK _ _ _ _ (hK _ _ _ _ (⟨_, r_isRing (d := 55) B32 hs ho ya yb c1 c2 s0 (w_read_len r1) qv, rfl, fun v58 M58 g58 => ?_⟩))
        obtain ⟨g58, rfl⟩ := g58
        rcases g58 with ⟨hr, rfl⟩ | ⟨hr, rfl⟩
        · refine hK _ _ _ _ (⟨fun _ => ?_, fun q => (by first | exact absurd q (by decide) | exact absurd rfl q | exact absurd (by decide) q)⟩)
          refine hK _ _ _ _ (hK _ _ _ _ (hK _ _ _ _ (hK _ _ _ _ (hK _ _ _ _ (⟨fun h9 => ?_, fun h9 => ?_⟩)))))
          · exact good ok c u M32 r1 s0 hr B32 hs qv
          · rw [x_pe] at h9
            exact absurd (by decide) h9
        · refine hK _ _ _ _ (⟨fun q => (by first | exact absurd q (by decide) | exact absurd rfl q | exact absurd (by decide) q), fun _ => ?_⟩)
          refine hK _ _ _ _ (hK _ _ _ _ (?_))
          exact thr M32 3 (by decide) (Or.inr (Or.inr (Or.inl ⟨ok, ⟨c, u, r1, fun z => hr z.2⟩, rfl, x_pe⟩)))
    · refine hK _ _ _ _ (hK _ _ _ _ (hK _ _ _ _ (hK _ _ _ _ (hK _ _ _ _ (⟨fun q9 => absurd q9 y9, fun _ => ?_⟩)))))
      refine hK _ _ _ _ (hK _ _ _ _ (?_))
      exact thr M32 2 (by decide) (Or.inr (Or.inl ⟨ok, r1, rfl, x_pe⟩))
  refine hK _ _ _ _ (hK _ _ _ _ (hK _ _ _ _ (⟨fun h8 => ?_, fun h8 => ?_⟩)))
  · exact at31 (Or.inl h8)
  · refine hK _ _ _ _ (hK _ _ _ _ (hK _ _ _ _ (hK _ _ _ _ (⟨_, r_kins (d := 54) hg, rfl, fun v8 M8 g8 => ?_⟩))))
    obtain ⟨rfl, rfl⟩ := g8
    refine hK _ _ _ _ (hK _ _ _ _ (hK _ _ _ _ (⟨_, t_isIn (d := 58), rfl, fun v13 M13 g13 => ?_⟩)))
    obtain ⟨rfl, rfl⟩ := g13
    rw [rkc_kc hg.1]
    by_cases hq : 0 ≤ a1 ∧ a1 ≤ Int32.ofNat (kc e.1.1 e.1.2) - 1
    · rw [if_pos hq]
      refine hK _ _ _ _ (⟨fun _ => ?_, fun q => (by first | exact absurd q (by decide) | exact absurd rfl q | exact absurd (by decide) q)⟩)
      exact at31 (Or.inr ((okK_r hg.1).mp hq))
    · rw [if_neg hq]
      refine hK _ _ _ _ (⟨fun q => (by first | exact absurd q (by decide) | exact absurd rfl q | exact absurd (by decide) q), fun _ => ?_⟩)
      refine hK _ _ _ _ (hK _ _ _ _ (hK _ _ _ _ (hK _ _ _ _ (hK _ _ _ _ (hK _ _ _ _ (hK _ _ _ _ (hK _ _ _ _ (Or.inl ⟨fun z => ?_, rfl, x_pe⟩))))))))
      rcases z with z | z
      · exact h8 z
      · exact hq ((okK_r hg.1).mpr z)
