/-- every turn once; every turn but rest once; choices -/
def yA1 : Nat → Int64 := fun _ => 1
def yS1 : Nat → Int64 := fun t => if t = 0 then 0 else 1
def cho : Nat → Nat → Nat
  | _, 0 => 1
  | 0, _ + 1 => 0
  | n + 1, k + 1 => cho n (k + 1) + cho n k
theorem cho_gt : ∀ n k, n < k → cho n k = 0
  | _, 0, h => absurd h (Nat.not_lt_zero _)
  | 0, k + 1, _ => rfl
  | n + 1, k + 1, h => by
    show cho n (k + 1) + cho n k = 0
    rw [cho_gt n (k + 1) (by omega), cho_gt n k (by omega)]
theorem cF_A {k o : Nat} : cF k o yA1 := fun _ _ _ _ _ => rfl
theorem cF_S {k o : Nat} (hq : (k, o) ∈ gP) : cF k o yS1 := fun a b ha hb he => by
  have h9 := gT_all (P := fun k o a b => !(Nat.beq (kn k o a) (kn k o b)) || (Nat.beq a 0 == Nat.beq b 0)) (by decide +kernel) hq ha hb
  rw [x_beq he, Bool.not_true, Bool.false_or] at h9
  have h8 := eq_of_beq h9
  show (if a = 0 then (0 : Int64) else 1) = if b = 0 then 0 else 1
  by_cases h : a = 0
  · rw [if_pos h, if_pos (Nat.eq_of_beq_eq_true (h8.symm.trans (x_beq h)))]
  · rw [if_neg h, if_neg (fun z => h (Nat.eq_of_beq_eq_true (h8.trans (x_beq z))))]
/-- one turn's part, in closed form -/
theorem kup_s {w u : Nat} {fa : Nat → Int64} {m : Int64} {nx : Nat → Nat → Int64} {c j : Nat} : ∀ n, kup w u fa m nx n c j = if c = u ∧ w ≤ j ∧ j < n + w then nx c j + fa (j - w) * m else nx c j
  | 0 => by
    rw [if_neg (fun z => by have := z.2; omega)]
    rfl
  | n + 1 => by
    show (if c = u ∧ j = n + w then kup w u fa m nx n c j + fa n * m else kup w u fa m nx n c j) = _
    rw [kup_s n]
    by_cases h : c = u ∧ j = n + w
    · rw [if_pos h, if_neg (fun z => by have := z.2.2; have := h.2; omega), if_pos ⟨h.1, by have := h.2; omega, by have := h.2; omega⟩, show j - w = n by have := h.2; omega]
    · rw [if_neg h]
      by_cases h2 : c = u ∧ w ≤ j ∧ j < n + w
      · rw [if_pos h2, if_pos ⟨h2.1, h2.2.1, by have := h2.2.2; omega⟩]
      · rw [if_neg h2, if_neg (fun z => h2 ⟨z.1, z.2.1, by
          have h3 := z.2.2
          have h4 : ¬ j = n + w := fun q => h ⟨z.1, q⟩
          omega⟩)]
theorem fsi_s {k o a c j : Nat} {w : Nat → Nat} {mm : Nat → Int64} {F nx : Nat → Nat → Int64} (hw : ∀ t, w t ≤ 1) (hj : j < 10) : ∀ n, fsi k o w mm F a nx n c j = nx c j + sl (fun t => if c = rt k o a t then (if w t ≤ j then F a (j - w t) * mm t else 0) else 0) n
  | 0 => (Int64.add_zero _).symm
  | n + 1 => by
    show kup (w n) (rt k o a n) (F a) (mm n) (fsi k o w mm F a nx n) (10 - w n) c j = nx c j + (sl (fun t => if c = rt k o a t then (if w t ≤ j then F a (j - w t) * mm t else 0) else 0) n + (if c = rt k o a n then (if w n ≤ j then F a (j - w n) * mm n else 0) else 0))
    rw [kup_s, fsi_s hw hj n]
    have h1 := hw n
    by_cases h : c = rt k o a n
    · rw [if_pos h]
      by_cases h2 : w n ≤ j
      · rw [if_pos h2, if_pos ⟨h, h2, by omega⟩, Int64.add_assoc]
      · rw [if_neg h2, if_neg (fun z => h2 z.2.1), Int64.add_zero]
    · rw [if_neg h, if_neg (fun z => h z.1), Int64.add_zero]
theorem fso_s {k o c j : Nat} {w : Nat → Nat} {mm : Nat → Int64} {F : Nat → Nat → Int64} (hw : ∀ t, w t ≤ 1) (hj : j < 10) : ∀ n, fso k o w mm F n c j = sl (fun a => sl (fun t => if c = rt k o a t then (if w t ≤ j then F a (j - w t) * mm t else 0) else 0) o) n
  | 0 => rfl
  | n + 1 => by
    show fsi k o w mm F n (fso k o w mm F n) o c j = sl (fun a => sl (fun t => if c = rt k o a t then (if w t ≤ j then F a (j - w t) * mm t else 0) else 0) o) n + _
    rw [fsi_s hw hj, fso_s hw hj n]
theorem sqm_1 {e : xB} {x y t : Nat} : sqm e x y true t = 1 := if_pos rfl
/-- a hole: every turn -/
theorem fsq_h {e : xB} {x y c j : Nat} {F : Nat → Nat → Int64} (hh : e.2.2.2.1 (y * 4 + x) = 1) (hj : j < 10) : fsq e x y true F c j = conv e.1.1 e.1.2 (fun a => F a j) yA1 c := by
  have hw : ∀ t, sqw e x y true t = 0 := fun t => if_neg (fun z => z.2.2 hh)
  show fso e.1.1 e.1.2 (sqw e x y true) (sqm e x y true) F e.1.2 c j = cvo e.1.1 e.1.2 (fun a => F a j) yA1 e.1.2 c
  rw [fso_s (fun t => sqw_1) hj, cvo_s]
  refine sl_e _ (fun a _ => sl_e _ (fun t _ => ?_))
  rw [hw t, sqm_1, if_pos (Nat.zero_le j)]
  rfl
theorem g_un {k o a c : Nat} (hq : (k, o) ∈ gP) (ha : a < o) (hc : c < o) : rt k o (ag k o a) c = 0 ↔ a = c := by
  have h := gT_all (P := fun k o a c => Nat.beq (rt k o (ag k o a) c) 0 == Nat.beq a c) (by decide +kernel) hq ha hc
  have h := eq_of_beq h
  exact ⟨fun z => Nat.eq_of_beq_eq_true (h.symm.trans (x_beq z)), fun z => Nat.eq_of_beq_eq_true (h.trans (x_beq z))⟩
theorem conv_u {k o c : Nat} {f : Nat → Int64} (hq : (k, o) ∈ gP) (hc : c < o) : conv k o f d0 c = f c := by
  rw [conv_s hq hc]
  have e1 : sl (fun a => f a * d0 (rt k o (ag k o a) c)) o = sl (fun a => if a = c then f a else 0) o := sl_e o (fun a ha => by
    show f a * (if rt k o (ag k o a) c = 0 then (1 : Int64) else 0) = _
    by_cases h : a = c
    · rw [if_pos h, if_pos ((g_un hq ha hc).mpr h), Int64.mul_one]
    · rw [if_neg h, if_neg (fun z => h ((g_un hq ha hc).mp z)), Int64.mul_zero])
  rw [e1, sl_pick (g := f), if_pos hc]
/-- another square: at rest, or turned -/
theorem fsq_n {e : xB} {x y c j : Nat} {F : Nat → Nat → Int64} (hq : e.1 ∈ gP) (hh : ¬ e.2.2.2.1 (y * 4 + x) = 1) (hj : j < 10) (hc : c < e.1.2) : fsq e x y true F c j = F c j + conv e.1.1 e.1.2 (fun a => if j = 0 then 0 else F a (j - 1)) yS1 c := by
  have hw : ∀ t, sqw e x y true t = if t = 0 then 0 else 1 := fun t => by
    unfold sqw
    by_cases h : t = 0
    · rw [if_pos h, if_neg (fun z => z.2.1 h)]
    · rw [if_neg h, if_pos ⟨rfl, h, hh⟩]
  have hu : conv e.1.1 e.1.2 (fun a => F a j) d0 c = F c j := conv_u (k := e.1.1) (o := e.1.2) (f := fun a => F a j) hq hc
  rw [← hu]
  show fso e.1.1 e.1.2 (sqw e x y true) (sqm e x y true) F e.1.2 c j = cvo e.1.1 e.1.2 (fun a => F a j) d0 e.1.2 c + cvo e.1.1 e.1.2 (fun a => if j = 0 then 0 else F a (j - 1)) yS1 e.1.2 c
  rw [fso_s (fun t => sqw_1) hj, cvo_s, cvo_s, ← sl_add]
  refine sl_e _ (fun a _ => ?_)
  rw [← sl_add]
  refine sl_e _ (fun t _ => ?_)
  rw [hw t, sqm_1]
  by_cases h : c = rt e.1.1 e.1.2 a t
  · rw [if_pos h, if_pos h, if_pos h]
    by_cases ht : t = 0
    · rw [if_pos ht, if_pos (Nat.zero_le j), show d0 t = 1 from if_pos ht, show yS1 t = 0 from if_pos ht, Int64.mul_zero, Int64.add_zero]
      rfl
    · rw [if_neg ht, show d0 t = 0 from if_neg ht, show yS1 t = 1 from if_neg ht, Int64.mul_zero, Int64.zero_add, Int64.mul_one, Int64.mul_one]
      by_cases h0 : j = 0
      · rw [if_neg (by omega), if_pos h0]
      · rw [if_pos (by omega), if_neg h0]
  · rw [if_neg h, if_neg h, if_neg h, Int64.add_zero]
/-- n others, h holes: what stands in place j -/
def stF (k o n h : Nat) (F : Nat → Nat → Int64) : Prop := ∀ c j, c < o → j < 10 → F c j = Int64.ofNat (cho n j) * mulN k o (mulN k o d0 yS1 j) yA1 h c
theorem conv_l {k o c : Nat} {f g : Nat → Int64} {C : Int64} (hq : (k, o) ∈ gP) (hc : c < o) : conv k o (fun a => C * f a) g c = C * conv k o f g c := by
  rw [conv_s hq hc, conv_s hq hc, Int64.mul_comm, sl_r]
  exact sl_e o (fun a _ => by rw [Int64.mul_comm C, Int64.mul_assoc, Int64.mul_assoc, Int64.mul_comm C])
theorem stF_h {e : xB} {x y n h : Nat} {F : Nat → Nat → Int64} (hq : e.1 ∈ gP) (hh : e.2.2.2.1 (y * 4 + x) = 1) (hF : stF e.1.1 e.1.2 n h F) : stF e.1.1 e.1.2 n (h + 1) (fsq e x y true F) := fun c j hc hj => by
  rw [fsq_h hh hj, conv_e hq hc (fun a ha => hF a j ha hj), conv_l hq hc]
  rfl
theorem stF_n {e : xB} {x y n h : Nat} {F : Nat → Nat → Int64} (hq : e.1 ∈ gP) (hh : ¬ e.2.2.2.1 (y * 4 + x) = 1) (hF : stF e.1.1 e.1.2 n h F) : stF e.1.1 e.1.2 (n + 1) h (fsq e x y true F) := fun c j hc hj => by
  rw [fsq_n hq hh hj hc, hF c j hc hj]
  cases j with
  | zero =>
    have z : conv e.1.1 e.1.2 (fun a => if 0 = 0 then 0 else F a (0 - 1)) yS1 c = 0 := by
      rw [conv_s hq hc]
      refine (sl_e _ (fun a _ => ?_)).trans (sl_z _)
      rw [if_pos rfl, Int64.zero_mul]
    rw [z, Int64.add_zero]
    rw [show cho (n + 1) 0 = cho n 0 by cases n <;> rfl]
  | succ j =>
    have z : conv e.1.1 e.1.2 (fun a => if j + 1 = 0 then 0 else F a (j + 1 - 1)) yS1 c = Int64.ofNat (cho n j) * mulN e.1.1 e.1.2 (mulN e.1.1 e.1.2 d0 yS1 (j + 1)) yA1 h c := by
      rw [conv_e hq hc (f2 := fun a => Int64.ofNat (cho n j) * mulN e.1.1 e.1.2 (mulN e.1.1 e.1.2 d0 yS1 j) yA1 h a) (fun a ha => by
        rw [if_neg (Nat.succ_ne_zero j)]
        exact hF a j ha (by omega)), conv_l hq hc]
      congr 1
      exact (mulN_1 (f := mulN e.1.1 e.1.2 d0 yS1 j) hq (cF_S hq) cF_A h c hc).symm
    rw [z, ← Int64.add_mul, ← Int64.ofNat_add]
    rfl
/-- holes among the squares that have come -/
def hcx (e : xB) (y : Nat) : Nat → Nat → Nat
  | 0, a => a
  | x + 1, a => hcx e y x a + (if e.2.2.2.1 (y * 4 + x) = 1 then 1 else 0)
def hcy (e : xB) : Nat → Nat
  | 0 => 0
  | y + 1 => hcx e y e.2.1.1 (hcy e y)
theorem hcx_le {e : xB} {y : Nat} : ∀ x a, a ≤ hcx e y x a ∧ hcx e y x a ≤ a + x
  | 0, a => ⟨Nat.le_refl _, Nat.le_refl _⟩
  | x + 1, a => by
    have h := hcx_le (e := e) (y := y) x a
    show a ≤ hcx e y x a + (if e.2.2.2.1 (y * 4 + x) = 1 then 1 else 0) ∧ hcx e y x a + (if e.2.2.2.1 (y * 4 + x) = 1 then 1 else 0) ≤ a + (x + 1)
    by_cases hh : e.2.2.2.1 (y * 4 + x) = 1
    · rw [if_pos hh]
      omega
    · rw [if_neg hh]
      omega
theorem stF_x {e : xB} {y n h : Nat} {F : Nat → Nat → Int64} (hq : e.1 ∈ gP) (hF : stF e.1.1 e.1.2 n h F) : ∀ x, stF e.1.1 e.1.2 (n + x - (hcx e y x h - h)) (hcx e y x h) (fx e true F y x)
  | 0 => by
    show stF e.1.1 e.1.2 (n + 0 - (h - h)) h F
    rw [Nat.sub_self]
    exact hF
  | x + 1 => by
    have ih := stF_x (y := y) hq hF x
    have hl := hcx_le (e := e) (y := y) x h
    show stF e.1.1 e.1.2 (n + (x + 1) - (hcx e y x h + (if e.2.2.2.1 (y * 4 + x) = 1 then 1 else 0) - h)) (hcx e y x h + (if e.2.2.2.1 (y * 4 + x) = 1 then 1 else 0)) (fsq e x y true (fx e true F y x))
    by_cases hh : e.2.2.2.1 (y * 4 + x) = 1
    · rw [if_pos hh, show n + (x + 1) - (hcx e y x h + 1 - h) = n + x - (hcx e y x h - h) by omega]
      exact stF_h hq hh ih
    · rw [if_neg hh]
      show stF e.1.1 e.1.2 (n + (x + 1) - (hcx e y x h - h)) (hcx e y x h) (fsq e x y true (fx e true F y x))
      rw [show n + (x + 1) - (hcx e y x h - h) = n + x - (hcx e y x h - h) + 1 by omega]
      exact stF_n hq hh ih
theorem hcy_le {e : xB} : ∀ y, hcy e y ≤ y * e.2.1.1
  | 0 => Nat.zero_le _
  | y + 1 => by
    have h := hcy_le (e := e) y
    have h2 := (hcx_le (e := e) (y := y) e.2.1.1 (hcy e y)).2
    show hcx e y e.2.1.1 (hcy e y) ≤ (y + 1) * e.2.1.1
    rw [Nat.add_mul, Nat.one_mul]
    omega
theorem stF_0 {k o : Nat} : stF k o 0 0 Fz0 := fun c j hc hj => by
  show (if c = 0 ∧ j = 0 then (1 : Int64) else 0) = Int64.ofNat (cho 0 j) * mulN k o d0 yS1 j c
  cases j with
  | zero =>
    show _ = Int64.ofNat 1 * (if c = 0 then (1 : Int64) else 0)
    rw [show Int64.ofNat 1 = 1 from rfl, Int64.one_mul]
    by_cases h : c = 0
    · rw [if_pos ⟨h, rfl⟩, if_pos h]
    · rw [if_neg (fun z => h z.1), if_neg h]
  | succ j =>
    rw [if_neg (fun z => Nat.succ_ne_zero j z.2), show cho 0 (j + 1) = 0 from rfl, show Int64.ofNat 0 = 0 from rfl, Int64.zero_mul]
theorem stF_y {e : xB} (hq : e.1 ∈ gP) : ∀ y, stF e.1.1 e.1.2 (y * e.2.1.1 - hcy e y) (hcy e y) (fy e true y)
  | 0 => by
    show stF e.1.1 e.1.2 (0 * e.2.1.1 - 0) 0 Fz0
    rw [Nat.zero_mul]
    exact stF_0
  | y + 1 => by
    have h := stF_x (y := y) hq (stF_y hq y) e.2.1.1
    have h1 := hcx_le (e := e) (y := y) e.2.1.1 (hcy e y)
    have h2 := hcy_le (e := e) y
    show stF e.1.1 e.1.2 ((y + 1) * e.2.1.1 - hcx e y e.2.1.1 (hcy e y)) (hcx e y e.2.1.1 (hcy e y)) (fx e true (fy e true y) y e.2.1.1)
    rw [Nat.add_mul, Nat.one_mul]
    rw [show y * e.2.1.1 + e.2.1.1 - hcx e y e.2.1.1 (hcy e y) = y * e.2.1.1 - hcy e y + e.2.1.1 - (hcx e y e.2.1.1 (hcy e y) - hcy e y) by omega]
    exact h
/-- states with k squares turned -/
def stv (e : xB) (k : Nat) : Int64 := Int64.ofNat (cho (e.2.1.2.1 * e.2.1.1 - hcy e e.2.1.2.1) k) * osh e.1.1 e.1.2 e.2.1.2.2 (mulN e.1.1 e.1.2 (mulN e.1.1 e.1.2 d0 yS1 k) yA1 (hcy e e.2.1.2.1))
theorem bsh_st {e : xB} {k : Nat} (hq : e.1 ∈ gP) (s2 : e.2.1.2.2 ≤ 2) (hk : k < 10) : bsh e k (fy e true e.2.1.2.1) = stv e k := by
  unfold stv
  rw [← bsh_osh s2 (F := fun c _ => mulN e.1.1 e.1.2 (mulN e.1.1 e.1.2 d0 yS1 k) yA1 (hcy e e.2.1.2.1) c)]
  unfold bsh
  rw [Int64.mul_comm, sl_r]
  refine sl_e _ (fun t ht => ?_)
  rw [stF_y hq e.2.1.2.1 t k ht hk, Int64.mul_comm (Int64.ofNat _), Int64.mul_assoc, Int64.mul_comm (Int64.ofNat _), ← Int64.mul_assoc]
