/-! what is left as it is -/
abbrev xF : Type := Nat → Nat → Nat → Bool
def fr (P : xF) (M M' : aM) : Prop := (∀ k i j, P k i j = false → M'.1 k i j = M.1 k i j) ∧ M'.2 = M.2
theorem fr_r {P : xF} {M : aM} : fr P M M := ⟨fun _ _ _ _ => rfl, rfl⟩
theorem fr_t {P : xF} {A B C : aM} (h : fr P A B) (g : fr P B C) : fr P A C := ⟨fun k i j z => (g.1 k i j z).trans (h.1 k i j z), g.2.trans h.2⟩
theorem fr_w {P Q : xF} {A B : aM} (h : fr P A B) (hw : ∀ k i j, Q k i j = false → P k i j = false) : fr Q A B := ⟨fun k i j z => h.1 k i j (hw k i j z), h.2⟩
theorem fr_p {P : xF} {A B : aM} {k i j : Nat} {x : Int32} (h : fr P A B) (hp : P k i j = true) : fr P A (a_pI B k i j x) := by
  refine ⟨fun k' i' j' z => ?_, h.2⟩
  show (if k' = k ∧ i' = i ∧ j' = j then x else B.1 k' i' j') = A.1 k' i' j'
  rw [if_neg]
  · exact h.1 k' i' j' z
  · rintro ⟨rfl, rfl, rfl⟩
    rw [hp] at z
    cases z
theorem x_pe {M : aM} {k i j : Nat} {x : Int32} : (a_pI M k i j x).1 k i j = x := if_pos ⟨rfl, rfl, rfl⟩
theorem x_pn {M : aM} {k i j k' i' j' : Nat} {x : Int32} (h : ¬ (k' = k ∧ i' = i ∧ j' = j)) : (a_pI M k i j x).1 k' i' j' = M.1 k' i' j' := if_neg h
/-! comparisons -/
theorem x_ge {a b : Int32} {x y : Nat} (ha : a = Int32.ofNat x) (hb : b = Int32.ofNat y) (hx : x < 2147483648) (hy : y < 2147483648) (h : b ≤ a) : y ≤ x := by
  rw [ha, hb] at h
  exact (hI_le hy hx).mp h
theorem x_nge {a b : Int32} {x y : Nat} (ha : a = Int32.ofNat x) (hb : b = Int32.ofNat y) (hx : x < 2147483648) (hy : y < 2147483648) (h : ¬ b ≤ a) : x < y := by
  rw [ha, hb] at h
  have h2 : ¬ y ≤ x := fun z => h ((hI_le hy hx).mpr z)
  omega
theorem x_lt {a b : Int32} {x y : Nat} (ha : a = Int32.ofNat x) (hb : b = Int32.ofNat y) (hx : x < 2147483648) (hy : y < 2147483648) (h : a < b) : x < y := by
  rw [ha, hb] at h
  exact (hI_lt hx hy).mp h
theorem x_nlt {a b : Int32} {x y : Nat} (ha : a = Int32.ofNat x) (hb : b = Int32.ofNat y) (hx : x < 2147483648) (hy : y < 2147483648) (h : ¬ a < b) : y ≤ x := by
  rw [ha, hb] at h
  have h2 : ¬ x < y := fun z => h ((hI_lt hx hy).mpr z)
  omega
theorem x_eq {a b : Int32} {x y : Nat} (ha : a = Int32.ofNat x) (hb : b = Int32.ofNat y) (hx : x < 2147483648) (hy : y < 2147483648) (h : a = b) : x = y := by
  have h2 := congrArg z_b ((ha.symm.trans h).trans hb)
  rw [z_b_ofNat hx, z_b_ofNat hy] at h2
  omega
theorem x_inj {x y : Nat} (hx : x < 2147483648) (hy : y < 2147483648) (h : Int32.ofNat x = Int32.ofNat y) : x = y := x_eq rfl rfl hx hy h
theorem x_s {a : Int32} {x : Nat} (h : a = Int32.ofNat x) : a + 1 = Int32.ofNat (x + 1) := by rw [h]; exact hI_s
theorem x_sub {x y : Nat} (h : y ≤ x) (hx : x < 2147483648) : Int32.ofNat x - Int32.ofNat y = Int32.ofNat (x - y) := by
  apply z_b_inj
  rw [z_b_sub, z_b_ofNat hx, z_b_ofNat (by omega), z_b_ofNat (by omega)]
  omega
theorem x_vp {j : Int32} {a n : Nat} (h : j = Int32.ofNat a) (ha : a < n) (hn : n < 2147483648) : vp_in j n := by
  rw [h]
  exact z_vp.mpr (by rw [z_b_ofNat (by omega)]; omega)
theorem x_cl {j : Int32} {a : Nat} (h : j = Int32.ofNat a) (ha : a < 2147483648) : j.toNatClampNeg = a := by
  rw [h]
  exact hI_cl ha
/-! bytes of a text -/
def t_gof (c : Nat → Bool) (n : Nat) : Nat → Nat → Nat
  | 0, p => p
  | f + 1, p => bif Nat.blt p n && c p then t_gof c n f (p + 1) else p
def t_go (c : Nat → Bool) (n p : Nat) : Nat := t_gof c n (n - p) p
theorem t_go_n {c : Nat → Bool} {n p : Nat} (h : ¬ p < n) : t_go c n p = p := by
  unfold t_go
  rw [show n - p = 0 by omega]
  rfl
theorem t_go_x {c : Nat → Bool} {n p : Nat} (h : c p = false) : t_go c n p = p := by
  unfold t_go
  cases n - p with
  | zero => rfl
  | succ f =>
    show (bif Nat.blt p n && c p then t_gof c n f (p + 1) else p) = p
    rw [h, Bool.and_false]
    rfl
theorem t_go_s {c : Nat → Bool} {n p : Nat} (h : p < n) (hc : c p = true) : t_go c n p = t_go c n (p + 1) := by
  unfold t_go
  rw [show n - p = (n - (p + 1)) + 1 by omega]
  show (bif Nat.blt p n && c p then t_gof c n (n - (p + 1)) (p + 1) else p) = _
  rw [hc, show Nat.blt p n = true from Nat.ble_eq_true_of_le h]
  rfl
theorem t_go_all {c : Nat → Bool} {n : Nat} : ∀ (m p : Nat), n - p = m → p ≤ n → p ≤ t_go c n p ∧ t_go c n p ≤ n ∧ (t_go c n p < n → c (t_go c n p) = false) ∧ ∀ q, p ≤ q → q < t_go c n p → c q = true := by
  intro m
  induction m with
  | zero =>
    intro p hp hn
    rw [t_go_n (show ¬ p < n by omega)]
    exact ⟨Nat.le_refl _, hn, fun h => by omega, fun q h1 h2 => by omega⟩
  | succ m ih =>
    intro p hp hn
    cases hc : c p with
    | false =>
      rw [t_go_x hc]
      exact ⟨Nat.le_refl _, hn, fun _ => hc, fun q h1 h2 => by omega⟩
    | true =>
      obtain ⟨a, b, e, g⟩ := ih (p + 1) (by omega) (by omega)
      rw [t_go_s (show p < n by omega) hc]
      refine ⟨by omega, b, e, fun q h1 h2 => ?_⟩
      by_cases hq : q = p
      · rw [hq]
        exact hc
      · exact g q (by omega) h2
theorem t_go_ge {c : Nat → Bool} {n p : Nat} (h : p ≤ n) : p ≤ t_go c n p := (t_go_all _ p rfl h).1
theorem t_go_le {c : Nat → Bool} {n p : Nat} (h : p ≤ n) : t_go c n p ≤ n := (t_go_all _ p rfl h).2.1
theorem t_go_ge0 {c : Nat → Bool} {n p : Nat} : p ≤ t_go c n p := by
  by_cases h : p ≤ n
  · exact t_go_ge h
  · rw [t_go_n (by omega)]
    exact Nat.le_refl _
theorem t_go_le0 {c : Nat → Bool} {n p : Nat} : t_go c n p ≤ max n p := by
  by_cases h : p ≤ n
  · exact Nat.le_trans (t_go_le h) (Nat.le_max_left n p)
  · rw [t_go_n (by omega)]
    exact Nat.le_max_right n p
theorem t_go_id {c : Nat → Bool} {n p : Nat} (h : p ≤ n) : t_go c n (t_go c n p) = t_go c n p := by
  by_cases h2 : t_go c n p < n
  · exact t_go_x ((t_go_all _ p rfl h).2.2.1 h2)
  · exact t_go_n h2
def t_bl (r : Nat → Int32) (q : Nat) : Bool := decide (r q = 32)
def t_az (r : Nat → Int32) (q : Nat) : Bool := decide (97 ≤ r q) && decide (r q ≤ 122)
def t_09 (r : Nat → Int32) (q : Nat) : Bool := decide (48 ≤ r q) && decide (r q ≤ 57)
abbrev t_sk (r : Nat → Int32) (n p : Nat) : Nat := t_go (t_bl r) n p
theorem t_az_t {r : Nat → Int32} {q : Nat} (h1 : 97 ≤ r q) (h2 : r q ≤ 122) : t_az r q = true := by
  unfold t_az
  rw [decide_eq_true h1, decide_eq_true h2]
  rfl
theorem t_az_1 {r : Nat → Int32} {q : Nat} (h1 : ¬ 97 ≤ r q) : t_az r q = false := by
  unfold t_az
  rw [decide_eq_false h1]
  rfl
theorem t_az_2 {r : Nat → Int32} {q : Nat} (h1 : ¬ r q ≤ 122) : t_az r q = false := by
  unfold t_az
  rw [decide_eq_false h1, Bool.and_false]
theorem t_09_t {r : Nat → Int32} {q : Nat} (h1 : 48 ≤ r q) (h2 : r q ≤ 57) : t_09 r q = true := by
  unfold t_09
  rw [decide_eq_true h1, decide_eq_true h2]
  rfl
theorem t_09_1 {r : Nat → Int32} {q : Nat} (h1 : ¬ 48 ≤ r q) : t_09 r q = false := by
  unfold t_09
  rw [decide_eq_false h1]
  rfl
theorem t_09_2 {r : Nat → Int32} {q : Nat} (h1 : ¬ r q ≤ 57) : t_09 r q = false := by
  unfold t_09
  rw [decide_eq_false h1, Bool.and_false]
theorem x_nle {a b : Int32} (h : b < a) : ¬ a ≤ b := Int32.not_le.mpr h
theorem x_gen {a b : Int32} (h : ¬ a < b) : b ≤ a := Int32.not_lt.mp h
theorem x_len {a b : Int32} (h : ¬ b < a) : a ≤ b := Int32.not_lt.mp h
def t_val (r : Nat → Int32) (b : Nat) : Nat → Int32
  | 0 => 0
  | k + 1 => t_val r b k * 10 + r (b + k) - 48
def t_num (r : Nat → Int32) (n p : Nat) (lo hi : Int32) : Option (Int32 × Nat) :=
  if 1 ≤ t_go (t_09 r) n (t_sk r n p) - t_sk r n p ∧ t_go (t_09 r) n (t_sk r n p) - t_sk r n p ≤ 3 ∧ lo ≤ t_val r (t_sk r n p) (t_go (t_09 r) n (t_sk r n p) - t_sk r n p) ∧ t_val r (t_sk r n p) (t_go (t_09 r) n (t_sk r n p) - t_sk r n p) ≤ hi then some (t_val r (t_sk r n p) (t_go (t_09 r) n (t_sk r n p) - t_sk r n p), t_go (t_09 r) n (t_sk r n p)) else none
theorem t_num_ok {r : Nat → Int32} {n p : Nat} {lo hi : Int32} {x : Int32} {q : Nat} (h : t_num r n p lo hi = some (x, q)) (hp : p ≤ n) : lo ≤ x ∧ x ≤ hi ∧ p ≤ q ∧ q ≤ n := by
  unfold t_num at h
  split at h
  · rename_i hc
    cases h
    have h1 : p ≤ t_sk r n p := t_go_ge hp
    have h2 : t_sk r n p ≤ n := t_go_le hp
    have h3 : t_sk r n p ≤ t_go (t_09 r) n (t_sk r n p) := t_go_ge h2
    exact ⟨hc.2.2.1, hc.2.2.2, Nat.le_trans h1 h3, t_go_le h2⟩
  · cases h
theorem t_num_y {r : Nat → Int32} {n p b q : Nat} {lo hi : Int32} (hb : t_sk r n p = b) (hq : t_go (t_09 r) n b = q) (h1 : 1 ≤ q - b) (h2 : q - b ≤ 3) (h3 : lo ≤ t_val r b (q - b)) (h4 : t_val r b (q - b) ≤ hi) : t_num r n p lo hi = some (t_val r b (q - b), q) := by
  subst hb
  subst hq
  exact if_pos ⟨h1, h2, h3, h4⟩
theorem t_num_n {r : Nat → Int32} {n p b q : Nat} {lo hi : Int32} (hb : t_sk r n p = b) (hq : t_go (t_09 r) n b = q) (h : ¬ (1 ≤ q - b ∧ q - b ≤ 3 ∧ lo ≤ t_val r b (q - b) ∧ t_val r b (q - b) ≤ hi)) : t_num r n p lo hi = none := by
  subst hb
  subst hq
  exact if_neg h
def t_eqf (r : Nat → Int32) : Nat → List Nat → Bool
  | _, [] => true
  | p, c :: cs => decide (r p = Int32.ofNat c) && t_eqf r (p + 1) cs
def t_wd (r : Nat → Int32) (n p : Nat) (w : List Nat) : Bool := Nat.beq (t_go (t_az r) n (t_sk r n p) - t_sk r n p) w.length && t_eqf r (t_sk r n p) w
theorem t_eqf_iff {r : Nat → Int32} : ∀ {w : List Nat} {p : Nat}, t_eqf r p w = true ↔ ∀ i, i < w.length → r (p + i) = Int32.ofNat (w.getD i 0)
  | [], p => ⟨fun _ i h => by simp at h, fun _ => rfl⟩
  | c :: cs, p => by
    have ih := t_eqf_iff (r := r) (w := cs) (p := p + 1)
    show (decide (r p = Int32.ofNat c) && t_eqf r (p + 1) cs) = true ↔ _
    rw [Bool.and_eq_true, decide_eq_true_eq, ih]
    constructor
    · intro h i hi
      cases i with
      | zero => exact h.1
      | succ i =>
        have := h.2 i (by simpa using hi)
        rw [show p + (i + 1) = p + 1 + i by omega]
        simpa using this
    · intro h
      refine ⟨h 0 (by simp), fun i hi => ?_⟩
      have := h (i + 1) (by simpa using hi)
      rw [show p + (i + 1) = p + 1 + i by omega] at this
      simpa using this
def P3 : xF := fun k _ j => Nat.beq k 3 && !(Nat.beq j 3 || Nat.beq j 4)
def P3w : xF := fun k _ _ => Nat.beq k 3
theorem P3_w {A B : aM} (h : fr P3 A B) : fr P3w A B := fr_w h (fun k i j z => by
  show (Nat.beq k 3 && !(Nat.beq j 3 || Nat.beq j 4)) = false
  rw [show Nat.beq k 3 = false from z]
  rfl)
theorem aC_d {nS d e y : Nat} {as : List aV} {M : aM} {post : Option aV → aM → Prop} {px : Nat → aM → Prop} (h : aC nS d y as M post px) (he : d = e) : aC nS e y as M post px := by rw [← he]; exact h
theorem x_m1 {a : Nat} (h : a < 2147483648) : ¬ Int32.ofNat a = -1 := by
  intro z
  have h2 := congrArg z_b z
  rw [z_b_ofNat h, z_b_m1] at h2
  omega
theorem x_m1' {x : Int32} (h : 0 ≤ x) : ¬ x = -1 := by
  intro z
  rw [z] at h
  exact absurd h (by decide)
theorem t_size {nS d : Nat} {M : aM} : aC nS (d + 1) 134 [vR 1 0] M (fun v M' => v = some (vI (M.1 1 0 1)) ∧ M = M') (fun _ _ => False) := by
  refine aC_mk rfl rfl ?_
  intro K hK _
  exact hK _ _ _ _ (hK _ _ _ _ (hK _ _ _ _ ⟨rfl, rfl⟩))
