/-- a way gone on a flat board -/
def rmv (y : Nat) (q : Nat × Nat) : Nat × Nat := bif Nat.beq y 0 then (q.1 + 1, q.2) else bif Nat.beq y 1 then (q.1, q.2 + 1) else bif Nat.beq y 2 then (q.1 - 1, q.2) else (q.1, q.2 - 1)
def rmo (y : Nat) (q : Nat × Nat) : Bool := bif Nat.beq y 0 then Nat.blt q.1 3 else bif Nat.beq y 1 then Nat.blt q.2 3 else bif Nat.beq y 2 then Nat.blt 0 q.1 else Nat.blt 0 q.2
/-- where ways lead, the last first -/
def rps (c : Nat × Nat) : List Nat → Nat × Nat
  | [] => c
  | y :: l => rmv y (rps c l)
def rok (c : Nat × Nat) : List Nat → Bool
  | [] => true
  | y :: l => Nat.blt y 4 && (rmo y (rps c l) && rok c l)
def rlo (y : Nat) (q : Nat × Nat) : Nat := bif Nat.beq y 3 then q.2 - 1 else q.2
/-- how often a corner is come to -/
def rvs (c : Nat × Nat) (j : Nat) : List Nat → Nat
  | [] => 0
  | y :: l => rvs c j l + (bif Nat.beq j ((rmv y (rps c l)).2 * 4 + (rmv y (rps c l)).1) then 1 else 0)
/-- how often it goes round a square, told from the right; whether, told from the left; twice the area, and more -/
def rwn (c : Nat × Nat) (sx sy : Nat) : List Nat → Int
  | [] => 0
  | y :: l => rwn c sx sy l + (bif Nat.beq (y % 2) 1 && (Nat.beq (rlo y (rps c l)) sy && Nat.blt sx (rps c l).1) then (bif Nat.beq y 3 then -1 else 1) else 0)
def rwi (c : Nat × Nat) (sx sy : Nat) : List Nat → Bool
  | [] => false
  | y :: l => xor (rwi c sx sy l) (Nat.beq (y % 2) 1 && (Nat.beq (rlo y (rps c l)) sy && Nat.ble (rps c l).1 sx))
def rar (c : Nat × Nat) : List Nat → Int
  | [] => 0
  | y :: l => rar c l + ((rps c l).1 * (rmv y (rps c l)).2 - (rmv y (rps c l)).1 * (rps c l).2 : Int)
/-- at its end -/
def rpp (c : Nat × Nat) (l : List Nat) : Bool := (List.range 3).any (fun sx => (List.range 3).any (fun sy => rwi c sx sy l)) && (List.range 3).all (fun sx => (List.range 3).all (fun sy => decide (rwn c sx sy l = bif rwi c sx sy l then (if rar c l < 0 then -1 else 1) else 0)))
def rdf : Nat → Nat × Nat → Nat × Nat → List Nat → Nat → Bool
  | 0, _, _, _, _ => false
  | n + 1, c, q, l, k => (List.range 4).all (fun y => bif rmo y q then (bif Nat.testBit k ((rmv y q).2 * 4 + (rmv y q).1) then true else bif Nat.beq (rmv y q).1 c.1 && Nat.beq (rmv y q).2 c.2 then (bif Nat.blt l.length 3 then true else rpp c (y :: l)) else rdf n c (rmv y q) (y :: l) (Nat.lor k (Nat.shiftLeft 1 ((rmv y q).2 * 4 + (rmv y q).1)))) else true)
def rco4 (q : Nat × Nat) : Nat := q.2 * 4 + q.1
theorem rdf_00 : rdf 16 (0, 0) (0, 0) [] 0 = true := by decide +kernel
theorem rdf_01 : rdf 16 (0, 1) (0, 1) [] 0 = true := by decide +kernel
theorem rdf_02 : rdf 16 (0, 2) (0, 2) [] 0 = true := by decide +kernel
theorem rdf_03 : rdf 16 (0, 3) (0, 3) [] 0 = true := by decide +kernel
theorem rdf_10 : rdf 16 (1, 0) (1, 0) [] 0 = true := by decide +kernel
theorem rdf_11 : rdf 16 (1, 1) (1, 1) [] 0 = true := by decide +kernel
theorem rdf_12 : rdf 16 (1, 2) (1, 2) [] 0 = true := by decide +kernel
theorem rdf_13 : rdf 16 (1, 3) (1, 3) [] 0 = true := by decide +kernel
theorem rdf_20 : rdf 16 (2, 0) (2, 0) [] 0 = true := by decide +kernel
theorem rdf_21 : rdf 16 (2, 1) (2, 1) [] 0 = true := by decide +kernel
theorem rdf_22 : rdf 16 (2, 2) (2, 2) [] 0 = true := by decide +kernel
theorem rdf_23 : rdf 16 (2, 3) (2, 3) [] 0 = true := by decide +kernel
theorem rdf_30 : rdf 16 (3, 0) (3, 0) [] 0 = true := by decide +kernel
theorem rdf_31 : rdf 16 (3, 1) (3, 1) [] 0 = true := by decide +kernel
theorem rdf_32 : rdf 16 (3, 2) (3, 2) [] 0 = true := by decide +kernel
theorem rdf_33 : rdf 16 (3, 3) (3, 3) [] 0 = true := by decide +kernel
theorem rdf_all {a b : Nat} (ha : a ≤ 3) (hb : b ≤ 3) : rdf 16 (a, b) (a, b) [] 0 = true := by
  rcases (show a = 0 ∨ a = 1 ∨ a = 2 ∨ a = 3 by omega) with rfl | rfl | rfl | rfl <;> rcases (show b = 0 ∨ b = 1 ∨ b = 2 ∨ b = 3 by omega) with rfl | rfl | rfl | rfl
  · exact rdf_00
  · exact rdf_01
  · exact rdf_02
  · exact rdf_03
  · exact rdf_10
  · exact rdf_11
  · exact rdf_12
  · exact rdf_13
  · exact rdf_20
  · exact rdf_21
  · exact rdf_22
  · exact rdf_23
  · exact rdf_30
  · exact rdf_31
  · exact rdf_32
  · exact rdf_33
theorem rap_rok {c : Nat × Nat} : ∀ (f : List Nat) {l : List Nat}, rok c (List.reverseAux f l) = true → rok c l = true
  | [], _, h => h
  | y :: f, l, h => by
    have h2 := rap_rok f (l := y :: l) h
    have h2 : (Nat.blt y 4 && (rmo y (rps c l) && rok c l)) = true := h2
    rw [Bool.and_eq_true, Bool.and_eq_true] at h2
    exact h2.2.2
theorem rap_rvs {c : Nat × Nat} {j : Nat} : ∀ (f : List Nat) {l : List Nat}, rvs c j l ≤ rvs c j (List.reverseAux f l)
  | [], _ => Nat.le_refl _
  | y :: f, l => Nat.le_trans (show rvs c j l ≤ rvs c j (y :: l) from Nat.le_add_right _ _) (rap_rvs f)
theorem rvs_s {c : Nat × Nat} {y : Nat} {l : List Nat} : rvs c (rco4 (rps c (y :: l))) (y :: l) = rvs c (rco4 (rps c (y :: l))) l + 1 := by
  show rvs c _ l + (bif Nat.beq (rco4 (rmv y (rps c l))) ((rmv y (rps c l)).2 * 4 + (rmv y (rps c l)).1) then 1 else 0) = _
  rw [show rco4 (rmv y (rps c l)) = (rmv y (rps c l)).2 * 4 + (rmv y (rps c l)).1 from rfl, Nat.beq_refl]
  rfl
theorem rap_end {c : Nat × Nat} : ∀ (f : List Nat) {l : List Nat}, f ≠ [] → rvs c (rco4 (rps c (List.reverseAux f l))) l + 1 ≤ rvs c (rco4 (rps c (List.reverseAux f l))) (List.reverseAux f l)
  | [], _, h => absurd rfl h
  | [y], l, _ => Nat.le_of_eq (rvs_s (c := c) (y := y) (l := l)).symm
  | y :: z :: f, l, _ => Nat.le_trans (Nat.succ_le_succ (show rvs c _ l ≤ rvs c _ (y :: l) from Nat.le_add_right _ _)) (rap_end (z :: f) (l := y :: l) (fun h => by cases h))
theorem rdf_ok {c : Nat × Nat} : ∀ (f : List Nat) {n k : Nat} {q : Nat × Nat} {l : List Nat}, rdf n c q l k = true → rps c l = q → (∀ j, Nat.testBit k j = true → 1 ≤ rvs c j l) → f ≠ [] → rok c (List.reverseAux f l) = true → (∀ j, rvs c j (List.reverseAux f l) ≤ 1) → rps c (List.reverseAux f l) = c → 4 ≤ (List.reverseAux f l).length → rpp c (List.reverseAux f l) = true
  | [], _, _, _, _, _, _, _, h, _, _, _, _ => absurd rfl h
  | y :: f, 0, _, _, _, h, _, _, _, _, _, _, _ => by cases h
  | y :: f, n + 1, k, q, l, h, hq, hk, _, ho, hv, hc, h4 => by
    have h2 : (Nat.blt y 4 && (rmo y (rps c l) && rok c l)) = true := rap_rok f (l := y :: l) ho
    rw [Bool.and_eq_true, Bool.and_eq_true, hq] at h2
    have y4 : y < 4 := Nat.le_of_ble_eq_true h2.1
    have hy := List.all_eq_true.mp h y (List.mem_range.mpr y4)
    rw [h2.2.1, cond_true] at hy
    have e1 : rps c (y :: l) = rmv y q := by
      show rmv y (rps c l) = _
      rw [hq]
    have r1 : rvs c (rco4 (rmv y q)) (y :: l) = rvs c (rco4 (rmv y q)) l + 1 := by
      have := rvs_s (c := c) (y := y) (l := l)
      rw [e1] at this
      exact this
    have hv2 := Nat.le_trans (rap_rvs (c := c) (j := rco4 (rmv y q)) f (l := y :: l)) (hv (rco4 (rmv y q)))
    cases hb : Nat.testBit k ((rmv y q).2 * 4 + (rmv y q).1) with
    | true =>
      have h1 : 1 ≤ rvs c (rco4 (rmv y q)) l := hk _ hb
      omega
    | false =>
      rw [hb, cond_false] at hy
      cases hz : (Nat.beq (rmv y q).1 c.1 && Nat.beq (rmv y q).2 c.2) with
      | true =>
        rw [hz, cond_true] at hy
        rw [Bool.and_eq_true] at hz
        have ec : rmv y q = c := Prod.ext (Nat.eq_of_beq_eq_true hz.1) (Nat.eq_of_beq_eq_true hz.2)
        cases f with
        | nil =>
          have h5 : 4 ≤ l.length + 1 := h4
          have h6 : Nat.blt l.length 3 = false := x_nblt (by omega)
          rw [h6, cond_false] at hy
          exact hy
        | cons z f =>
          have h5 := rap_end (c := c) (z :: f) (l := y :: l) (fun h => by cases h)
          have h6 : rps c (List.reverseAux (z :: f) (y :: l)) = c := hc
          rw [h6] at h5
          rw [ec] at r1
          have h7 : rvs c (rco4 c) (List.reverseAux (z :: f) (y :: l)) ≤ 1 := hv (rco4 c)
          omega
      | false =>
        rw [hz, cond_false] at hy
        refine rdf_ok f hy e1 (fun j hj => ?_) (fun h => ?_) ho hv hc h4
        · have hj : Nat.testBit (k ||| 1 <<< (rco4 (rmv y q))) j = true := hj
          rw [Nat.testBit_or, Nat.one_shiftLeft, Nat.testBit_two_pow, Bool.or_eq_true] at hj
          rcases hj with hj | hj
          · exact Nat.le_trans (hk j hj) (Nat.le_add_right _ _)
          · have hj := of_decide_eq_true hj
            rw [← hj, r1]
            exact Nat.le_add_left 1 _
        · subst h
          have h6 : rps c (y :: l) = c := hc
          rw [e1] at h6
          rw [h6, Nat.beq_refl, Nat.beq_refl] at hz
          cases hz
/-- a closed way of four lines and more that comes to no corner twice winds round squares by its sign -/
theorem rpp_ok {c : Nat × Nat} {l : List Nat} (c1 : c.1 ≤ 3) (c2 : c.2 ≤ 3) (ho : rok c l = true) (hv : ∀ j, rvs c j l ≤ 1) (hc : rps c l = c) (h4 : 4 ≤ l.length) : rpp c l = true := by
  have e1 : List.reverseAux l.reverse [] = l := by
    show l.reverse.reverse = l
    exact List.reverse_reverse l
  have h0 : rdf 16 c c [] 0 = true := rdf_all c1 c2
  have h := rdf_ok (c := c) l.reverse (n := 16) (k := 0) (q := c) (l := []) h0 rfl (fun j hj => by rw [Nat.zero_testBit] at hj; cases hj) (fun z => by
    have := congrArg List.length z
    rw [List.length_reverse] at this
    have : l.length = 0 := this
    omega)
  rw [e1] at h
  exact h ho hv hc h4
