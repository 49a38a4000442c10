/-- how often a line that goes north is gone, less how often against it -/
def rri (c : Nat × Nat) (j : Nat) : List Nat → Int32
  | [] => 0
  | y :: l => rri c j l + (bif Nat.beq (y % 2) 1 && Nat.beq j (rlo y (rps c l) * 4 + (rps c l).1) then (bif Nat.beq y 3 then -1 else 1) else 0)
theorem rflat {w h y X Y : Nat} (w1 : 1 ≤ w) (w3 : w ≤ 3) (h1 : 1 ≤ h) (h3 : h ≤ 3) (hy : y < 4) (hX : X ≤ w) (hY : Y ≤ h) (hk : wok w h 0 y X Y = true) : (wX w 0 y X, wY h 0 y Y) = rmv y (X, Y) ∧ rmo y (X, Y) = true ∧ xco w h 0 (wX w 0 y X) (wY h 0 y Y) = (rmv y (X, Y)).2 * 4 + (rmv y (X, Y)).1 ∧ (y % 2 = 1 → xco w h 0 (wa w 0 y X) (wb h 0 y Y) = rlo y (X, Y) * 4 + X) := by
  have t := b_imp (b_imp (b_imp (bal_ok (bal_ok (bal_ok (sz_all (P := fun w h _ => bal 4 (fun y => bal 4 (fun X => bal 4 (fun Y => !(Nat.ble X w) || (!(Nat.ble Y h) || (!(wok w h 0 y X Y) || (Nat.beq (wX w 0 y X) (rmv y (X, Y)).1 && (Nat.beq (wY h 0 y Y) (rmv y (X, Y)).2 && (rmo y (X, Y) && (Nat.beq (xco w h 0 (wX w 0 y X) (wY h 0 y Y)) ((rmv y (X, Y)).2 * 4 + (rmv y (X, Y)).1) && (!(Nat.beq (y % 2) 1) || Nat.beq (xco w h 0 (wa w 0 y X) (wb h 0 y Y)) (rlo y (X, Y) * 4 + X))))))))))) ) (by decide +kernel) w1 w3 h1 h3 (show 0 ≤ 2 by decide)) hy) (show X < 4 by omega)) (show Y < 4 by omega)) (Nat.ble_eq_true_of_le hX)) (Nat.ble_eq_true_of_le hY)) hk
  rw [Bool.and_eq_true, Bool.and_eq_true, Bool.and_eq_true, Bool.and_eq_true] at t
  obtain ⟨a1, a2, a3, a4, a5⟩ := t
  exact ⟨Prod.ext (Nat.eq_of_beq_eq_true a1) (Nat.eq_of_beq_eq_true a2), a3, Nat.eq_of_beq_eq_true a4, fun z => Nat.eq_of_beq_eq_true (b_imp a5 (x_beq z))⟩
/-- no corner beyond a column -/
def rin (w : Nat) (c : Nat × Nat) : List Nat → Bool
  | [] => Nat.ble c.1 w
  | y :: l => Nat.ble (rmv y (rps c l)).1 w && rin w c l
/-- nor beyond a row -/
def rjn (h : Nat) (c : Nat × Nat) : List Nat → Bool
  | [] => Nat.ble c.2 h
  | y :: l => Nat.ble (rmv y (rps c l)).2 h && rjn h c l
/-- visits and rises by the ways gone, on a flat board -/
def JV (e : xB) (c : Nat × Nat) (t : xW) (M : aM) : Prop := e.2.1.2.2 = 0 → ((c.1 ≤ 3 ∧ c.2 ≤ 3) ∧ t.1 = rps c t.2.2 ∧ rok c t.2.2 = true ∧ rin e.2.1.1 c t.2.2 = true ∧ rjn e.2.1.2.1 c t.2.2 = true) ∧ (∀ j, j < 16 → M.1 18 0 j = Int32.ofNat (rvs c j t.2.2)) ∧ ∀ j, j < 16 → M.1 19 0 j = rri c j t.2.2
theorem JV_ok {e : xB} (w1 : 1 ≤ e.2.1.1) (w3 : e.2.1.1 ≤ 3) (h1 : 1 ≤ e.2.1.2.1) (h3 : e.2.1.2.1 ≤ 3) (c : Nat × Nat) : JOK e c (JV e c) := by
  refine ⟨fun t M M' hM h s0 => ?_, fun y t u M M' hy ho hg hv h s0 => ?_, fun M c1 c2 hz s0 => ?_⟩
  · obtain ⟨a, b, d⟩ := h s0
    exact ⟨a, fun j hj => (hM j).1.trans (b j hj), fun j hj => (hM j).2.trans (d j hj)⟩
  · obtain ⟨⟨a0, a1, a2, a3, a4⟩, b, d⟩ := h s0
    unfold wgo1 at hg
    obtain ⟨v1, v2⟩ := hv
    rw [s0] at hg v1 v2
    cases hk : wok e.2.1.1 e.2.1.2.1 0 y t.1.1 t.1.2 with
    | false =>
      rw [hk] at hg
      cases hg
    | true =>
      rw [hk, cond_true] at hg
      have e9 := Option.some.inj hg
      subst e9
      obtain ⟨f1, f2, f3, f4⟩ := rflat w1 w3 h1 h3 hy ho.1 ho.2.1 hk
      have kw := ((wtab (way := y) w1 w3 h1 h3 (show 0 ≤ 2 by decide) hy ho.1 ho.2.1).2.2 hk).1
      have kh := ((wtab (way := y) w1 w3 h1 h3 (show 0 ≤ 2 by decide) hy ho.1 ho.2.1).2.2 hk).2.1
      have et : (t.1.1, t.1.2) = rps c t.2.2 := a1
      rw [et] at f1 f2 f3 f4
      refine ⟨⟨a0, f1, ?_, ?_, ?_⟩, fun j hj => ?_, fun j hj => ?_⟩
      · show (Nat.blt y 4 && (rmo y (rps c t.2.2) && rok c t.2.2)) = true
        rw [x_blt hy, f2, a2]
        rfl
      · show (Nat.ble (rmv y (rps c t.2.2)).1 e.2.1.1 && rin e.2.1.1 c t.2.2) = true
        rw [← f1, a3, Nat.ble_eq_true_of_le kw]
        rfl
      · show (Nat.ble (rmv y (rps c t.2.2)).2 e.2.1.2.1 && rjn e.2.1.2.1 c t.2.2) = true
        rw [← f1, a4, Nat.ble_eq_true_of_le kh]
        rfl
      · have v1 := v1 j
        rw [v1]
        show (if j = xco e.2.1.1 e.2.1.2.1 0 (wX e.2.1.1 0 y t.1.1) (wY e.2.1.2.1 0 y t.1.2) then _ else _) = Int32.ofNat (rvs c j t.2.2 + (bif Nat.beq j ((rmv y (rps c t.2.2)).2 * 4 + (rmv y (rps c t.2.2)).1) then 1 else 0))
        rw [f3, b j hj]
        by_cases hq : j = (rmv y (rps c t.2.2)).2 * 4 + (rmv y (rps c t.2.2)).1
        · rw [if_pos hq, x_beq hq]
          exact hI_s
        · rw [if_neg hq, x_nbeq hq]
          rfl
      · have v2 := v2 j
        rw [v2]
        show _ = rri c j t.2.2 + (bif Nat.beq (y % 2) 1 && Nat.beq j (rlo y (rps c t.2.2) * 4 + (rps c t.2.2).1) then (bif Nat.beq y 3 then -1 else 1) else 0)
        rw [d j hj]
        have e1 : t.1.1 = (rps c t.2.2).1 := congrArg Prod.fst a1
        by_cases hq : y % 2 = 1
        · have f4 := f4 hq
          rw [e1] at f4
          by_cases hj2 : j = rlo y (rps c t.2.2) * 4 + (rps c t.2.2).1
          · rw [if_pos ⟨hq, hj2.trans (by rw [e1, f4])⟩, x_beq hq, x_beq hj2]
            by_cases h9 : y = 3
            · rw [if_pos h9, x_beq h9]
              rfl
            · rw [if_neg h9, x_nbeq h9]
              rfl
          · rw [if_neg (fun z => hj2 (z.2.trans (by rw [e1, f4]))), x_nbeq hj2, Bool.and_false]
            exact (Int32.add_zero _).symm
        · rw [if_neg (fun z => hq z.1), x_nbeq hq]
          exact (Int32.add_zero _).symm
  · exact ⟨⟨⟨Nat.le_trans c1 w3, Nat.le_trans c2 h3⟩, rfl, rfl, Nat.ble_eq_true_of_le c1, Nat.ble_eq_true_of_le c2⟩, fun j hj => (hz j hj).1, fun j hj => (hz j hj).2⟩
/-- numbers of a row, together -/
def wsu (R : Nat → Int32) (b : Nat) : Nat → Int32
  | 0 => 0
  | k + 1 => wsu R b k + R (b + k)
theorem wsu_0 {R : Nat → Int32} {b : Nat} : ∀ k, (∀ i, i < k → R (b + i) = 0) → wsu R b k = 0
  | 0, _ => rfl
  | k + 1, h => by
    show wsu R b k + R (b + k) = 0
    rw [wsu_0 k (fun i hi => h i (by omega)), h k (Nat.lt_succ_self k)]
    rfl
theorem wsu_1 {R : Nat → Int32} {b m : Nat} {z : Int32} : ∀ k, m < k → R (b + m) = z → (∀ i, i < k → ¬ i = m → R (b + i) = 0) → wsu R b k = z
  | 0, h, _, _ => absurd h (Nat.not_lt_zero _)
  | k + 1, h, hz, h0 => by
    show wsu R b k + R (b + k) = z
    by_cases he : m = k
    · subst he
      rw [wsu_0 m (fun i hi => h0 i (by omega) (by omega)), hz]
      exact Int32.zero_add _
    · rw [wsu_1 k (by omega) hz (fun i hi hn => h0 i (by omega) hn), h0 k (Nat.lt_succ_self k) (fun z => he z.symm)]
      exact Int32.add_zero _
theorem wsu_a {R S : Nat → Int32} {b : Nat} : ∀ k, wsu (fun j => R j + S j) b k = wsu R b k + wsu S b k
  | 0 => rfl
  | k + 1 => by
    show wsu (fun j => R j + S j) b k + (R (b + k) + S (b + k)) = (wsu R b k + R (b + k)) + (wsu S b k + S (b + k))
    rw [wsu_a k, Int32.add_assoc, Int32.add_assoc, ← Int32.add_assoc (wsu S b k), Int32.add_comm (wsu S b k), Int32.add_assoc (R (b + k))]
theorem wsu_rwn {c : Nat × Nat} {w sx sy : Nat} (w3 : w ≤ 3) (hx : sx < w) : ∀ l : List Nat, rin w c l = true → wsu (fun j => rri c j l) (sy * 4 + sx + 1) (w - sx) = Int32.ofInt (rwn c sx sy l)
  | [], _ => wsu_0 _ (fun _ _ => rfl)
  | y :: l, h => by
    have h : (Nat.ble (rmv y (rps c l)).1 w && rin w c l) = true := h
    rw [Bool.and_eq_true] at h
    have ih := wsu_rwn (sy := sy) w3 hx l h.2
    have hX : (rps c l).1 ≤ w := by
      cases l with
      | nil => exact Nat.le_of_ble_eq_true h.2
      | cons z l =>
        have h5 : (Nat.ble (rmv z (rps c l)).1 w && rin w c l) = true := h.2
        rw [Bool.and_eq_true] at h5
        exact Nat.le_of_ble_eq_true h5.1
    have e1 : wsu (fun j => rri c j (y :: l)) (sy * 4 + sx + 1) (w - sx) = wsu (fun j => rri c j l) (sy * 4 + sx + 1) (w - sx) + wsu (fun j => (bif Nat.beq (y % 2) 1 && Nat.beq j (rlo y (rps c l) * 4 + (rps c l).1) then (bif Nat.beq y 3 then -1 else 1) else 0)) (sy * 4 + sx + 1) (w - sx) := wsu_a _
    rw [e1, ih]
    show _ = Int32.ofInt (rwn c sx sy l + (bif Nat.beq (y % 2) 1 && (Nat.beq (rlo y (rps c l)) sy && Nat.blt sx (rps c l).1) then (bif Nat.beq y 3 then -1 else 1) else 0))
    rw [Int32.ofInt_add]
    congr 1
    by_cases hc : y % 2 = 1 ∧ rlo y (rps c l) = sy ∧ sx < (rps c l).1
    · obtain ⟨c1, c2, c3⟩ := hc
      rw [x_beq c1, x_beq c2, x_blt c3]
      refine Eq.trans (wsu_1 (m := (rps c l).1 - sx - 1) (w - sx) (by omega) (z := bif Nat.beq y 3 then -1 else 1) ?_ (fun i hi hn => ?_)) ?_
      · rw [x_beq (show sy * 4 + sx + 1 + ((rps c l).1 - sx - 1) = rlo y (rps c l) * 4 + (rps c l).1 by omega)]
        rfl
      · rw [x_nbeq (show ¬ sy * 4 + sx + 1 + i = rlo y (rps c l) * 4 + (rps c l).1 by omega)]
        rfl
      · cases Nat.beq y 3 <;> rfl
    · have h0 : (Nat.beq (y % 2) 1 && (Nat.beq (rlo y (rps c l)) sy && Nat.blt sx (rps c l).1)) = false := by
        cases hz : (Nat.beq (y % 2) 1 && (Nat.beq (rlo y (rps c l)) sy && Nat.blt sx (rps c l).1)) with
        | false => rfl
        | true =>
          rw [Bool.and_eq_true, Bool.and_eq_true] at hz
          exact absurd ⟨Nat.eq_of_beq_eq_true hz.1, Nat.eq_of_beq_eq_true hz.2.1, Nat.le_of_ble_eq_true hz.2.2⟩ hc
      rw [h0]
      refine wsu_0 _ (fun i hi => ?_)
      by_cases c1 : y % 2 = 1
      · rw [x_nbeq (show ¬ sy * 4 + sx + 1 + i = rlo y (rps c l) * 4 + (rps c l).1 from fun z => hc ⟨c1, by omega, by omega⟩), Bool.and_false]
        rfl
      · rw [x_nbeq c1]
        rfl
