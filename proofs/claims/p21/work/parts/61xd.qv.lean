/-- the points of a way, the first first -/
def rpt (c : Nat × Nat) (l : List Nat) (i : Nat) : Nat × Nat := rps c (l.drop (l.length - i))
theorem rpt_s {c : Nat × Nat} {y i : Nat} {l : List Nat} (h : i ≤ l.length) : rpt c (y :: l) i = rpt c l i := by
  unfold rpt
  rw [show (y :: l).length - i = (l.length - i) + 1 by rw [List.length_cons]; omega]
  rfl
theorem rpt_e {c : Nat × Nat} {l : List Nat} : rpt c l l.length = rps c l := by
  unfold rpt
  rw [Nat.sub_self]
  rfl
theorem rpt_0 {c : Nat × Nat} {l : List Nat} : rpt c l 0 = c := by
  unfold rpt
  rw [Nat.sub_zero, List.drop_length]
  rfl
/-- the path by the ways gone, on a flat board -/
def QV (e : xB) (c : Nat × Nat) (t : xW) (M : aM) : Prop := e.2.1.2.2 = 0 → ((c.1 ≤ 3 ∧ c.2 ≤ 3) ∧ t.1 = rps c t.2.2 ∧ rok c t.2.2 = true ∧ rin e.2.1.1 c t.2.2 = true ∧ rjn e.2.1.2.1 c t.2.2 = true) ∧ ∀ i, i ≤ t.2.2.length → M.1 41 0 i = Int32.ofNat (rpt c t.2.2 i).1 ∧ M.1 42 0 i = Int32.ofNat (rpt c t.2.2 i).2
theorem QV_ok {e : xB} (w1 : 1 ≤ e.2.1.1) (w3 : e.2.1.1 ≤ 3) (h1 : 1 ≤ e.2.1.2.1) (h3 : e.2.1.2.1 ≤ 3) (c : Nat × Nat) : QOK e c (QV e c) := by
  refine ⟨fun t M M' hM h s0 => ?_, fun y t u M M' hy ho hg hv hw h s0 => ?_, fun M c1 c2 m1 m2 s0 => ?_⟩
  · obtain ⟨a, b⟩ := h s0
    exact ⟨a, fun i hi => ⟨(hM i).1.trans (b i hi).1, (hM i).2.trans (b i hi).2⟩⟩
  · obtain ⟨⟨a0, a1, a2, a3, a4⟩, b⟩ := h s0
    unfold wgo1 at hg
    rw [s0] at hg
    cases hk : wok e.2.1.1 e.2.1.2.1 0 y t.1.1 t.1.2 with
    | false =>
      rw [hk] at hg
      cases hg
    | true =>
      rw [hk, cond_true] at hg
      have e9 := Option.some.inj hg
      subst e9
      obtain ⟨f1, f2, -, -⟩ := rflat w1 w3 h1 h3 hy ho.1 ho.2.1 hk
      have kw := ((wtab (way := y) w1 w3 h1 h3 (show 0 ≤ 2 by decide) hy ho.1 ho.2.1).2.2 hk).1
      have kh := ((wtab (way := y) w1 w3 h1 h3 (show 0 ≤ 2 by decide) hy ho.1 ho.2.1).2.2 hk).2.1
      have et : (t.1.1, t.1.2) = rps c t.2.2 := a1
      rw [et] at f1 f2
      refine ⟨⟨a0, f1, ?_, ?_, ?_⟩, fun i hi => ?_⟩
      · show (Nat.blt y 4 && (rmo y (rps c t.2.2) && rok c t.2.2)) = true
        rw [x_blt hy, f2, a2]
        rfl
      · show (Nat.ble (rmv y (rps c t.2.2)).1 e.2.1.1 && rin e.2.1.1 c t.2.2) = true
        rw [← f1, a3, Nat.ble_eq_true_of_le kw]
        rfl
      · show (Nat.ble (rmv y (rps c t.2.2)).2 e.2.1.2.1 && rjn e.2.1.2.1 c t.2.2) = true
        rw [← f1, a4, Nat.ble_eq_true_of_le kh]
        rfl
      · have hi : i ≤ t.2.2.length + 1 := hi
        have hv := hv i
        have hw := hw i
        by_cases he : i = t.2.2.length + 1
        · have ep : rpt c (y :: t.2.2) i = (wX e.2.1.1 0 y t.1.1, wY e.2.1.2.1 0 y t.1.2) := by
            rw [he]
            exact rpt_e.trans f1.symm
          refine ⟨hv.trans ?_, hw.trans ?_⟩
          · refine Eq.trans (if_pos he) ?_
            show _ = Int32.ofNat (rpt c (y :: t.2.2) i).1
            rw [ep]
          · refine Eq.trans (if_pos he) ?_
            show _ = Int32.ofNat (rpt c (y :: t.2.2) i).2
            rw [ep]
        · have h5 := b i (by omega)
          refine ⟨hv.trans ?_, hw.trans ?_⟩
          · refine Eq.trans (if_neg he) ?_
            show _ = Int32.ofNat (rpt c (y :: t.2.2) i).1
            rw [rpt_s (by omega)]
            exact h5.1
          · refine Eq.trans (if_neg he) ?_
            show _ = Int32.ofNat (rpt c (y :: t.2.2) i).2
            rw [rpt_s (by omega)]
            exact h5.2
  · refine ⟨⟨⟨Nat.le_trans c1 w3, Nat.le_trans c2 h3⟩, rfl, rfl, Nat.ble_eq_true_of_le c1, Nat.ble_eq_true_of_le c2⟩, fun i hi => ?_⟩
    have h0 : i = 0 := Nat.le_zero.mp hi
    subst h0
    exact ⟨m1, m2⟩
