theorem x01_eq {a b : Bool} (h : i01 a = i01 b) : (0 : Int32) = i01 (xor a b) := by
  cases a <;> cases b <;> first | rfl | exact absurd h (by decide)
theorem x01_ne {a b : Bool} (h : ¬ i01 a = i01 b) : (1 : Int32) = i01 (xor a b) := by
  cases a <;> cases b <;> first | rfl | exact absurd rfl h
/-- a step inside the sixteen corners -/
theorem rstep {y : Nat} {q : Nat × Nat} (hy : y < 4) (hq : q.1 ≤ 3 ∧ q.2 ≤ 3) (ho : rmo y q = true) : ((rmv y q).1 ≤ 3 ∧ (rmv y q).2 ≤ 3) ∧ (q.1 = (rmv y q).1 ↔ y % 2 = 1) ∧ (y % 2 = 1 → (if q.2 < (rmv y q).2 then q.2 else (rmv y q).2) = rlo y q) := by
  obtain ⟨h1, h2⟩ := hq
  rcases (show y = 0 ∨ y = 1 ∨ y = 2 ∨ y = 3 by omega) with rfl | rfl | rfl | rfl
  · have h : q.1 < 3 := Nat.le_of_ble_eq_true ho
    exact ⟨⟨show q.1 + 1 ≤ 3 by omega, h2⟩, ⟨fun z => absurd (show q.1 = q.1 + 1 from z) (by omega), fun z => absurd z (by decide)⟩, fun z => absurd z (by decide)⟩
  · have h : q.2 < 3 := Nat.le_of_ble_eq_true ho
    exact ⟨⟨h1, show q.2 + 1 ≤ 3 by omega⟩, ⟨fun _ => rfl, fun _ => rfl⟩, fun _ => if_pos (show q.2 < q.2 + 1 by omega)⟩
  · have h : 0 < q.1 := Nat.le_of_ble_eq_true ho
    exact ⟨⟨show q.1 - 1 ≤ 3 by omega, h2⟩, ⟨fun z => absurd (show q.1 = q.1 - 1 from z) (by omega), fun z => absurd z (by decide)⟩, fun z => absurd z (by decide)⟩
  · have h : 0 < q.2 := Nat.le_of_ble_eq_true ho
    exact ⟨⟨h1, show q.2 - 1 ≤ 3 by omega⟩, ⟨fun _ => rfl, fun _ => rfl⟩, fun _ => if_neg (show ¬ q.2 < q.2 - 1 by omega)⟩
/-- the first ways of a way -/
def rfi (l : List Nat) (i : Nat) : List Nat := l.drop (l.length - i)
theorem rpt_r {c : Nat × Nat} {l : List Nat} {i : Nat} : rpt c l i = rps c (rfi l i) := rfl
theorem rfi_0 {l : List Nat} : rfi l 0 = [] := by
  unfold rfi
  rw [Nat.sub_zero, List.drop_length]
theorem rfi_n {l : List Nat} : rfi l l.length = l := by
  unfold rfi
  rw [Nat.sub_self]
  rfl
theorem rfi_s {l : List Nat} {i : Nat} (h : i < l.length) : ∃ y, rfi l (i + 1) = y :: rfi l i := by
  have hb : l.length - (i + 1) < l.length := by omega
  have h2 := List.drop_eq_getElem_cons hb
  rw [show l.length - (i + 1) + 1 = l.length - i by omega] at h2
  exact ⟨_, h2⟩
theorem rok_c {c : Nat × Nat} {y : Nat} {l : List Nat} (h : rok c (y :: l) = true) : y < 4 ∧ rmo y (rps c l) = true ∧ rok c l = true := by
  have h : (Nat.blt y 4 && (rmo y (rps c l) && rok c l)) = true := h
  rw [Bool.and_eq_true, Bool.and_eq_true] at h
  exact ⟨Nat.le_of_ble_eq_true h.1, h.2⟩
theorem rok_drop {c : Nat × Nat} : ∀ (k : Nat) {l : List Nat}, rok c l = true → rok c (l.drop k) = true
  | 0, _, h => h
  | _ + 1, [], _ => rfl
  | k + 1, _ :: _, h => rok_drop k (rok_c h).2.2
theorem rfi_i {c : Nat × Nat} {l : List Nat} {i : Nat} (h : rok c l = true) (hi : i < l.length) : ∃ y, rfi l (i + 1) = y :: rfi l i ∧ y < 4 ∧ rmo y (rps c (rfi l i)) = true := by
  obtain ⟨y, hy⟩ := rfi_s hi
  have h2 : rok c (rfi l (i + 1)) = true := rok_drop _ h
  rw [hy] at h2
  exact ⟨y, hy, (rok_c h2).1, (rok_c h2).2.1⟩
theorem rps_3 {c : Nat × Nat} (c0 : c.1 ≤ 3 ∧ c.2 ≤ 3) : ∀ l : List Nat, rok c l = true → (rps c l).1 ≤ 3 ∧ (rps c l).2 ≤ 3
  | [], _ => c0
  | _ :: l, h => (rstep (rok_c h).1 (rps_3 c0 l (rok_c h).2.2) (rok_c h).2.1).1
theorem rpt_3 {c : Nat × Nat} {l : List Nat} (c0 : c.1 ≤ 3 ∧ c.2 ≤ 3) (ho : rok c l = true) (i : Nat) : (rpt c l i).1 ≤ 3 ∧ (rpt c l i).2 ≤ 3 := rps_3 c0 _ (rok_drop _ ho)
theorem cnt_1 {f : Nat → Bool} : ∀ n i, i < n → f i = true → 1 ≤ cnt f n
  | 0, _, h, _ => absurd h (Nat.not_lt_zero _)
  | n + 1, i, h, hf => by
    show 1 ≤ cnt f n + (bif f n then 1 else 0)
    by_cases he : i = n
    · rw [← he, hf]
      exact Nat.le_add_left 1 _
    · exact Nat.le_trans (cnt_1 n i (by omega) hf) (Nat.le_add_right _ _)
theorem cnt_2 {f : Nat → Bool} : ∀ n i j, i < j → j < n → f i = true → f j = true → 2 ≤ cnt f n
  | 0, _, _, _, h, _, _ => absurd h (Nat.not_lt_zero _)
  | n + 1, i, j, hij, hj, hi, hf => by
    show 2 ≤ cnt f n + (bif f n then 1 else 0)
    by_cases he : j = n
    · have h1 := cnt_1 n i (by omega) hi
      rw [he] at hf
      rw [hf]
      exact Nat.succ_le_succ h1
    · exact Nat.le_trans (cnt_2 n i j hij (by omega) hi hf) (Nat.le_add_right _ _)
theorem cnt_z {f : Nat → Bool} : ∀ n, (∀ i, i < n → f i = false) → cnt f n = 0
  | 0, _ => rfl
  | n + 1, h => by
    show cnt f n + (bif f n then 1 else 0) = 0
    rw [cnt_z n (fun i hi => h i (by omega)), h n (Nat.lt_succ_self n)]
    rfl
theorem cnt_le1 {f : Nat → Bool} : ∀ n, (∀ i j, i < j → j < n → f i = true → f j = true → False) → cnt f n ≤ 1
  | 0, _ => Nat.zero_le _
  | n + 1, h => by
    show cnt f n + (bif f n then 1 else 0) ≤ 1
    cases hf : f n with
    | false => exact cnt_le1 n (fun i j a b => h i j a (by omega))
    | true =>
      have hz : ∀ i, i < n → f i = false := fun i hi => by
        cases hz : f i with
        | false => rfl
        | true => exact absurd (h i n hi (Nat.lt_succ_self n) hz hf) id
      rw [cnt_z n hz]
      exact Nat.le_refl 1
theorem rvs_cnt {c : Nat × Nat} {j : Nat} : ∀ l : List Nat, rvs c j l = cnt (fun i => Nat.beq j (rco4 (rpt c l (i + 1)))) l.length
  | [] => rfl
  | y :: l => by
    have h1 : cnt (fun i => Nat.beq j (rco4 (rpt c (y :: l) (i + 1)))) l.length = cnt (fun i => Nat.beq j (rco4 (rpt c l (i + 1)))) l.length := cnt_e _ (fun i hi => by
      show Nat.beq j (rco4 (rpt c (y :: l) (i + 1))) = Nat.beq j (rco4 (rpt c l (i + 1)))
      rw [rpt_s (show i + 1 ≤ l.length from hi)])
    have h2 : rpt c (y :: l) (l.length + 1) = rmv y (rps c l) := rpt_e (c := c) (l := y :: l)
    show rvs c j l + (bif Nat.beq j ((rmv y (rps c l)).2 * 4 + (rmv y (rps c l)).1) then 1 else 0) = cnt (fun i => Nat.beq j (rco4 (rpt c (y :: l) (i + 1)))) l.length + (bif Nat.beq j (rco4 (rpt c (y :: l) (l.length + 1))) then 1 else 0)
    rw [h1, h2, rvs_cnt l]
    rfl
theorem rco4_lt {q : Nat × Nat} (h : q.1 ≤ 3 ∧ q.2 ≤ 3) : rco4 q < 16 := by
  obtain ⟨h1, h2⟩ := h
  show q.2 * 4 + q.1 < 16
  omega
theorem rco4_i {p q : Nat × Nat} (hp : p.1 ≤ 3) (hq : q.1 ≤ 3) (h : rco4 p = rco4 q) : p = q := by
  have h : p.2 * 4 + p.1 = q.2 * 4 + q.1 := h
  exact Prod.ext (by omega) (by omega)
/-- a closed way: no corner come to twice, told by counts and by pairs -/
theorem rvs_rds {c : Nat × Nat} {l : List Nat} (b3 : ∀ i, (rpt c l i).1 ≤ 3 ∧ (rpt c l i).2 ≤ 3) (hc : rps c l = c) : (∀ j, j < 16 → rvs c j l ≤ 1) ↔ ∀ b, b < l.length → ∀ a, a < b → ¬ rpt c l a = rpt c l b := by
  have en : rpt c l l.length = rpt c l 0 := by rw [rpt_e, rpt_0, hc]
  constructor
  · intro h b hb a ha he
    have hj := h (rco4 (rpt c l b)) (rco4_lt (b3 b))
    rw [rvs_cnt] at hj
    have fb : Nat.beq (rco4 (rpt c l b)) (rco4 (rpt c l (b - 1 + 1))) = true := by
      rw [show b - 1 + 1 = b by omega]
      exact Nat.beq_refl _
    by_cases a0 : a = 0
    · have fa : Nat.beq (rco4 (rpt c l b)) (rco4 (rpt c l (l.length - 1 + 1))) = true := by
        rw [show l.length - 1 + 1 = l.length by omega, en, ← he, a0]
        exact Nat.beq_refl _
      have := cnt_2 (f := fun i => Nat.beq (rco4 (rpt c l b)) (rco4 (rpt c l (i + 1)))) l.length (b - 1) (l.length - 1) (by omega) (by omega) fb fa
      omega
    · have fa : Nat.beq (rco4 (rpt c l b)) (rco4 (rpt c l (a - 1 + 1))) = true := by
        rw [show a - 1 + 1 = a by omega, he]
        exact Nat.beq_refl _
      have := cnt_2 (f := fun i => Nat.beq (rco4 (rpt c l b)) (rco4 (rpt c l (i + 1)))) l.length (a - 1) (b - 1) (by omega) (by omega) fa fb
      omega
  · intro h j hj
    rw [rvs_cnt]
    refine cnt_le1 _ (fun a b hab hb h1 h2 => ?_)
    have e1 : j = rco4 (rpt c l (a + 1)) := Nat.eq_of_beq_eq_true h1
    have e2 : j = rco4 (rpt c l (b + 1)) := Nat.eq_of_beq_eq_true h2
    have e3 := rco4_i (b3 (a + 1)).1 (b3 (b + 1)).1 (e1.symm.trans e2)
    by_cases hn : b + 1 = l.length
    · rw [hn, en] at e3
      exact h (a + 1) (by omega) 0 (by omega) e3.symm
    · exact h (b + 1) (by omega) (a + 1) (by omega) e3
theorem xco_f {w h a b : Nat} (ha : a ≤ w) (hb : b ≤ h) : xco w h 0 a b = b * 4 + a := by
  have e1 : xcx w 0 a = a := by
    unfold xcx
    rw [x_nbeq (show ¬ a = xcols w 0 from fun z => by have hw : xcols w 0 = w + 1 := rfl; omega)]
    rfl
  have e2 : xcy h 0 b = b := by
    unfold xcy
    rw [x_nbeq (show ¬ b = xrows h 0 from fun z => by have hw : xrows h 0 = h + 1 := rfl; omega)]
    rfl
  show xcy h 0 b * 4 + xcx w 0 a = b * 4 + a
  rw [e1, e2]
theorem rsm_f {e : xB} {c : Nat × Nat} {u : xW} (s0 : e.2.1.2.2 = 0) (ho : xWo e u) (c1 : c.1 ≤ e.2.1.1) (c2 : c.2 ≤ e.2.1.2.1) (w3 : e.2.1.1 ≤ 3) (hu : u.1 = rps c u.2.2) : Nat.beq (xco e.2.1.1 e.2.1.2.1 e.2.1.2.2 u.1.1 u.1.2) (xco e.2.1.1 e.2.1.2.1 e.2.1.2.2 c.1 c.2) = true ↔ rps c u.2.2 = c := by
  have a1 := ho.1
  rw [s0, xco_f ho.1 ho.2.1, xco_f c1 c2, ← hu]
  constructor
  · intro h
    have h := Nat.eq_of_beq_eq_true h
    exact Prod.ext (by omega) (by omega)
  · intro h
    rw [h]
    exact Nat.beq_refl _
theorem rar_b {c : Nat × Nat} (c0 : c.1 ≤ 3 ∧ c.2 ≤ 3) : ∀ l : List Nat, rok c l = true → -(9 * (l.length : Int)) ≤ rar c l ∧ rar c l ≤ 9 * (l.length : Int)
  | [], _ => ⟨Int.le_refl _, Int.le_refl _⟩
  | y :: l, h => by
    obtain ⟨i1, i2⟩ := rar_b c0 l (rok_c h).2.2
    have p0 := rps_3 c0 l (rok_c h).2.2
    have p1 := rps_3 c0 (y :: l) h
    have m1 : (rps c l).1 * (rmv y (rps c l)).2 ≤ 9 := Nat.mul_le_mul p0.1 p1.2
    have m2 : (rmv y (rps c l)).1 * (rps c l).2 ≤ 9 := Nat.mul_le_mul p1.1 p0.2
    have e1 : rar c (y :: l) = rar c l + (((rps c l).1 * (rmv y (rps c l)).2 : Nat) - ((rmv y (rps c l)).1 * (rps c l).2 : Nat) : Int) := rfl
    have e2 : ((y :: l).length : Int) = (l.length : Int) + 1 := rfl
    rw [e1, e2]
    generalize (rps c l).1 * (rmv y (rps c l)).2 = A at m1 ⊢
    generalize (rmv y (rps c l)).1 * (rps c l).2 = B at m2 ⊢
    omega
theorem rar_s {x y x' y' : Nat} {z : Int} {A : Int32} (hA : A = Int32.ofInt z) : A + (Int32.ofNat x * Int32.ofNat y' - Int32.ofNat x' * Int32.ofNat y) = Int32.ofInt (z + ((x : Int) * (y' : Int) - (x' : Int) * (y : Int))) := by
  rw [hA, Int32.ofInt_add, Int32.ofInt_sub, Int32.ofInt_mul, Int32.ofInt_mul, Int32.ofInt_eq_ofNat, Int32.ofInt_eq_ofNat, Int32.ofInt_eq_ofNat, Int32.ofInt_eq_ofNat]
theorem rar_ge {z : Int} (h1 : -1000 ≤ z) (h2 : z ≤ 1000) : (0 ≤ Int32.ofInt z) ↔ ¬ z < 0 := by
  rw [Int32.le_iff_toInt_le, Int32.toInt_ofInt_of_le (by omega) (by omega), show (0 : Int32).toInt = 0 from by decide]
  omega
theorem rwn_i {z : Int} (h1 : -1000 ≤ z) (h2 : z ≤ 1000) : (Int32.ofInt z < 0 ↔ z < 0) ∧ (Int32.ofInt z = 0 ↔ z = 0) := by
  refine ⟨?_, fun h => ?_, fun h => by rw [h]; rfl⟩
  · rw [Int32.lt_iff_toInt_lt, Int32.toInt_ofInt_of_le (by omega) (by omega), show (0 : Int32).toInt = 0 from by decide]
  · have h3 := congrArg Int32.toInt h
    rw [Int32.toInt_ofInt_of_le (by omega) (by omega), show (0 : Int32).toInt = 0 from by decide] at h3
    exact h3
/-- off the board nothing is within -/
theorem rwi_y {h : Nat} {c : Nat × Nat} {sx sy : Nat} (h1 : 1 ≤ h) (hs : h ≤ sy) : ∀ l : List Nat, rok c l = true → rjn h c l = true → rwi c sx sy l = false
  | [], _, _ => rfl
  | y :: l, ho, hj => by
    have hj : (Nat.ble (rmv y (rps c l)).2 h && rjn h c l) = true := hj
    rw [Bool.and_eq_true] at hj
    have hq : (rps c l).2 ≤ h := by
      cases l with
      | nil => exact Nat.le_of_ble_eq_true hj.2
      | cons z l =>
        have h5 : (Nat.ble (rmv z (rps c l)).2 h && rjn h c l) = true := hj.2
        rw [Bool.and_eq_true] at h5
        exact Nat.le_of_ble_eq_true h5.1
    have hr := Nat.le_of_ble_eq_true hj.1
    have ih := rwi_y (sx := sx) h1 hs l (rok_c ho).2.2 hj.2
    show xor (rwi c sx sy l) (Nat.beq (y % 2) 1 && (Nat.beq (rlo y (rps c l)) sy && Nat.ble (rps c l).1 sx)) = false
    rw [ih]
    have hz : (Nat.beq (y % 2) 1 && (Nat.beq (rlo y (rps c l)) sy && Nat.ble (rps c l).1 sx)) = false := by
      have y4 := (rok_c ho).1
      rcases (show y = 0 ∨ y = 1 ∨ y = 2 ∨ y = 3 by omega) with rfl | rfl | rfl | rfl
      · rfl
      · have hr : (rps c l).2 + 1 ≤ h := hr
        have e1 : rlo 1 (rps c l) = (rps c l).2 := rfl
        rw [x_nbeq (show ¬ rlo 1 (rps c l) = sy by omega)]
        rfl
      · rfl
      · have e1 : rlo 3 (rps c l) = (rps c l).2 - 1 := rfl
        rw [x_nbeq (show ¬ rlo 3 (rps c l) = sy by omega)]
        rfl
    rw [hz]
    rfl
theorem rwn_x {w : Nat} {c : Nat × Nat} {sx sy : Nat} (hs : w ≤ sx) : ∀ l : List Nat, rin w c l = true → rwn c sx sy l = 0
  | [], _ => rfl
  | y :: l, hj => by
    have hj : (Nat.ble (rmv y (rps c l)).1 w && rin w c l) = true := hj
    rw [Bool.and_eq_true] at hj
    have hq : (rps c l).1 ≤ w := by
      cases l with
      | nil => exact Nat.le_of_ble_eq_true hj.2
      | cons z l =>
        have h5 : (Nat.ble (rmv z (rps c l)).1 w && rin w c l) = true := hj.2
        rw [Bool.and_eq_true] at h5
        exact Nat.le_of_ble_eq_true h5.1
    show rwn c sx sy l + (bif Nat.beq (y % 2) 1 && (Nat.beq (rlo y (rps c l)) sy && Nat.blt sx (rps c l).1) then (bif Nat.beq y 3 then -1 else 1) else 0) = 0
    rw [rwn_x hs l hj.2, x_nblt (show ¬ sx < (rps c l).1 by omega), Bool.and_false, Bool.and_false]
    rfl
/-- what rpp says of a board's squares -/
theorem rpp_w {c : Nat × Nat} {l : List Nat} {sx sy : Nat} (h : rpp c l = true) (hx : sx < 3) (hy : sy < 3) : rwn c sx sy l = bif rwi c sx sy l then (if rar c l < 0 then -1 else 1) else 0 := by
  unfold rpp at h
  rw [Bool.and_eq_true] at h
  have h2 := List.all_eq_true.mp (List.all_eq_true.mp h.2 sx (List.mem_range.mpr hx)) sy (List.mem_range.mpr hy)
  exact of_decide_eq_true h2
theorem rpp_e {w h : Nat} {c : Nat × Nat} {l : List Nat} (hp : rpp c l = true) (h1 : 1 ≤ h) (ho : rok c l = true) (hi : rin w c l = true) (hj : rjn h c l = true) : ∃ sx sy, sx < w ∧ sy < h ∧ rwi c sx sy l = true := by
  have h0 := hp
  unfold rpp at h0
  rw [Bool.and_eq_true] at h0
  obtain ⟨sx, mx, h2⟩ := List.any_eq_true.mp h0.1
  obtain ⟨sy, my, h3⟩ := List.any_eq_true.mp h2
  have lx := List.mem_range.mp mx
  have ly := List.mem_range.mp my
  refine ⟨sx, sy, ?_, ?_, h3⟩
  · refine Classical.byContradiction (fun hw => ?_)
    have e1 := rpp_w hp lx ly
    rw [rwn_x (by omega) l hi, h3, cond_true] at e1
    by_cases hz : rar c l < 0
    · rw [if_pos hz] at e1
      exact absurd e1 (by decide)
    · rw [if_neg hz] at e1
      exact absurd e1 (by decide)
  · refine Classical.byContradiction (fun hw => ?_)
    have e1 := rwi_y (sx := sx) h1 (show h ≤ sy by omega) l ho hj
    rw [h3] at e1
    exact absurd e1 (by decide)
