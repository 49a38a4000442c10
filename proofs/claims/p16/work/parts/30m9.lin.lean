def bal (n : Nat) (f : Nat → Bool) : Bool := (List.range n).all f
theorem bal_ok {n : Nat} {f : Nat → Bool} (h : bal n f = true) {i : Nat} (hi : i < n) : f i = true := List.all_eq_true.mp h i (List.mem_range.mpr hi)
theorem b_imp {a b : Bool} (h : (!a || b) = true) (ha : a = true) : b = true := by
  rw [ha] at h
  exact h
theorem b_and {a b : Bool} (ha : a = true) (hb : b = true) : (a && b) = true := by rw [ha, hb]; rfl
def beqB (a b : Bool) : Bool := bif a then b else !b
theorem beqB_e {a b : Bool} (h : beqB a b = true) : a = b := by
  cases a with
  | true => cases b with
    | true => rfl
    | false => cases h
  | false => cases b with
    | true => cases h
    | false => rfl
/-- sizes and shapes that there are -/
def sz : List (Nat × Nat × Nat) := (List.range 3).flatMap (fun w => (List.range 3).flatMap (fun h => (List.range 3).map (fun s => (w + 1, h + 1, s))))
theorem sz_all {P : Nat → Nat → Nat → Bool} (hP : sz.all (fun e => P e.1 e.2.1 e.2.2) = true) {w h s : Nat} (w1 : 1 ≤ w) (w3 : w ≤ 3) (h1 : 1 ≤ h) (h3 : h ≤ 3) (s2 : s ≤ 2) : P w h s = true := by
  refine List.all_eq_true.mp hP (w, h, s) ?_
  refine List.mem_flatMap.mpr ⟨w - 1, List.mem_range.mpr (by omega), List.mem_flatMap.mpr ⟨h - 1, List.mem_range.mpr (by omega), List.mem_map.mpr ⟨s, List.mem_range.mpr (by omega), ?_⟩⟩⟩
  rw [show w - 1 + 1 = w by omega, show h - 1 + 1 = h by omega]
/-- whether there is a line, by the class's number; its number of the reference; how many; the class's corner at its end -/
def hl (w h s l : Nat) : Bool := bif Nat.beq (l % 2) 0 then Nat.blt (l / 2 % 4) w && Nat.blt (l / 2 / 4) (xrows h s) else Nat.blt (l / 2 % 4) (xcols w s) && Nat.blt (l / 2 / 4) h
def lm (w h s l : Nat) : Nat := bif Nat.beq (l % 2) 0 then l / 2 / 4 * w + l / 2 % 4 else w * xrows h s + l / 2 / 4 * xcols w s + l / 2 % 4
def lmy (w h s : Nat) : Nat := w * xrows h s + h * xcols w s
def len (w h s l : Nat) : Nat := bif Nat.beq (l % 2) 0 then xco w h s (l / 2 % 4 + 1) (l / 2 / 4) else xco w h s (l / 2 % 4) (l / 2 / 4 + 1)
theorem lm_lt {w h s l : Nat} (w1 : 1 ≤ w) (w3 : w ≤ 3) (h1 : 1 ≤ h) (h3 : h ≤ 3) (s2 : s ≤ 2) (l32 : l < 32) (hv : hl w h s l = true) : lm w h s l < lmy w h s := by
  have h := b_imp (bal_ok (sz_all (P := fun w h s => bal 32 (fun l => !(hl w h s l) || Nat.blt (lm w h s l) (lmy w h s))) (by decide +kernel) w1 w3 h1 h3 s2) l32) hv
  exact Nat.le_of_ble_eq_true h
theorem lmy_le {w h s : Nat} (w1 : 1 ≤ w) (w3 : w ≤ 3) (h1 : 1 ≤ h) (h3 : h ≤ 3) (s2 : s ≤ 2) : lmy w h s ≤ 24 := Nat.le_of_ble_eq_true (sz_all (P := fun w h s => Nat.ble (lmy w h s) 24) (by decide +kernel) w1 w3 h1 h3 s2)
theorem lm_inj {w h s l l2 : Nat} (w1 : 1 ≤ w) (w3 : w ≤ 3) (h1 : 1 ≤ h) (h3 : h ≤ 3) (s2 : s ≤ 2) (l32 : l < 32) (m32 : l2 < 32) (hv : hl w h s l = true) (hv2 : hl w h s l2 = true) (he : lm w h s l = lm w h s l2) : l = l2 := by
  have h := b_imp (b_imp (b_imp (bal_ok (bal_ok (sz_all (P := fun w h s => bal 32 (fun l => bal 32 (fun l2 => !(hl w h s l) || (!(hl w h s l2) || (!(Nat.beq (lm w h s l) (lm w h s l2)) || Nat.beq l l2))))) (by decide +kernel) w1 w3 h1 h3 s2) l32) m32) hv) hv2) (x_beq he)
  exact Nat.eq_of_beq_eq_true h
theorem xln_hl {w h s a b n : Nat} (w1 : 1 ≤ w) (w3 : w ≤ 3) (h1 : 1 ≤ h) (h3 : h ≤ 3) (s2 : s ≤ 2) (ha : a ≤ w) (hb : b ≤ h) (hn : n ≤ 1) (hv : xlv w h s a b n = true) : hl w h s (xln w h s a b n) = true ∧ lm w h s (xln w h s a b n) = rln w h s a b n := by
  have h := b_imp (bal_ok (bal_ok (bal_ok (sz_all (P := fun w h s => bal 4 (fun a => bal 4 (fun b => bal 2 (fun n => !(xlv w h s a b n) || (hl w h s (xln w h s a b n) && Nat.beq (lm w h s (xln w h s a b n)) (rln w h s a b n)))))) (by decide +kernel) w1 w3 h1 h3 s2) (show a < 4 by omega)) (show b < 4 by omega)) (show n < 2 by omega)) hv
  rw [Bool.and_eq_true] at h
  exact ⟨h.1, Nat.eq_of_beq_eq_true h.2⟩
theorem lm_sur {w h s k : Nat} (w1 : 1 ≤ w) (w3 : w ≤ 3) (h1 : 1 ≤ h) (h3 : h ≤ 3) (s2 : s ≤ 2) (hk : k < lmy w h s) : ∃ l, l < 32 ∧ hl w h s l = true ∧ lm w h s l = k := by
  have h := b_imp (bal_ok (sz_all (P := fun w h s => bal 24 (fun k => !(Nat.blt k (lmy w h s)) || (List.range 32).any (fun l => hl w h s l && Nat.beq (lm w h s l) k))) (by decide +kernel) w1 w3 h1 h3 s2) (show k < 24 from Nat.lt_of_lt_of_le hk (lmy_le w1 w3 h1 h3 s2))) (x_blt hk)
  obtain ⟨l, hl1, h2⟩ := List.any_eq_true.mp h
  rw [Bool.and_eq_true] at h2
  exact ⟨l, List.mem_range.mp hl1, h2.1, Nat.eq_of_beq_eq_true h2.2⟩
/-- what lines hold: turns; those of the reference's row, from a place on -/
def lO (w h s o : Nat) (S : Nat → Int32) : Prop := ∀ l, l < 32 → hl w h s l = true → ∃ a, a < o ∧ S l = Int32.ofNat a
def lR (q b : Nat) (M : aM) (w h s : Nat) (S : Nat → Int32) : Prop := ∀ l, l < 32 → hl w h s l = true → M.1 q 0 (b + lm w h s l) = S l
def LL (q : Nat) (M : aM) (e : xB) : Prop := lR q 20 M e.2.1.1 e.2.1.2.1 e.2.1.2.2 e.2.2.2.2 ∧ lO e.2.1.1 e.2.1.2.1 e.2.1.2.2 e.1.2 e.2.2.2.2
theorem lm24 {e : xB} {l : Nat} (hk : okB e) (l32 : l < 32) (hv : hl e.2.1.1 e.2.1.2.1 e.2.1.2.2 l = true) : lm e.2.1.1 e.2.1.2.1 e.2.1.2.2 l < 24 := by
  obtain ⟨w1, w3, h1, h3, s2⟩ := hk
  exact Nat.lt_of_lt_of_le (lm_lt w1 w3 h1 h3 s2 l32 hv) (lmy_le w1 w3 h1 h3 s2)
theorem LL_f {q : Nat} {M M' : aM} {e : xB} (hk : okB e) (h : LL q M e) (hM : ∀ u, u < 24 → M'.1 q 0 (20 + u) = M.1 q 0 (20 + u)) : LL q M' e := ⟨fun l a c => (hM _ (lm24 hk a c)).trans (h.1 l a c), h.2⟩
theorem LL_0 {q : Nat} {M : aM} {e : xB} (hk : okB e) (ho : 0 < e.1.2) (hz : ∀ u, u < 24 → M.1 q 0 (20 + u) = 0) (h0 : ∀ j, e.2.2.2.2 j = 0) : LL q M e := ⟨fun l a c => (hz _ (lm24 hk a c)).trans (h0 l).symm, fun l _ _ => ⟨0, ho, h0 l⟩⟩
theorem LL_36 {A B : aM} {e : xB} (h : fr P36 A B) (hk : okB e) (hL : LL 37 A e) : LL 37 B e := LL_f hk hL (fun u _ => h.1 37 0 (20 + u) rfl)
theorem LL_line {M : aM} {e : xB} {a b z X Y : Nat} {t : Int32} (hk : okB e) (h : LL 37 M e) (ha : a ≤ e.2.1.1) (hb : b ≤ e.2.1.2.1) (hz : z ≤ 1) (hv : xlv e.2.1.1 e.2.1.2.1 e.2.1.2.2 a b z = true) (xa : X = a) (yb : Y = b) (ht : ∃ u, u < e.1.2 ∧ t = Int32.ofNat u) : LL 37 (a_pI M 37 0 (20 + rln e.2.1.1 e.2.1.2.1 e.2.1.2.2 a b z) t) (e.1, (e.2.1, (e.2.2.1, (e.2.2.2.1, fun j => bif Nat.beq j (xln e.2.1.1 e.2.1.2.1 e.2.1.2.2 X Y z) then t else e.2.2.2.2 j)))) := by
  subst xa
  subst yb
  obtain ⟨w1, w3, h1, h3, s2⟩ := hk
  obtain ⟨v1, v2⟩ := xln_hl w1 w3 h1 h3 s2 ha hb hz hv
  have x32 : xln e.2.1.1 e.2.1.2.1 e.2.1.2.2 X Y z < 32 := by
    have p1 := (xcx_b (s := e.2.1.2.2) w1 w3 ha).2
    have p2 := (xcy_b (s := e.2.1.2.2) h1 h3 hb).2
    show 2 * (xcy e.2.1.2.1 e.2.1.2.2 Y * 4 + xcx e.2.1.1 e.2.1.2.2 X) + z < 32
    omega
  refine ⟨fun l a9 c9 => ?_, fun l a9 c9 => ?_⟩
  · show (a_pI M 37 0 (20 + rln e.2.1.1 e.2.1.2.1 e.2.1.2.2 X Y z) t).1 37 0 (20 + lm e.2.1.1 e.2.1.2.1 e.2.1.2.2 l) = bif Nat.beq l (xln e.2.1.1 e.2.1.2.1 e.2.1.2.2 X Y z) then t else e.2.2.2.2 l
    by_cases he : l = xln e.2.1.1 e.2.1.2.1 e.2.1.2.2 X Y z
    · rw [he, Nat.beq_refl, cond_true, v2]
      exact x_pe
    · rw [x_nbq he, cond_false, x_pn (fun q => he (lm_inj w1 w3 h1 h3 s2 a9 x32 c9 v1 (by rw [v2]; have := q.2.2; omega)))]
      exact h.1 l a9 c9
  · show ∃ a, a < e.1.2 ∧ (bif Nat.beq l (xln e.2.1.1 e.2.1.2.1 e.2.1.2.2 X Y z) then t else e.2.2.2.2 l) = Int32.ofNat a
    by_cases he : l = xln e.2.1.1 e.2.1.2.1 e.2.1.2.2 X Y z
    · rw [he, Nat.beq_refl, cond_true]
      exact ht
    · rw [x_nbq he, cond_false]
      exact h.2 l a9 c9
theorem x_1017 {u : Nat} : (Nat.beq 37 37 && (Nat.ble 10 (20 + u) && Nat.ble (20 + u) 17)) = false := by
  have h : Nat.ble (20 + u) 17 = false := by
    cases hb : Nat.ble (20 + u) 17 with
    | true =>
      have := Nat.le_of_ble_eq_true hb
      omega
    | false => rfl
  rw [h, Bool.and_false, Bool.and_false]
