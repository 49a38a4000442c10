theorem g_put15 {nS d i : Nat} {M : aM} {j x : Int32} {a : Nat} (hj : j = Int32.ofNat a) (ha : a < 16) : aC nS (d + 1) 106 [vR 15 i, vI j, vI x] M (fun v M' => v = none ∧ M' = a_pI M 15 i a x) (fun _ _ => False) := by
  refine aC_mk rfl rfl ?_
  intro K hK _
  subst hj
  refine hK _ _ _ _ (hK _ _ _ _ ⟨fun h => ?_, fun h => ?_⟩)
  · exact absurd (x_lt (y := 0) rfl rfl (by omega) (by decide) h) (by omega)
  · refine hK _ _ _ _ (hK _ _ _ _ (hK _ _ _ _ (hK _ _ _ _ ⟨fun h => ?_, fun h => ?_⟩)))
    · exact absurd (x_ge (y := 16) rfl rfl (by omega) (by decide) h) (by omega)
    · refine hK _ _ _ _ (hK _ _ _ _ (hK _ _ _ _ (hK _ _ _ _ ⟨x_vp rfl ha (by decide), ?_⟩)))
      rw [x_cl rfl (by omega)]
      exact hK _ _ _ _ ⟨rfl, rfl⟩
theorem g_at15 {nS d i : Nat} {M : aM} {j : Int32} {a : Nat} (hj : j = Int32.ofNat a) (ha : a < 16) : aC nS (d + 1) 104 [vR 15 i, vI j] M (fun v M' => v = some (vI (M.1 15 i a)) ∧ M = M') (fun _ _ => False) := by
  refine aC_mk rfl rfl ?_
  intro K hK _
  subst hj
  refine hK _ _ _ _ (hK _ _ _ _ ⟨fun h => ?_, fun h => ?_⟩)
  · exact absurd (x_lt (y := 0) rfl rfl (by omega) (by decide) h) (by omega)
  · refine hK _ _ _ _ (hK _ _ _ _ (hK _ _ _ _ (hK _ _ _ _ ⟨fun h => ?_, fun h => ?_⟩)))
    · exact absurd (x_ge (y := 16) rfl rfl (by omega) (by decide) h) (by omega)
    · refine hK _ _ _ _ (hK _ _ _ _ (hK _ _ _ _ ⟨x_vp rfl ha (by decide), ?_⟩))
      rw [x_cl rfl (by omega)]
      exact hK _ _ _ _ (hK _ _ _ _ ⟨rfl, rfl⟩)
/-- of the tree -/
def otr (w h s l : Nat) : Bool := bif Nat.beq (l % 2) 1 then Nat.beq (l / 2 % 4) 0 && Nat.blt (l / 2 / 4 + 1) (xrows h s) else Nat.blt (l / 2 % 4 + 1) (xcols w s)
/-- corners told ahead of a line -/
def otd (w h s c : Nat) : Nat → Bool
  | 0 => Nat.beq c 0
  | l + 1 => otd w h s c l || (hl w h s l && (otr w h s l && Nat.beq c (len w h s l)))
/-- a corner's number -/
def ocm (w h s c : Nat) : Nat := rco w h s (c % 4) (c / 4)
theorem otab {w h s l : Nat} (w1 : 1 ≤ w) (w3 : w ≤ 3) (h1 : 1 ≤ h) (h3 : h ≤ 3) (s2 : s ≤ 2) (l32 : l < 32) (hv : hl w h s l = true) : otd w h s (l / 2) 32 = true ∧ otd w h s (len w h s l) 32 = true ∧ len w h s l < 16 ∧ (otr w h s l = true → otd w h s (l / 2) l = true ∧ ¬ len w h s l = 0) ∧ ren w h s (lm w h s l) 0 = ocm w h s (l / 2) ∧ ren w h s (lm w h s l) 1 = ocm w h s (len w h s l) := by
  have t := b_imp (bal_ok (sz_all (P := fun w h s => bal 32 (fun l => !(hl w h s l) || (otd w h s (l / 2) 32 && (otd w h s (len w h s l) 32 && (Nat.blt (len w h s l) 16 && ((!(otr w h s l) || (otd w h s (l / 2) l && !(Nat.beq (len w h s l) 0))) && (Nat.beq (ren w h s (lm w h s l) 0) (ocm w h s (l / 2)) && Nat.beq (ren w h s (lm w h s l) 1) (ocm w h s (len w h s l))))))))) (by decide +kernel) w1 w3 h1 h3 s2) l32) hv
  rw [Bool.and_eq_true, Bool.and_eq_true, Bool.and_eq_true, Bool.and_eq_true, Bool.and_eq_true] at t
  obtain ⟨a1, a2, a3, a4, a5, a6⟩ := t
  refine ⟨a1, a2, Nat.le_of_ble_eq_true a3, fun z => ?_, Nat.eq_of_beq_eq_true a5, Nat.eq_of_beq_eq_true a6⟩
  have b := b_imp a4 z
  rw [Bool.and_eq_true] at b
  refine ⟨b.1, fun y => ?_⟩
  rw [x_beq y] at b
  exact absurd b.2 (by decide)
theorem ocm_i {w h s c d : Nat} (w1 : 1 ≤ w) (w3 : w ≤ 3) (h1 : 1 ≤ h) (h3 : h ≤ 3) (s2 : s ≤ 2) (hc : c < 16) (hd : d < 16) (tc : otd w h s c 32 = true) (td : otd w h s d 32 = true) (he : ocm w h s c = ocm w h s d) : c = d := Nat.eq_of_beq_eq_true (b_imp (b_imp (b_imp (bal_ok (bal_ok (sz_all (P := fun w h s => bal 16 (fun c => bal 16 (fun d => !(otd w h s c 32) || (!(otd w h s d 32) || (!(Nat.beq (ocm w h s c) (ocm w h s d)) || Nat.beq c d))))) (by decide +kernel) w1 w3 h1 h3 s2) hc) hd) tc) td) (x_beq he))
theorem ocm_0 {w h s : Nat} (w1 : 1 ≤ w) (w3 : w ≤ 3) (h1 : 1 ≤ h) (h3 : h ≤ 3) (s2 : s ≤ 2) : ocm w h s 0 = 0 := Nat.eq_of_beq_eq_true (sz_all (P := fun w h s => Nat.beq (ocm w h s 0) 0) (by decide +kernel) w1 w3 h1 h3 s2)
theorem ocm_16 {w h s c : Nat} (w1 : 1 ≤ w) (w3 : w ≤ 3) (h1 : 1 ≤ h) (h3 : h ≤ 3) (s2 : s ≤ 2) (hc : c < 16) : ocm w h s c < 16 := Nat.le_of_ble_eq_true (bal_ok (sz_all (P := fun w h s => bal 16 (fun c => Nat.blt (ocm w h s c) 16)) (by decide +kernel) w1 w3 h1 h3 s2) hc)
theorem otd_m {w h s c : Nat} : ∀ {i j : Nat}, i ≤ j → otd w h s c i = true → otd w h s c j = true
  | i, 0, h0, ht => by
    rw [Nat.le_zero.mp h0] at ht
    exact ht
  | i, j + 1, h0, ht => by
    by_cases he : i = j + 1
    · rw [he] at ht
      exact ht
    · show (otd w h s c j || (hl w h s j && (otr w h s j && Nat.beq c (len w h s j)))) = true
      rw [otd_m (show i ≤ j by omega) ht]
      rfl
theorem otd_0 {w h s : Nat} : otd w h s 0 32 = true := otd_m (i := 0) (Nat.zero_le _) rfl
theorem otd_s {w h s c l : Nat} (ht : otd w h s c (l + 1) = true) : otd w h s c l = true ∨ (hl w h s l = true ∧ otr w h s l = true ∧ c = len w h s l) := by
  have ht : (otd w h s c l || (hl w h s l && (otr w h s l && Nat.beq c (len w h s l)))) = true := ht
  rw [Bool.or_eq_true, Bool.and_eq_true, Bool.and_eq_true] at ht
  rcases ht with ht | ⟨a, b, c⟩
  · exact Or.inl ht
  · exact Or.inr ⟨a, b, Nat.eq_of_beq_eq_true c⟩
theorem gl_1 {k o a b : Nat} (hq : (k, o) ∈ gP) (ha : a < o) (hb : b < o) : rt k o (ag k o a) (rt k o a b) = b := Nat.eq_of_beq_eq_true (gT_all (P := fun k o a b => Nat.beq (rt k o (ag k o a) (rt k o a b)) b) (by decide +kernel) hq ha hb)
theorem gl_2 {k o a b : Nat} (hq : (k, o) ∈ gP) (ha : a < o) (hb : b < o) : ag k o (rt k o (ag k o (rt k o a b)) a) = b := Nat.eq_of_beq_eq_true (gT_all (P := fun k o a b => Nat.beq (ag k o (rt k o (ag k o (rt k o a b)) a)) b) (by decide +kernel) hq ha hb)
theorem gl_3 {k o a b : Nat} (hq : (k, o) ∈ gP) (ha : a < o) (hb : b < o) : rt k o (rt k o a b) (ag k o b) = a := Nat.eq_of_beq_eq_true (gT_all (P := fun k o a b => Nat.beq (rt k o (rt k o a b) (ag k o b)) a) (by decide +kernel) hq ha hb)
theorem gl_4 {k o a b : Nat} (hq : (k, o) ∈ gP) (ha : a < o) (hb : b < o) : rt k o (rt k o a (ag k o b)) b = a := Nat.eq_of_beq_eq_true (gT_all (P := fun k o a b => Nat.beq (rt k o (rt k o a (ag k o b)) b) a) (by decide +kernel) hq ha hb)
/-- frames that lead from one row of turns to another -/
def sol (k o w h s : Nat) (S S2 : Nat → Int32) (f : Nat → Nat) : Prop := (∀ c, c < 16 → f c < o) ∧ ∀ l, l < 32 → hl w h s l = true → rt k o (f (l / 2)) (xn (S l)) = rt k o (xn (S2 l)) (f (len w h s l))
/-- a change of frames that begins so -/
def sot (k o w h s : Nat) (S S2 : Nat → Int32) (t : Nat) : Prop := ∃ f, sol k o w h s S S2 f ∧ f 0 = t
theorem b_tree {nS d i w h s l : Nat} {M : aM} {x : Int32} (hs : cS i M w h s) (w1 : 1 ≤ w) (w3 : w ≤ 3) (h1 : 1 ≤ h) (h3 : h ≤ 3) (l32 : l < 32) (hx : x = Int32.ofNat l) : aC nS (d + 2) 26 [vR 4 i, vI x] M (fun v M' => v = some (vI (if otr w h s l = true then 1 else 0)) ∧ M = M') (fun _ _ => False) := by
  subst hx
  have c4 : xcols w s ≤ 4 := by
    unfold xcols
    cases Nat.ble 1 s with
    | true => exact Nat.le_succ_of_le w3
    | false => exact Nat.succ_le_succ w3
  have r4 : xrows h s ≤ 4 := by
    unfold xrows
    cases Nat.ble 2 s with
    | true => exact Nat.le_succ_of_le h3
    | false => exact Nat.succ_le_succ h3
  refine aC_mk rfl rfl ?_
  intro K hK _
  refine hK _ _ _ _ (hK _ _ _ _ (⟨_, b_beginOf (a := l) rfl (by omega), rfl, fun v1 M1 g1 => ?_⟩))
  obtain ⟨rfl, rfl⟩ := g1
  refine hK _ _ _ _ (hK _ _ _ _ (hK _ _ _ _ (⟨_, b_isNorth (a := l) rfl (by omega), rfl, fun v6 M6 g6 => ?_⟩)))
  obtain ⟨rfl, rfl⟩ := g6
  rcases (show l % 2 = 0 ∨ l % 2 = 1 by omega) with hp | hp
  · have ho : otr w h s l = Nat.blt (l / 2 % 4 + 1) (xcols w s) := by
      unfold otr
      rw [x_nbeq (show ¬ l % 2 = 1 by omega)]
      rfl
    rw [hp]
    refine hK _ _ _ _ (⟨fun _ => ?_, fun q => (by first | exact absurd q (by decide) | exact absurd rfl q | exact absurd (by decide) q)⟩)
    refine hK _ _ _ _ (hK _ _ _ _ (⟨_, b_columnOf (a := l / 2) rfl (by omega), rfl, fun v39 M39 g39 => ?_⟩))
    obtain ⟨rfl, rfl⟩ := g39
    refine hK _ _ _ _ (hK _ _ _ _ (hK _ _ _ _ (hK _ _ _ _ (hK _ _ _ _ (⟨fun h5 => ?_, fun h5 => ?_⟩)))))
    · have h6 := x_ge (x := l / 2 % 4 + 1) (y := xcols w s) hI_s hs.2.2.2.1 (by omega) (by omega) h5
      have hf : ¬ otr w h s l = true := by
        rw [ho, x_nblt (show ¬ l / 2 % 4 + 1 < xcols w s by omega)]
        decide
      exact hK _ _ _ _ (hK _ _ _ _ (⟨Or.inl rfl, (show some (vI 0) = some (vI (if otr w h s l = true then 1 else 0)) from by rw [if_neg hf]), rfl⟩))
    · have h6 := x_nge (x := l / 2 % 4 + 1) (y := xcols w s) hI_s hs.2.2.2.1 (by omega) (by omega) h5
      have hf : otr w h s l = true := by rw [ho, x_blt h6]
      exact hK _ _ _ _ (hK _ _ _ _ (hK _ _ _ _ (⟨Or.inr rfl, (show some (vI 1) = some (vI (if otr w h s l = true then 1 else 0)) from by rw [if_pos hf]), rfl⟩)))
  · have ho : otr w h s l = (Nat.beq (l / 2 % 4) 0 && Nat.blt (l / 2 / 4 + 1) (xrows h s)) := by
      unfold otr
      rw [x_beq hp]
      rfl
    rw [hp]
    refine hK _ _ _ _ (⟨fun q => (by first | exact absurd q (by decide) | exact absurd rfl q | exact absurd (by decide) q), fun _ => ?_⟩)
    refine hK _ _ _ _ (hK _ _ _ _ (⟨_, b_columnOf (a := l / 2) rfl (by omega), rfl, fun v13 M13 g13 => ?_⟩))
    obtain ⟨rfl, rfl⟩ := g13
    refine hK _ _ _ _ (⟨fun h5 => ?_, fun h5 => ?_⟩)
    · have h6 : ¬ l / 2 % 4 = 0 := fun z => h5 (by rw [z]; rfl)
      have hf : ¬ otr w h s l = true := by
        rw [ho, x_nbeq h6]
        exact Bool.false_ne_true
      exact hK _ _ _ _ (hK _ _ _ _ (⟨Or.inl rfl, (show some (vI 0) = some (vI (if otr w h s l = true then 1 else 0)) from by rw [if_neg hf]), rfl⟩))
    · have h6 := x_eq (x := l / 2 % 4) (y := 0) rfl rfl (by omega) (by decide) h5
      refine hK _ _ _ _ (hK _ _ _ _ (⟨_, b_rowOf (a := l / 2) rfl (by omega), rfl, fun v20 M20 g20 => ?_⟩))
      obtain ⟨rfl, rfl⟩ := g20
      refine hK _ _ _ _ (hK _ _ _ _ (hK _ _ _ _ (hK _ _ _ _ (hK _ _ _ _ (⟨fun h7 => ?_, fun h7 => ?_⟩)))))
      · have h8 := x_ge (x := l / 2 / 4 + 1) (y := xrows h s) hI_s hs.2.2.2.2 (by omega) (by omega) h7
        have hf : ¬ otr w h s l = true := by
          rw [ho, x_nblt (show ¬ l / 2 / 4 + 1 < xrows h s by omega), Bool.and_false]
          decide
        exact hK _ _ _ _ (hK _ _ _ _ (⟨Or.inl rfl, (show some (vI 0) = some (vI (if otr w h s l = true then 1 else 0)) from by rw [if_neg hf]), rfl⟩))
      · have h8 := x_nge (x := l / 2 / 4 + 1) (y := xrows h s) hI_s hs.2.2.2.2 (by omega) (by omega) h7
        have hf : otr w h s l = true := by
          rw [ho, x_beq h6, x_blt h8]
          rfl
        exact hK _ _ _ _ (hK _ _ _ _ (hK _ _ _ _ (⟨Or.inr rfl, (show some (vI 1) = some (vI (if otr w h s l = true then 1 else 0)) from by rw [if_pos hf]), rfl⟩)))
theorem b_agrees {nS d k o w h s l a b v u : Nat} {M : aM} (hs : cS 0 M w h s) (w1 : 1 ≤ w) (w3 : w ≤ 3) (h1 : 1 ≤ h) (h3 : h ≤ 3) (hF : gF 0 M k o) (l32 : l < 32) (hv : hl w h s l = true) (l16 : len w h s l < 16) (ea : M.1 15 0 (l / 2) = Int32.ofNat a) (eb : M.1 15 0 (len w h s l) = Int32.ofNat b) (ev : M.1 12 0 l = Int32.ofNat v) (eu : M.1 12 2 l = Int32.ofNat u) (ha : a < o) (hb : b < o) (hv2 : v < o) (hu : u < o) : aC nS (d + 3) 40 [vR 4 0, vI (Int32.ofNat l), vR 4 2] M (fun x M' => ((rt k o a v = rt k o u b ∧ x = some (vI 1)) ∨ (¬ rt k o a v = rt k o u b ∧ x = some (vI 0))) ∧ M = M') (fun _ _ => False) := by
  obtain ⟨o2, o8, k3⟩ := gP_o hF.1.1
  have t1 := rt_lt hF.1.1 ha hv2
  have t2 := rt_lt hF.1.1 hu hb
  refine aC_mk rfl rfl ?_
  intro K hK _
  refine hK _ _ _ _ (hK _ _ _ _ (hK _ _ _ _ (hK _ _ _ _ (hK _ _ _ _ (hK _ _ _ _ (⟨_, b_beginOf (a := l) rfl (by omega), rfl, fun v9 M9 g9 => ?_⟩))))))
  obtain ⟨rfl, rfl⟩ := g9
  refine hK _ _ _ _ (⟨_, g_at15 (a := l / 2) rfl (by omega), rfl, fun v12 M12 g12 => ?_⟩)
  obtain ⟨rfl, rfl⟩ := g12
  rw [ea]
  refine hK _ _ _ _ (hK _ _ _ _ (hK _ _ _ _ (⟨_, b_turnOn (a := l) rfl l32, rfl, fun v17 M17 g17 => ?_⟩)))
  obtain ⟨rfl, rfl⟩ := g17
  rw [ev]
  refine hK _ _ _ _ (⟨_, g_ctimes hF.1.1 hF.2.1 rfl rfl ha hv2, rfl, fun v20 M20 g20 => ?_⟩)
  obtain ⟨rfl, rfl⟩ := g20
  refine hK _ _ _ _ (hK _ _ _ _ (hK _ _ _ _ (hK _ _ _ _ (hK _ _ _ _ (hK _ _ _ _ (hK _ _ _ _ (⟨_, b_turnOn (a := l) rfl l32, rfl, fun v31 M31 g31 => ?_⟩)))))))
  obtain ⟨rfl, rfl⟩ := g31
  rw [eu]
  refine hK _ _ _ _ (hK _ _ _ _ (hK _ _ _ _ (hK _ _ _ _ (hK _ _ _ _ (⟨_, b_endOf hs w1 w3 h1 h3 l32 hv rfl, rfl, fun v40 M40 g40 => ?_⟩)))))
  obtain ⟨rfl, rfl⟩ := g40
  refine hK _ _ _ _ (⟨_, g_at15 rfl l16, rfl, fun v43 M43 g43 => ?_⟩)
  obtain ⟨rfl, rfl⟩ := g43
  rw [eb]
  refine hK _ _ _ _ (⟨_, g_ctimes hF.1.1 hF.2.1 rfl rfl hu hb, rfl, fun v46 M46 g46 => ?_⟩)
  obtain ⟨rfl, rfl⟩ := g46
  refine hK _ _ _ _ (⟨fun h5 => ?_, fun h5 => ?_⟩)
  · exact hK _ _ _ _ (hK _ _ _ _ (⟨Or.inl rfl, Or.inr ⟨fun z => h5 (by rw [z]), rfl⟩, rfl⟩))
  · have h6 := x_inj (x := rt k o a v) (y := rt k o u b) (by omega) (by omega) h5
    exact hK _ _ _ _ (hK _ _ _ _ (hK _ _ _ _ (⟨Or.inr rfl, Or.inl ⟨h6, rfl⟩, rfl⟩)))
theorem b_refFrom {nS d k o w h s t : Nat} {M : aM} {S S2 : Nat → Int32} (hs : cS 0 M w h s) (w1 : 1 ≤ w) (w3 : w ≤ 3) (h1 : 1 ≤ h) (h3 : h ≤ 3) (s2 : s ≤ 2) (hF : gF 0 M k o) (hO : lO w h s o S) (hO2 : lO w h s o S2) (hS : ∀ l, l < 32 → M.1 12 0 l = S l) (hS2 : ∀ l, l < 32 → M.1 12 2 l = S2 l) (ht : t < o) : aC nS (d + 4) 39 [vR 4 0, vI (Int32.ofNat t), vR 4 2] M (fun v M' => ((sot k o w h s S S2 t ∧ v = some (vI 1)) ∨ (¬ sot k o w h s S S2 t ∧ v = some (vI 0))) ∧ fr (PR 15 0) M M') (fun _ _ => False) := by
  have hq := hF.1.1
  obtain ⟨o2, o8, k3⟩ := gP_o hq
  have xv : ∀ l, l < 32 → hl w h s l = true → S l = Int32.ofNat (xn (S l)) ∧ xn (S l) < o := fun l a b => by
    obtain ⟨x, hx, e⟩ := hO l a b
    rw [e, xn_o (show x < 1000 by omega)]
    exact ⟨rfl, hx⟩
  have xu : ∀ l, l < 32 → hl w h s l = true → S2 l = Int32.ofNat (xn (S2 l)) ∧ xn (S2 l) < o := fun l a b => by
    obtain ⟨x, hx, e⟩ := hO2 l a b
    rw [e, xn_o (show x < 1000 by omega)]
    exact ⟨rfl, hx⟩
  refine aC_mk rfl rfl ?_
  intro K hK _
  have cs1 : ∀ {M1 : aM}, fr (PR 15 0) M M1 → cS 0 M1 w h s := fun f => ⟨(f.1 4 0 1 rfl).trans hs.1, (f.1 4 0 2 rfl).trans hs.2.1, (f.1 4 0 3 rfl).trans hs.2.2.1, (f.1 4 0 5 rfl).trans hs.2.2.2.1, (f.1 4 0 6 rfl).trans hs.2.2.2.2⟩
  have gf1 : ∀ {M1 : aM}, fr (PR 15 0) M M1 → gF 0 M1 k o := fun f => gF_fr hF (fun q j a b => f.1 q 0 j (by
    show (Nat.beq q 15 && Nat.beq 0 0) = false
    rw [x_nbeq (show ¬ q = 15 by omega)]
    rfl))
  have lp2 : ∀ (M1 : aM), fr (PR 15 0) M M1 → M1.1 15 0 0 = Int32.ofNat t → (∀ c, c < 16 → otd w h s c 32 = true → ∃ a, a < o ∧ M1.1 15 0 c = Int32.ofNat a ∧ ∀ f, sol k o w h s S S2 f → f 0 = t → f c = a) → ∀ (m i : Nat) (z : Int32) (l4 l5 : Option aV), 32 - i = m → i ≤ 32 → z = Int32.ofNat i → (∀ l, l < i → hl w h s l = true → rt k o (xn (M1.1 15 0 (l / 2))) (xn (S l)) = rt k o (xn (S2 l)) (xn (M1.1 15 0 (len w h s l)))) → K 103 [some (vR 4 0), some (vI (Int32.ofNat t)), some (vR 4 2), some (vI z), l4, l5] [] M1 := by
    intro M1 f1 h0 hC m
    induction m with
    | zero =>
      intro i z l4 l5 hm hi hz hA
      subst hz
      refine hK _ _ _ _ (hK _ _ _ _ (hK _ _ _ _ (⟨fun h8 => ?_, fun h8 => ?_⟩)))
      · have hs9 : sot k o w h s S S2 t := by
          refine ⟨fun c => if otd w h s c 32 = true then xn (M1.1 15 0 c) else 0, ⟨fun c hc => ?_, fun l l32 hv => ?_⟩, ?_⟩
          · show (if otd w h s c 32 = true then xn (M1.1 15 0 c) else 0) < o
            by_cases hd : otd w h s c 32 = true
            · rw [if_pos hd]
              obtain ⟨a, ha, e, -⟩ := hC c hc hd
              rw [e, xn_o (show a < 1000 by omega)]
              exact ha
            · rw [if_neg hd]
              omega
          · obtain ⟨d1, d2, -⟩ := otab w1 w3 h1 h3 s2 l32 hv
            show rt k o (if otd w h s (l / 2) 32 = true then xn (M1.1 15 0 (l / 2)) else 0) (xn (S l)) = rt k o (xn (S2 l)) (if otd w h s (len w h s l) 32 = true then xn (M1.1 15 0 (len w h s l)) else 0)
            rw [if_pos d1, if_pos d2]
            exact hA l (by omega) hv
          · show (if otd w h s 0 32 = true then xn (M1.1 15 0 0) else 0) = t
            rw [if_pos otd_0, h0, xn_o (show t < 1000 by omega)]
        exact hK _ _ _ _ (hK _ _ _ _ (⟨Or.inr rfl, Or.inl ⟨hs9, rfl⟩, f1⟩))
      · exact absurd (x_nge (x := i) (y := 32) rfl rfl (by omega) (by decide) h8) (by omega)
    | succ m ih =>
      intro i z l4 l5 hm hi hz hA
      subst hz
      have i32 : i < 32 := by omega
      refine hK _ _ _ _ (hK _ _ _ _ (hK _ _ _ _ (⟨fun h8 => ?_, fun h8 => ?_⟩)))
      · exact absurd (x_ge (x := i) (y := 32) rfl rfl (by omega) (by decide) h8) (by omega)
      refine hK _ _ _ _ (hK _ _ _ _ (hK _ _ _ _ (⟨_, b_hasL (s := s) (cs1 f1) w1 w3 h1 h3 i32 rfl, rfl, fun v111 M111 g111 => ?_⟩)))
      obtain ⟨rfl, rfl⟩ := g111
      by_cases hv : hl w h s i = true
      · rw [if_pos hv]
        refine hK _ _ _ _ (⟨fun q => (by first | exact absurd q (by decide) | exact absurd rfl q | exact absurd (by decide) q), fun _ => ?_⟩)
        obtain ⟨d1, d2, d3, -⟩ := otab w1 w3 h1 h3 s2 i32 hv
        obtain ⟨a, ha, ea, fa⟩ := hC (i / 2) (by omega) d1
        obtain ⟨b, hb, eb, fb⟩ := hC _ d3 d2
        obtain ⟨v1, v2⟩ := xv i i32 hv
        obtain ⟨u1, u2⟩ := xu i i32 hv
        refine hK _ _ _ _ (hK _ _ _ _ (hK _ _ _ _ (hK _ _ _ _ (⟨_, b_agrees (cs1 f1) w1 w3 h1 h3 (gf1 f1) i32 hv d3 ea eb ((f1.1 12 0 i rfl).trans ((hS i i32).trans v1)) ((f1.1 12 2 i rfl).trans ((hS2 i i32).trans u1)) ha hb v2 u2, rfl, fun v120 M120 g120 => ?_⟩))))
        obtain ⟨g120, rfl⟩ := g120
        rcases g120 with ⟨he, rfl⟩ | ⟨he, rfl⟩
        · refine hK _ _ _ _ (⟨fun _ => ?_, fun q => (by first | exact absurd q (by decide) | exact absurd rfl q | exact absurd (by decide) q)⟩)
          refine hK _ _ _ _ (hK _ _ _ _ (?_))
          refine ih (i + 1) _ _ _ (by omega) (by omega) hI_s (fun l hl9 hv9 => ?_)
          by_cases e9 : l = i
          · rw [e9, ea, eb, xn_o (show a < 1000 by omega), xn_o (show b < 1000 by omega)]
            exact he
          · exact hA l (by omega) hv9
        · refine hK _ _ _ _ (⟨fun q => (by first | exact absurd q (by decide) | exact absurd rfl q | exact absurd (by decide) q), fun _ => ?_⟩)
          have hn : ¬ sot k o w h s S S2 t := fun z => by
            obtain ⟨f, hf, f0⟩ := z
            have h9 := hf.2 i i32 hv
            rw [fa f hf f0, fb f hf f0] at h9
            exact he h9
          exact hK _ _ _ _ (hK _ _ _ _ (⟨Or.inl rfl, Or.inr ⟨hn, rfl⟩, f1⟩))
      · rw [if_neg hv]
        refine hK _ _ _ _ (⟨fun _ => ?_, fun q => (by first | exact absurd q (by decide) | exact absurd rfl q | exact absurd (by decide) q)⟩)
        refine hK _ _ _ _ (hK _ _ _ _ (?_))
        refine ih (i + 1) _ _ _ (by omega) (by omega) hI_s (fun l hl9 hv9 => ?_)
        by_cases e9 : l = i
        · rw [e9] at hv9
          exact absurd hv9 hv
        · exact hA l (by omega) hv9
  have lp1 : ∀ (m i : Nat) (z : Int32) (l4 l5 : Option aV) (M1 : aM), 32 - i = m → i ≤ 32 → z = Int32.ofNat i → fr (PR 15 0) M M1 → M1.1 15 0 0 = Int32.ofNat t → (∀ c, c < 16 → otd w h s c i = true → ∃ a, a < o ∧ M1.1 15 0 c = Int32.ofNat a ∧ ∀ f, sol k o w h s S S2 f → f 0 = t → f c = a) → K 11 [some (vR 4 0), some (vI (Int32.ofNat t)), some (vR 4 2), some (vI z), l4, l5] [] M1 := by
    intro m
    induction m with
    | zero =>
      intro i z l4 l5 M1 hm hi hz f1 h0 hC
      subst hz
      refine hK _ _ _ _ (hK _ _ _ _ (hK _ _ _ _ (⟨fun h8 => ?_, fun h8 => ?_⟩)))
      · refine hK _ _ _ _ (hK _ _ _ _ (?_))
        rw [show i = 32 by omega] at hC
        exact lp2 M1 f1 h0 hC _ 0 _ _ _ rfl (Nat.zero_le _) rfl (fun l hl9 => absurd hl9 (Nat.not_lt_zero _))
      · exact absurd (x_nge (x := i) (y := 32) rfl rfl (by omega) (by decide) h8) (by omega)
    | succ m ih =>
      intro i z l4 l5 M1 hm hi hz f1 h0 hC
      subst hz
      have i32 : i < 32 := by omega
      refine hK _ _ _ _ (hK _ _ _ _ (hK _ _ _ _ (⟨fun h8 => ?_, fun h8 => ?_⟩)))
      · exact absurd (x_ge (x := i) (y := 32) rfl rfl (by omega) (by decide) h8) (by omega)
      have hs1 := cs1 f1
      have hF1 := gf1 f1
      refine hK _ _ _ _ (hK _ _ _ _ (hK _ _ _ _ (⟨_, b_hasL (s := s) hs1 w1 w3 h1 h3 i32 rfl, rfl, fun v19 M19 g19 => ?_⟩)))
      obtain ⟨rfl, rfl⟩ := g19
      by_cases hv : hl w h s i = true
      · rw [if_pos hv]
        refine hK _ _ _ _ (⟨fun q => (by first | exact absurd q (by decide) | exact absurd rfl q | exact absurd (by decide) q), fun _ => ?_⟩)
        refine hK _ _ _ _ (hK _ _ _ _ (hK _ _ _ _ (⟨_, b_tree hs1 w1 w3 h1 h3 i32 rfl, rfl, fun v27 M27 g27 => ?_⟩)))
        obtain ⟨rfl, rfl⟩ := g27
        by_cases ho : otr w h s i = true
        · rw [if_pos ho]
          refine hK _ _ _ _ (⟨fun q => (by first | exact absurd q (by decide) | exact absurd rfl q | exact absurd (by decide) q), fun _ => ?_⟩)
          obtain ⟨d1, d2, d3, d4, -⟩ := otab w1 w3 h1 h3 s2 i32 hv
          obtain ⟨d5, d6⟩ := d4 ho
          obtain ⟨a, ha, ea, fa⟩ := hC (i / 2) (by omega) d5
          obtain ⟨v1, v2⟩ := xv i i32 hv
          obtain ⟨u1, u2⟩ := xu i i32 hv
          have t1 := rt_lt hq ha v2
          refine hK _ _ _ _ (hK _ _ _ _ (hK _ _ _ _ (hK _ _ _ _ (⟨_, b_beginOf (a := i) rfl (by omega), rfl, fun v38 M38 g38 => ?_⟩))))
          obtain ⟨rfl, rfl⟩ := g38
          refine hK _ _ _ _ (⟨_, g_at15 (a := i / 2) rfl (by omega), rfl, fun v41 M41 g41 => ?_⟩)
          obtain ⟨rfl, rfl⟩ := g41
          rw [ea]
          refine hK _ _ _ _ (hK _ _ _ _ (hK _ _ _ _ (hK _ _ _ _ (hK _ _ _ _ (hK _ _ _ _ (hK _ _ _ _ (⟨_, b_turnOn (a := i) rfl i32, rfl, fun v54 M54 g54 => ?_⟩)))))))
          obtain ⟨rfl, rfl⟩ := g54
          rw [(f1.1 12 0 i rfl).trans ((hS i i32).trans v1)]
          refine hK _ _ _ _ (⟨_, g_ctimes hq hF1.2.1 rfl rfl ha v2, rfl, fun v57 M57 g57 => ?_⟩)
          obtain ⟨rfl, rfl⟩ := g57
          refine hK _ _ _ _ (hK _ _ _ _ (hK _ _ _ _ (hK _ _ _ _ (hK _ _ _ _ (hK _ _ _ _ (⟨_, b_endOf hs1 w1 w3 h1 h3 i32 hv rfl, rfl, fun v68 M68 g68 => ?_⟩))))))
          obtain ⟨rfl, rfl⟩ := g68
          refine hK _ _ _ _ (hK _ _ _ _ (hK _ _ _ _ (hK _ _ _ _ (hK _ _ _ _ (hK _ _ _ _ (hK _ _ _ _ (⟨_, b_turnOn (a := i) rfl i32, rfl, fun v81 M81 g81 => ?_⟩)))))))
          obtain ⟨rfl, rfl⟩ := g81
          rw [(f1.1 12 2 i rfl).trans ((hS2 i i32).trans u1)]
          refine hK _ _ _ _ (⟨_, g_cagainst hq hF1.2.1 rfl u2, rfl, fun v84 M84 g84 => ?_⟩)
          obtain ⟨rfl, rfl⟩ := g84
          refine hK _ _ _ _ (hK _ _ _ _ (⟨_, g_ctimes hq hF1.2.1 rfl rfl (ag_lt hq u2) t1, rfl, fun v89 M89 g89 => ?_⟩))
          obtain ⟨rfl, rfl⟩ := g89
          refine hK _ _ _ _ (⟨_, g_put15 rfl d3, rfl, fun v92 M92 g92 => ?_⟩)
          obtain ⟨rfl, rfl⟩ := g92
          refine hK _ _ _ _ (hK _ _ _ _ (?_))
          refine ih (i + 1) _ _ _ _ (by omega) (by omega) hI_s (fr_p f1 rfl) ((x_pn (fun z => d6 z.2.2.symm)).trans h0) (fun c hc hd => ?_)
          by_cases e9 : c = len w h s i
          · refine ⟨_, rt_lt hq (ag_lt hq u2) t1, ?_, fun f hf f0 => ?_⟩
            · rw [e9]
              exact x_pe
            · rw [e9, ← fa f hf f0, hf.2 i i32 hv, gl_1 hq u2 (hf.1 _ d3)]
          · rcases otd_s hd with hd | ⟨-, -, hd⟩
            · obtain ⟨x, hx, ex, fx⟩ := hC c hc hd
              exact ⟨x, hx, (x_pn (fun z => e9 z.2.2)).trans ex, fx⟩
            · exact absurd hd e9
        · rw [if_neg ho]
          refine hK _ _ _ _ (⟨fun _ => ?_, fun q => (by first | exact absurd q (by decide) | exact absurd rfl q | exact absurd (by decide) q)⟩)
          refine hK _ _ _ _ (hK _ _ _ _ (?_))
          refine ih (i + 1) _ _ _ _ (by omega) (by omega) hI_s f1 h0 (fun c hc hd => ?_)
          rcases otd_s hd with hd | ⟨-, hd, -⟩
          · exact hC c hc hd
          · exact absurd hd ho
      · rw [if_neg hv]
        refine hK _ _ _ _ (⟨fun _ => ?_, fun q => (by first | exact absurd q (by decide) | exact absurd rfl q | exact absurd (by decide) q)⟩)
        refine hK _ _ _ _ (hK _ _ _ _ (?_))
        refine ih (i + 1) _ _ _ _ (by omega) (by omega) hI_s f1 h0 (fun c hc hd => ?_)
        rcases otd_s hd with hd | ⟨hd, -, -⟩
        · exact hC c hc hd
        · exact absurd hd hv
  refine hK _ _ _ _ (hK _ _ _ _ (hK _ _ _ _ (hK _ _ _ _ (hK _ _ _ _ (⟨_, g_put15 (a := 0) rfl (by decide), rfl, fun v6 M6 g6 => ?_⟩)))))
  obtain ⟨rfl, rfl⟩ := g6
  refine hK _ _ _ _ (hK _ _ _ _ (?_))
  refine lp1 _ 0 _ _ _ _ rfl (Nat.zero_le _) rfl (fr_p fr_r rfl) x_pe (fun c hc hd => ?_)
  have c0 : c = 0 := Nat.eq_of_beq_eq_true hd
  rw [c0]
  exact ⟨t, ht, x_pe, fun f _ f0 => f0⟩
