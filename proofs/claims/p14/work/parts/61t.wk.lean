/-- a step of a walk: where it begins, as the reference tells it; whether it goes off; the line's place; where it comes to -/
def wx1 (w s way X : Nat) : Nat := bif (Nat.beq way 0 && (Nat.blt 0 s && Nat.beq X w)) then 0 else bif (Nat.beq way 2 && (Nat.blt 0 s && Nat.beq X 0)) then w else X
def wy1 (h s way Y : Nat) : Nat := bif (Nat.beq way 1 && (Nat.beq s 2 && Nat.beq Y h)) then 0 else bif (Nat.beq way 3 && (Nat.beq s 2 && Nat.beq Y 0)) then h else Y
def wno (w h s way X Y : Nat) : Bool := (Nat.beq way 2 && Nat.beq (wx1 w s way X) 0) || (Nat.beq way 3 && Nat.beq (wy1 h s way Y) 0)
def wa (w s way X : Nat) : Nat := bif Nat.beq way 2 then wx1 w s way X - 1 else wx1 w s way X
def wb (h s way Y : Nat) : Nat := bif Nat.beq way 3 then wy1 h s way Y - 1 else wy1 h s way Y
def wX (w s way X : Nat) : Nat := bif Nat.beq way 0 then wx1 w s way X + 1 else wa w s way X
def wY (h s way Y : Nat) : Nat := bif Nat.beq way 1 then wy1 h s way Y + 1 else wb h s way Y
def wok (w h s way X Y : Nat) : Bool := !(wno w h s way X Y) && xlv w h s (wa w s way X) (wb h s way Y) (way % 2)
/-- the class's own way to it -/
def wof (s way cx cy : Nat) : Bool := (Nat.beq way 2 && (Nat.beq cx 0 && Nat.beq s 0)) || (Nat.beq way 3 && (Nat.beq cy 0 && !(Nat.beq s 2)))
def wca (w way cx : Nat) : Nat := bif Nat.beq way 2 then (bif Nat.beq cx 0 then w - 1 else cx - 1) else cx
def wcb (h way cy : Nat) : Nat := bif Nat.beq way 3 then (bif Nat.beq cy 0 then h - 1 else cy - 1) else cy
def wl (w h s way X Y : Nat) : Nat := xln w h s (wa w s way X) (wb h s way Y) (way % 2)
def wen (w h s way X Y : Nat) : Nat := bif Nat.blt way 2 then len w h s (wl w h s way X Y) else wl w h s way X Y / 2
theorem wtab {w h s way X Y : Nat} (w1 : 1 ≤ w) (w3 : w ≤ 3) (h1 : 1 ≤ h) (h3 : h ≤ 3) (s2 : s ≤ 2) (hw : way < 4) (hX : X ≤ w) (hY : Y ≤ h) : (wof s way (xcx w s X) (xcy h s Y) = true → wok w h s way X Y = false) ∧ (wof s way (xcx w s X) (xcy h s Y) = false → wca w way (xcx w s X) ≤ w ∧ wcb h way (xcy h s Y) ≤ h ∧ xlv w h s (wca w way (xcx w s X)) (wcb h way (xcy h s Y)) (way % 2) = wok w h s way X Y ∧ xln w h s (wca w way (xcx w s X)) (wcb h way (xcy h s Y)) (way % 2) = wl w h s way X Y) ∧ (wok w h s way X Y = true → wX w s way X ≤ w ∧ wY h s way Y ≤ h ∧ wl w h s way X Y < 32 ∧ hl w h s (wl w h s way X Y) = true ∧ wen w h s way X Y = xco w h s (wX w s way X) (wY h s way Y) ∧ xco w h s (wX w s way X) (wY h s way Y) < 16 ∧ wa w s way X ≤ w ∧ wb h s way Y ≤ h ∧ wno w h s way X Y = false) := by
  have t := b_imp (b_imp (bal_ok (bal_ok (bal_ok (sz_all (P := fun w h s => bal 4 (fun way => bal 4 (fun X => bal 4 (fun Y => !(Nat.ble X w) || (!(Nat.ble Y h) || ((!(wof s way (xcx w s X) (xcy h s Y)) || !(wok w h s way X Y)) && ((wof s way (xcx w s X) (xcy h s Y) || (Nat.ble (wca w way (xcx w s X)) w && (Nat.ble (wcb h way (xcy h s Y)) h && (beqB (xlv w h s (wca w way (xcx w s X)) (wcb h way (xcy h s Y)) (way % 2)) (wok w h s way X Y) && Nat.beq (xln w h s (wca w way (xcx w s X)) (wcb h way (xcy h s Y)) (way % 2)) (wl w h s way X Y))))) && (!(wok w h s way X Y) || (Nat.ble (wX w s way X) w && (Nat.ble (wY h s way Y) h && (Nat.blt (wl w h s way X Y) 32 && (hl w h s (wl w h s way X Y) && (Nat.beq (wen w h s way X Y) (xco w h s (wX w s way X) (wY h s way Y)) && (Nat.blt (xco w h s (wX w s way X) (wY h s way Y)) 16 && (Nat.ble (wa w s way X) w && (Nat.ble (wb h s way Y) h && !(wno w h s way X Y)))))))))))))))) ) (by decide +kernel) w1 w3 h1 h3 s2) hw) (show X < 4 by omega)) (show Y < 4 by omega)) (Nat.ble_eq_true_of_le hX)) (Nat.ble_eq_true_of_le hY)
  rw [Bool.and_eq_true, Bool.and_eq_true] at t
  obtain ⟨t1, t2, t3⟩ := t
  refine ⟨fun z => ?_, fun z => ?_, fun z => ?_⟩
  · rw [z] at t1
    cases hk : wok w h s way X Y with
    | false => rfl
    | true =>
      rw [hk] at t1
      cases t1
  · rw [z, Bool.false_or, Bool.and_eq_true, Bool.and_eq_true, Bool.and_eq_true] at t2
    exact ⟨Nat.le_of_ble_eq_true t2.1, Nat.le_of_ble_eq_true t2.2.1, beqB_e t2.2.2.1, Nat.eq_of_beq_eq_true t2.2.2.2⟩
  · have t3 := b_imp t3 z
    rw [Bool.and_eq_true, Bool.and_eq_true, Bool.and_eq_true, Bool.and_eq_true, Bool.and_eq_true, Bool.and_eq_true, Bool.and_eq_true, Bool.and_eq_true] at t3
    obtain ⟨a1, a2, a3, a4, a5, a6, a7, a8, a9⟩ := t3
    refine ⟨Nat.le_of_ble_eq_true a1, Nat.le_of_ble_eq_true a2, Nat.le_of_ble_eq_true a3, a4, Nat.eq_of_beq_eq_true a5, Nat.le_of_ble_eq_true a6, Nat.le_of_ble_eq_true a7, Nat.le_of_ble_eq_true a8, ?_⟩
    cases hk : wno w h s way X Y with
    | false => rfl
    | true =>
      rw [hk] at a9
      cases a9
/-- a walk: where it is, what comes of it, the ways gone, the last first -/
abbrev xW := (Nat × Nat) × Nat × List Nat
def wv (e : xB) (way X Y : Nat) : Nat := bif Nat.blt way 2 then xn (e.2.2.2.2 (wl e.2.1.1 e.2.1.2.1 e.2.1.2.2 way X Y)) else ag e.1.1 e.1.2 (xn (e.2.2.2.2 (wl e.2.1.1 e.2.1.2.1 e.2.1.2.2 way X Y)))
def wgo1 (e : xB) (way : Nat) (t : xW) : Option xW := bif wok e.2.1.1 e.2.1.2.1 e.2.1.2.2 way t.1.1 t.1.2 then some ((wX e.2.1.1 e.2.1.2.2 way t.1.1, wY e.2.1.2.1 e.2.1.2.2 way t.1.2), rt e.1.1 e.1.2 t.2.1 (wv e way t.1.1 t.1.2), way :: t.2.2) else none
def wgo (e : xB) (way : Nat) : Nat → xW → Option xW
  | 0, t => some t
  | n + 1, t => match wgo1 e way t with
    | none => none
    | some u => wgo e way n u
def xWo (e : xB) (t : xW) : Prop := t.1.1 ≤ e.2.1.1 ∧ t.1.2 ≤ e.2.1.2.1 ∧ t.2.1 < e.1.2
def WKs (M : aM) (e : xB) (t : xW) : Prop := M.1 17 0 3 = Int32.ofNat (xcx e.2.1.1 e.2.1.2.2 t.1.1) ∧ M.1 17 0 4 = Int32.ofNat (xcy e.2.1.2.1 e.2.1.2.2 t.1.2) ∧ M.1 17 0 6 = Int32.ofNat t.2.1 ∧ M.1 17 0 5 = Int32.ofNat t.2.2.length
/-- what a step leaves of visits and rises -/
def WKv (e : xB) (way : Nat) (t u : xW) (M M' : aM) : Prop := (∀ j, M'.1 18 0 j = if j = xco e.2.1.1 e.2.1.2.1 e.2.1.2.2 u.1.1 u.1.2 then M.1 18 0 j + 1 else M.1 18 0 j) ∧ ∀ j, M'.1 19 0 j = if way % 2 = 1 ∧ j = xco e.2.1.1 e.2.1.2.1 e.2.1.2.2 (wa e.2.1.1 e.2.1.2.2 way t.1.1) (wb e.2.1.2.1 e.2.1.2.2 way t.1.2) then M.1 19 0 j + (if way = 3 then -1 else 1) else M.1 19 0 j
def PWk : xF := fun k _ j => (Nat.beq k 17 && !(Nat.beq j 2)) || (Nat.beq k 18 || Nat.beq k 19)
theorem PWk_n {k i j : Nat} (h : k < 17 ∨ 19 < k) : PWk k i j = false := by
  show ((Nat.beq k 17 && !(Nat.beq j 2)) || (Nat.beq k 18 || Nat.beq k 19)) = false
  rw [x_nbeq (show ¬ k = 17 by omega), x_nbeq (show ¬ k = 18 by omega), x_nbeq (show ¬ k = 19 by omega)]
  rfl
theorem cB_w {M M' : aM} {e : xB} (h : fr PWk M M') (hB : cB 0 M e) : cB 0 M' e := cB_fr hB (fun q j h1 h2 _ => h.1 q 0 j (PWk_n (Or.inl (by omega))))
theorem xco_l {w h s a b n : Nat} (hn : n ≤ 1) : xln w h s a b n / 2 = xco w h s a b := by
  show (2 * xco w h s a b + n) / 2 = _
  omega
theorem g_add18 {nS d i : Nat} {M : aM} {j x : Int32} {a : Nat} (hj : j = Int32.ofNat a) (ha : a < 16) : aC nS (d + 1) 107 [vR 18 i, vI j, vI x] M (fun v M' => v = none ∧ M' = a_pI M 18 i a (M.1 18 i a + x)) (fun _ _ => False) := by
  refine aC_mk rfl rfl ?_
  intro K hK _
  subst hj
  refine hK _ _ _ _ (hK _ _ _ _ ⟨fun h => ?_, fun h => ?_⟩)
  · exact absurd (x_lt (y := 0) rfl rfl (by omega) (by decide) h) (by omega)
  · refine hK _ _ _ _ (hK _ _ _ _ (hK _ _ _ _ (hK _ _ _ _ ⟨fun h => ?_, fun h => ?_⟩)))
    · exact absurd (x_ge (y := 16) rfl rfl (by omega) (by decide) h) (by omega)
    · refine hK _ _ _ _ (hK _ _ _ _ (hK _ _ _ _ (hK _ _ _ _ ⟨x_vp rfl ha (by decide), ?_⟩)))
      rw [x_cl rfl (by omega)]
      refine hK _ _ _ _ (hK _ _ _ _ (hK _ _ _ _ ⟨x_vp rfl ha (by decide), ?_⟩))
      rw [x_cl rfl (by omega)]
      exact hK _ _ _ _ ⟨rfl, rfl⟩
theorem g_fill18 {nS d i : Nat} {M : aM} {x : Int32} : aC nS (d + 1) 110 [vR 18 i, vI x] M (fun v M' => v = none ∧ fr (PR 18 i) M M' ∧ ∀ j, j < 16 → M'.1 18 i j = x) (fun _ _ => False) := by
  refine aC_mk rfl rfl ?_
  intro K hK _
  have lp : ∀ (m a : Nat) (M1 : aM), 16 - a = m → a ≤ 16 → fr (PR 18 i) M M1 → (∀ j, j < a → M1.1 18 i j = x) → K 2 [some (vR 18 i), some (vI x), some (vI (Int32.ofNat a))] [] M1 := by
    intro m
    induction m with
    | zero =>
      intro a M1 hm ha hf hj
      refine hK _ _ _ _ (hK _ _ _ _ (hK _ _ _ _ (hK _ _ _ _ ⟨fun h => ?_, fun h => ?_⟩)))
      · exact hK _ _ _ _ ⟨rfl, hf, fun j h2 => hj j (by omega)⟩
      · exact absurd (x_nge (x := a) (y := 16) rfl rfl (by omega) (by decide) h) (by omega)
    | succ m ih =>
      intro a M1 hm ha hf hj
      refine hK _ _ _ _ (hK _ _ _ _ (hK _ _ _ _ (hK _ _ _ _ ⟨fun h => ?_, fun h => ?_⟩)))
      · exact absurd (x_ge (x := a) (y := 16) rfl rfl (by omega) (by decide) h) (by omega)
      · refine hK _ _ _ _ (hK _ _ _ _ (hK _ _ _ _ (hK _ _ _ _ ⟨x_vp rfl (show a < 16 by omega) (by decide), ?_⟩)))
        rw [x_cl rfl (by omega)]
        refine hK _ _ _ _ (hK _ _ _ _ ?_)
        rw [hI_s]
        exact ih (a + 1) _ (by omega) (by omega) (fr_p hf PR_t) (fun j h2 => by
          by_cases he : j = a
          · rw [he]
            exact x_pe
          · rw [x_pn (fun z => he z.2.2)]
            exact hj j (by omega))
  refine hK _ _ _ _ (hK _ _ _ _ ?_)
  exact lp _ 0 M rfl (Nat.zero_le _) fr_r (fun j hj => absurd hj (Nat.not_lt_zero _))
theorem g_add19 {nS d i : Nat} {M : aM} {j x : Int32} {a : Nat} (hj : j = Int32.ofNat a) (ha : a < 16) : aC nS (d + 1) 107 [vR 19 i, vI j, vI x] M (fun v M' => v = none ∧ M' = a_pI M 19 i a (M.1 19 i a + x)) (fun _ _ => False) := by
  refine aC_mk rfl rfl ?_
  intro K hK _
  subst hj
  refine hK _ _ _ _ (hK _ _ _ _ ⟨fun h => ?_, fun h => ?_⟩)
  · exact absurd (x_lt (y := 0) rfl rfl (by omega) (by decide) h) (by omega)
  · refine hK _ _ _ _ (hK _ _ _ _ (hK _ _ _ _ (hK _ _ _ _ ⟨fun h => ?_, fun h => ?_⟩)))
    · exact absurd (x_ge (y := 16) rfl rfl (by omega) (by decide) h) (by omega)
    · refine hK _ _ _ _ (hK _ _ _ _ (hK _ _ _ _ (hK _ _ _ _ ⟨x_vp rfl ha (by decide), ?_⟩)))
      rw [x_cl rfl (by omega)]
      refine hK _ _ _ _ (hK _ _ _ _ (hK _ _ _ _ ⟨x_vp rfl ha (by decide), ?_⟩))
      rw [x_cl rfl (by omega)]
      exact hK _ _ _ _ ⟨rfl, rfl⟩
theorem g_fill19 {nS d i : Nat} {M : aM} {x : Int32} : aC nS (d + 1) 110 [vR 19 i, vI x] M (fun v M' => v = none ∧ fr (PR 19 i) M M' ∧ ∀ j, j < 16 → M'.1 19 i j = x) (fun _ _ => False) := by
  refine aC_mk rfl rfl ?_
  intro K hK _
  have lp : ∀ (m a : Nat) (M1 : aM), 16 - a = m → a ≤ 16 → fr (PR 19 i) M M1 → (∀ j, j < a → M1.1 19 i j = x) → K 2 [some (vR 19 i), some (vI x), some (vI (Int32.ofNat a))] [] M1 := by
    intro m
    induction m with
    | zero =>
      intro a M1 hm ha hf hj
      refine hK _ _ _ _ (hK _ _ _ _ (hK _ _ _ _ (hK _ _ _ _ ⟨fun h => ?_, fun h => ?_⟩)))
      · exact hK _ _ _ _ ⟨rfl, hf, fun j h2 => hj j (by omega)⟩
      · exact absurd (x_nge (x := a) (y := 16) rfl rfl (by omega) (by decide) h) (by omega)
    | succ m ih =>
      intro a M1 hm ha hf hj
      refine hK _ _ _ _ (hK _ _ _ _ (hK _ _ _ _ (hK _ _ _ _ ⟨fun h => ?_, fun h => ?_⟩)))
      · exact absurd (x_ge (x := a) (y := 16) rfl rfl (by omega) (by decide) h) (by omega)
      · refine hK _ _ _ _ (hK _ _ _ _ (hK _ _ _ _ (hK _ _ _ _ ⟨x_vp rfl (show a < 16 by omega) (by decide), ?_⟩)))
        rw [x_cl rfl (by omega)]
        refine hK _ _ _ _ (hK _ _ _ _ ?_)
        rw [hI_s]
        exact ih (a + 1) _ (by omega) (by omega) (fr_p hf PR_t) (fun j h2 => by
          by_cases he : j = a
          · rw [he]
            exact x_pe
          · rw [x_pn (fun z => he z.2.2)]
            exact hj j (by omega))
  refine hK _ _ _ _ (hK _ _ _ _ ?_)
  exact lp _ 0 M rfl (Nat.zero_le _) fr_r (fun j hj => absurd hj (Nat.not_lt_zero _))
theorem b_arrive {nS d q : Nat} {M : aM} {x : Int32} (hx : x = Int32.ofNat q) (hq : q < 16) : aC nS (d + 2) 143 [vR 17 0, vI x] M (fun v M' => v = none ∧ M' = a_pI (a_pI (a_pI (a_pI M 17 0 3 (Int32.ofNat (q % 4))) 17 0 4 (Int32.ofNat (q / 4))) 17 0 5 (M.1 17 0 5 + 1)) 18 0 q (M.1 18 0 q + 1)) (fun _ _ => False) := by
  refine aC_mk rfl rfl ?_
  intro K hK _
  refine hK _ _ _ _ (hK _ _ _ _ (hK _ _ _ _ (⟨_, b_columnOf hx (by omega), rfl, fun v2 M2 g2 => ?_⟩)))
  obtain ⟨rfl, rfl⟩ := g2
  refine hK _ _ _ _ (hK _ _ _ _ (hK _ _ _ _ (hK _ _ _ _ (⟨_, b_rowOf hx (by omega), rfl, fun v10 M10 g10 => ?_⟩))))
  obtain ⟨rfl, rfl⟩ := g10
  refine hK _ _ _ _ (hK _ _ _ _ (hK _ _ _ _ (hK _ _ _ _ (hK _ _ _ _ (hK _ _ _ _ (hK _ _ _ _ (hK _ _ _ _ (hK _ _ _ _ (hK _ _ _ _ (hK _ _ _ _ (hK _ _ _ _ (⟨_, g_add18 hx hq, rfl, fun v32 M32 g32 => ?_⟩))))))))))))
  obtain ⟨rfl, rfl⟩ := g32
  exact hK _ _ _ _ (⟨rfl, rfl⟩)
theorem b_step2 {nS d w h s c : Nat} {M : aM} (hs : cS 0 M w h s) (w1 : 1 ≤ w) (w3 : w ≤ 3) (s2 : s ≤ 2) (hx : M.1 17 0 3 = Int32.ofNat c) (hc : c ≤ 3) : aC nS (d + 2) 142 [vR 17 0, vI (Int32.ofNat 2)] M (fun v M' => v = none ∧ M' = a_pI M 17 0 3 (if c = 0 ∧ s = 0 then -1 else Int32.ofNat (bif Nat.beq c 0 then w - 1 else c - 1))) (fun _ _ => False) := by
  refine aC_mk rfl rfl ?_
  intro K hK _
  refine hK _ _ _ _ (hK _ _ _ _ (hK _ _ _ _ (⟨fun q => (by first | exact absurd q (by decide) | exact absurd rfl q | exact absurd (by decide) q), fun _ => ?_⟩)))
  have fin : (c = 0 → s = 0) → K 35 [some (vR 17 0), some (vI (Int32.ofNat 2))] [vR 17 0] M := by
    intro hz
    refine hK _ _ _ _ (hK _ _ _ _ (hK _ _ _ _ (?_)))
    rw [hx]
    refine hK _ _ _ _ (hK _ _ _ _ (hK _ _ _ _ (hK _ _ _ _ (⟨rfl, ?_⟩))))
    by_cases h0 : c = 0
    · rw [if_pos ⟨h0, hz h0⟩, h0]
      rfl
    · rw [if_neg (fun z => h0 z.1), x_nbeq h0, cond_false, show (1 : Int32) = Int32.ofNat 1 from rfl, x_sub (by omega) (by omega)]
  refine hK _ _ _ _ (hK _ _ _ _ (hK _ _ _ _ (hK _ _ _ _ (⟨fun q => ?_, fun q => ?_⟩))))
  · rw [hx] at q
    exact fin (fun z => absurd (by rw [z]; rfl) q)
  · rw [hx] at q
    have h0 : c = 0 := x_inj (y := 0) (by omega) (by decide) q
    refine hK _ _ _ _ (hK _ _ _ _ (hK _ _ _ _ (⟨_, b_isFlat (d := d) hs.2.2.1 s2, rfl, fun v17 M17 g17 => ?_⟩)))
    obtain ⟨hf, rfl⟩ := g17
    rcases hf with ⟨f0, rfl⟩ | ⟨f0, rfl⟩
    · refine hK _ _ _ _ (⟨fun _ => ?_, fun q => (by first | exact absurd q (by decide) | exact absurd rfl q | exact absurd (by decide) q)⟩)
      exact fin (fun _ => f0)
    · refine hK _ _ _ _ (⟨fun q => (by first | exact absurd q (by decide) | exact absurd rfl q | exact absurd (by decide) q), fun _ => ?_⟩)
      refine hK _ _ _ _ (hK _ _ _ _ (hK _ _ _ _ (⟨_, b_wide, rfl, fun v27 M27 g27 => ?_⟩)))
      obtain ⟨rfl, rfl⟩ := g27
      rw [hs.1]
      refine hK _ _ _ _ (hK _ _ _ _ (hK _ _ _ _ (hK _ _ _ _ (hK _ _ _ _ (hK _ _ _ _ (⟨rfl, ?_⟩))))))
      rw [if_neg (fun z => f0 z.2), x_beq h0, cond_true, show (1 : Int32) = Int32.ofNat 1 from rfl, x_sub w1 (by omega)]
theorem b_step3 {nS d w h s c : Nat} {M : aM} (hs : cS 0 M w h s) (h1 : 1 ≤ h) (h3 : h ≤ 3) (s2 : s ≤ 2) (hx : M.1 17 0 4 = Int32.ofNat c) (hc : c ≤ 3) : aC nS (d + 2) 142 [vR 17 0, vI (Int32.ofNat 3)] M (fun v M' => v = none ∧ M' = a_pI M 17 0 4 (if c = 0 ∧ ¬ s = 2 then -1 else Int32.ofNat (bif Nat.beq c 0 then h - 1 else c - 1))) (fun _ _ => False) := by
  refine aC_mk rfl rfl ?_
  intro K hK _
  refine hK _ _ _ _ (hK _ _ _ _ (hK _ _ _ _ (⟨fun _ => ?_, fun q => (by first | exact absurd q (by decide) | exact absurd rfl q | exact absurd (by decide) q)⟩)))
  have fin : (c = 0 → ¬ s = 2) → K 77 [some (vR 17 0), some (vI (Int32.ofNat 3))] [vR 17 0] M := by
    intro hz
    refine hK _ _ _ _ (hK _ _ _ _ (hK _ _ _ _ (?_)))
    rw [hx]
    refine hK _ _ _ _ (hK _ _ _ _ (hK _ _ _ _ (⟨rfl, ?_⟩)))
    by_cases h0 : c = 0
    · rw [if_pos ⟨h0, hz h0⟩, h0]
      rfl
    · rw [if_neg (fun z => h0 z.1), x_nbeq h0, cond_false, show (1 : Int32) = Int32.ofNat 1 from rfl, x_sub (by omega) (by omega)]
  refine hK _ _ _ _ (hK _ _ _ _ (hK _ _ _ _ (hK _ _ _ _ (⟨fun q => ?_, fun q => ?_⟩))))
  · rw [hx] at q
    exact fin (fun z => absurd (by rw [z]; rfl) q)
  · rw [hx] at q
    have h0 : c = 0 := x_inj (y := 0) (by omega) (by decide) q
    refine hK _ _ _ _ (hK _ _ _ _ (hK _ _ _ _ (⟨_, b_isClosed (d := d) hs.2.2.1 s2, rfl, fun v59 M59 g59 => ?_⟩)))
    obtain ⟨hf, rfl⟩ := g59
    rcases hf with ⟨f0, rfl⟩ | ⟨f0, rfl⟩
    · refine hK _ _ _ _ (⟨fun q => (by first | exact absurd q (by decide) | exact absurd rfl q | exact absurd (by decide) q), fun _ => ?_⟩)
      refine hK _ _ _ _ (hK _ _ _ _ (hK _ _ _ _ (⟨_, b_high, rfl, fun v69 M69 g69 => ?_⟩)))
      obtain ⟨rfl, rfl⟩ := g69
      rw [hs.2.1]
      refine hK _ _ _ _ (hK _ _ _ _ (hK _ _ _ _ (hK _ _ _ _ (hK _ _ _ _ (⟨rfl, ?_⟩)))))
      rw [if_neg (fun z => z.2 f0), x_beq h0, cond_true, show (1 : Int32) = Int32.ofNat 1 from rfl, x_sub h1 (by omega)]
    · refine hK _ _ _ _ (⟨fun _ => ?_, fun q => (by first | exact absurd q (by decide) | exact absurd rfl q | exact absurd (by decide) q)⟩)
      exact fin (fun _ => f0)
theorem b_lineK {nS d i w h s n c1 c2 : Nat} {off : Bool} {M : aM} {x y z : Int32} (hs : cS i M w h s) (w1 : 1 ≤ w) (w3 : w ≤ 3) (h1 : 1 ≤ h) (h3 : h ≤ 3) (hn : n ≤ 1) (hz : z = Int32.ofNat n) (hc : (off = true ∧ (x = -1 ∨ y = -1)) ∨ (off = false ∧ x = Int32.ofNat c1 ∧ y = Int32.ofNat c2 ∧ c1 ≤ w ∧ c2 ≤ h)) : aC nS (d + 3) 18 [vR 4 i, vI x, vI y, vI z] M (fun v M' => v = some (vI (if off = false ∧ xlv w h s c1 c2 n = true then Int32.ofNat (xln w h s c1 c2 n) else -1)) ∧ M = M') (fun _ _ => False) := by
  refine aC_post (b_lineAt hs w1 w3 h1 h3 hn hz) (fun v M' q => ?_) (fun _ _ z => z)
  obtain ⟨q, rfl⟩ := q
  refine ⟨?_, rfl⟩
  rcases hc with ⟨h0, hm⟩ | ⟨h0, rfl, rfl, k1, k2⟩
  · rw [if_neg (fun z => by rw [h0] at z; cases z.1)]
    rcases q with ⟨a, b, ha, hb, e1, e2, -⟩ | ⟨-, rfl⟩
    · rcases hm with h9 | h9
      · exact absurd (e1.symm.trans h9) (x_m1 (by omega))
      · exact absurd (e2.symm.trans h9) (x_m1 (by omega))
    · rfl
  · rcases q with ⟨a, b, ha, hb, e1, e2, q⟩ | ⟨no, -⟩
    · have f1 := x_inj (x := c1) (y := a) (by omega) (by omega) e1
      have f2 := x_inj (x := c2) (y := b) (by omega) (by omega) e2
      subst f1
      subst f2
      rcases q with ⟨hv, rfl⟩ | ⟨hv, rfl⟩
      · rw [if_pos ⟨h0, hv⟩]
      · rw [if_neg (fun z => by rw [hv] at z; cases z.2)]
    · refine absurd ?_ no
      exact ⟨(hI_le (a := 0) (by decide) (by omega)).mpr (Nat.zero_le _), (hI_le (by omega) (by omega)).mpr k1, (hI_le (a := 0) (by decide) (by omega)).mpr (Nat.zero_le _), (hI_le (by omega) (by omega)).mpr k2⟩
theorem b_turnK {nS d i a : Nat} {M : aM} {x z : Int32} (hx : x = Int32.ofNat a) (ha : a < 32) (hz : M.1 12 i a = z) : aC nS (d + 2) 28 [vR 4 i, vI x] M (fun v M' => v = some (vI z) ∧ M = M') (fun _ _ => False) := by
  subst hz
  exact b_turnOn hx ha
theorem xcx_3 {w s x : Nat} (w3 : w ≤ 3) (hx : x ≤ w) : xcx w s x ≤ 3 := by
  unfold xcx
  cases Nat.beq x (xcols w s) with
  | true => exact Nat.zero_le _
  | false => exact Nat.le_trans hx w3
theorem xcy_3 {h s y : Nat} (h3 : h ≤ 3) (hy : y ≤ h) : xcy h s y ≤ 3 := by
  unfold xcy
  cases Nat.beq y (xrows h s) with
  | true => exact Nat.zero_le _
  | false => exact Nat.le_trans hy h3
theorem xco_m {w h s x y : Nat} (w3 : w ≤ 3) (hx : x ≤ w) : xco w h s x y % 4 = xcx w s x ∧ xco w h s x y / 4 = xcy h s y := by
  have h4 := xcx_3 (s := s) w3 hx
  show (xcy h s y * 4 + xcx w s x) % 4 = _ ∧ (xcy h s y * 4 + xcx w s x) / 4 = _
  omega
theorem b_go0 {nS d : Nat} {M : aM} {e : xB} {t : xW} (hB : cB 0 M e) (hO : lO e.2.1.1 e.2.1.2.1 e.2.1.2.2 e.1.2 e.2.2.2.2) (hs : WKs M e t) (ho : xWo e t) : aC nS (d + 4) 141 [vR 17 0, vI (Int32.ofNat 0)] M (fun v M' => fr PWk M M' ∧ ((∃ u, wgo1 e 0 t = some u ∧ xWo e u ∧ v = some (vI 1) ∧ WKs M' e u ∧ WKv e 0 t u M M') ∨ (wgo1 e 0 t = none ∧ v = some (vI 0)))) (fun _ _ => False) := by
  obtain ⟨hor, o2, o8, hS, w1, w3, h1, h3, s2⟩ := cB_h hB
  have tb := wtab (way := 0) w1 w3 h1 h3 s2 (by decide) ho.1 ho.2.1
  have cx3 := xcx_3 (s := e.2.1.2.2) w3 ho.1
  have cy3 := xcy_3 (s := e.2.1.2.2) h3 ho.2.1
  refine aC_mk rfl rfl ?_
  intro K hK _
  refine hK _ _ _ _ (hK _ _ _ _ (hK _ _ _ _ (⟨fun q => (by first | exact absurd q (by decide) | exact absurd rfl q | exact absurd (by decide) q), fun _ => ?_⟩)))
  refine hK _ _ _ _ (hK _ _ _ _ (hK _ _ _ _ (⟨fun _ => ?_, fun q => (by first | exact absurd q (by decide) | exact absurd rfl q | exact absurd (by decide) q)⟩)))
  refine hK _ _ _ _ (hK _ _ _ _ (hK _ _ _ _ (hK _ _ _ _ (hK _ _ _ _ (⟨fun q => (by first | exact absurd q (by decide) | exact absurd rfl q | exact absurd (by decide) q), fun _ => ?_⟩)))))
  refine hK _ _ _ _ (hK _ _ _ _ (hK _ _ _ _ (⟨fun _ => ?_, fun q => (by first | exact absurd q (by decide) | exact absurd rfl q | exact absurd (by decide) q)⟩)))
  refine hK _ _ _ _ (hK _ _ _ _ (hK _ _ _ _ (hK _ _ _ _ (⟨fun _ => ?_, fun q => (by first | exact absurd q (by decide) | exact absurd rfl q | exact absurd (by decide) q)⟩))))
  have f1 : fr PWk M M := fr_r
  have B1 : cB 0 M e := cB_w f1 hB
  have S1 := (cB_h B1).2.2.2.1
  have F1 := B1.1
  have hc : (wof e.2.1.2.2 0 (xcx e.2.1.1 e.2.1.2.2 t.1.1) (xcy e.2.1.2.1 e.2.1.2.2 t.1.2) = true ∧ (M.1 17 0 3 = -1 ∨ M.1 17 0 4 = -1)) ∨ (wof e.2.1.2.2 0 (xcx e.2.1.1 e.2.1.2.2 t.1.1) (xcy e.2.1.2.1 e.2.1.2.2 t.1.2) = false ∧ M.1 17 0 3 = Int32.ofNat (wca e.2.1.1 0 (xcx e.2.1.1 e.2.1.2.2 t.1.1)) ∧ M.1 17 0 4 = Int32.ofNat (wcb e.2.1.2.1 0 (xcy e.2.1.2.1 e.2.1.2.2 t.1.2)) ∧ wca e.2.1.1 0 (xcx e.2.1.1 e.2.1.2.2 t.1.1) ≤ e.2.1.1 ∧ wcb e.2.1.2.1 0 (xcy e.2.1.2.1 e.2.1.2.2 t.1.2) ≤ e.2.1.2.1) := by
    exact Or.inr ⟨rfl, hs.1, hs.2.1, (tb.2.1 rfl).1, (tb.2.1 rfl).2.1⟩
  refine hK _ _ _ _ (hK _ _ _ _ (hK _ _ _ _ (hK _ _ _ _ (hK _ _ _ _ (hK _ _ _ _ (hK _ _ _ _ (hK _ _ _ _ (⟨_, b_lineK (d := d) S1 w1 w3 h1 h3 (n := 0) (by decide) rfl hc, rfl, fun v54 M54 g54 => ?_⟩))))))))
  obtain ⟨rfl, rfl⟩ := g54
  cases hk : wok e.2.1.1 e.2.1.2.1 e.2.1.2.2 0 t.1.1 t.1.2 with
  | false =>
    rw [if_neg (fun z => by rw [(tb.2.1 z.1).2.2.1] at z; rw [hk] at z; cases z.2)]
    refine hK _ _ _ _ (hK _ _ _ _ (hK _ _ _ _ (hK _ _ _ _ (⟨fun q => absurd rfl q, fun _ => ?_⟩))))
    refine hK _ _ _ _ (hK _ _ _ _ (?_))
    exact ⟨Or.inl rfl, f1, Or.inr ⟨by unfold wgo1; rw [hk]; rfl, rfl⟩⟩
  | true =>
    have of0 : wof e.2.1.2.2 0 (xcx e.2.1.1 e.2.1.2.2 t.1.1) (xcy e.2.1.2.1 e.2.1.2.2 t.1.2) = false := by
      cases hz : wof e.2.1.2.2 0 (xcx e.2.1.1 e.2.1.2.2 t.1.1) (xcy e.2.1.2.1 e.2.1.2.2 t.1.2) with
      | false => rfl
      | true =>
        have z := tb.1 hz
        rw [hk] at z
        cases z
    have tc := tb.2.1 of0
    obtain ⟨k1, k2, k3, k4, k5, k6, k7, k8, k9⟩ := tb.2.2 hk
    rw [if_pos ⟨of0, tc.2.2.1.trans hk⟩, show xln e.2.1.1 e.2.1.2.1 e.2.1.2.2 (wca e.2.1.1 0 (xcx e.2.1.1 e.2.1.2.2 t.1.1)) (wcb e.2.1.2.1 0 (xcy e.2.1.2.1 e.2.1.2.2 t.1.2)) 0 = wl e.2.1.1 e.2.1.2.1 e.2.1.2.2 0 t.1.1 t.1.2 from tc.2.2.2]
    refine hK _ _ _ _ (hK _ _ _ _ (hK _ _ _ _ (hK _ _ _ _ (⟨fun _ => ?_, fun q => absurd q (x_m1 (by omega))⟩))))
    obtain ⟨v, hv, ev⟩ := hO _ k3 k4
    refine hK _ _ _ _ (hK _ _ _ _ (hK _ _ _ _ (hK _ _ _ _ (⟨_, b_turnK (d := d + 1) rfl k3 ((B1.2.2.2.2.2 _ k3).trans ev), rfl, fun v73 M73 g73 => ?_⟩))))
    obtain ⟨rfl, rfl⟩ := g73
    refine hK _ _ _ _ (hK _ _ _ _ (hK _ _ _ _ (hK _ _ _ _ (hK _ _ _ _ (⟨_, b_group, rfl, fun v83 M83 g83 => ?_⟩)))))
    obtain ⟨rfl, rfl⟩ := g83
    refine hK _ _ _ _ (hK _ _ _ _ (hK _ _ _ _ (hK _ _ _ _ (⟨fun _ => ?_, fun q => (by first | exact absurd q (by decide) | exact absurd rfl q | exact absurd (by decide) q)⟩))))
    refine hK _ _ _ _ (hK _ _ _ _ (⟨_, g_ctimes (d := d + 2) F1.1.1 F1.2.1 hs.2.2.1 rfl ho.2.2 hv, rfl, fun v111 M111 g111 => ?_⟩))
    obtain ⟨rfl, rfl⟩ := g111
    have xv : xn (Int32.ofNat v) = v := x_cl rfl (by have := (cB_h hB).2.2.1; omega)
    have ewv : wv e 0 t.1.1 t.1.2 = v := by
      show xn (e.2.2.2.2 (wl e.2.1.1 e.2.1.2.1 e.2.1.2.2 0 t.1.1 t.1.2)) = _
      rw [ev, xv]
    refine hK _ _ _ _ (hK _ _ _ _ (hK _ _ _ _ (⟨fun _ => ?_, fun q => (by first | exact absurd q (by decide) | exact absurd rfl q | exact absurd (by decide) q)⟩)))
    have f3 : fr PWk M (a_pI M 17 0 6 (Int32.ofNat (rt e.1.1 e.1.2 t.2.1 v))) := fr_p f1 rfl
    refine hK _ _ _ _ (hK _ _ _ _ (hK _ _ _ _ (⟨fun _ => ?_, fun q => (by first | exact absurd q (by decide) | exact absurd rfl q | exact absurd (by decide) q)⟩)))
    refine hK _ _ _ _ (hK _ _ _ _ (hK _ _ _ _ (hK _ _ _ _ (⟨_, b_endOf (d := d + 1) (cB_h (cB_w f3 hB)).2.2.2.1 w1 w3 h1 h3 k3 k4 rfl, rfl, fun v161 M161 g161 => ?_⟩))))
    obtain ⟨rfl, rfl⟩ := g161
    refine hK _ _ _ _ (⟨_, b_arrive (d := d + 1) (q := xco e.2.1.1 e.2.1.2.1 e.2.1.2.2 (wX e.2.1.1 e.2.1.2.2 0 t.1.1) (wY e.2.1.2.1 e.2.1.2.2 0 t.1.2)) (by rw [← k5]; rfl) k6, rfl, fun v164 M164 g164 => ?_⟩)
    obtain ⟨rfl, rfl⟩ := g164
    obtain ⟨m1, m2⟩ := xco_m (h := e.2.1.2.1) (s := e.2.1.2.2) (y := wY e.2.1.2.1 e.2.1.2.2 0 t.1.2) w3 k1
    refine hK _ _ _ _ (hK _ _ _ _ (?_))
    refine ⟨Or.inr rfl, fr_p (fr_p (fr_p (fr_p f3 rfl) rfl) rfl) rfl, Or.inl ⟨((wX e.2.1.1 e.2.1.2.2 0 t.1.1, wY e.2.1.2.1 e.2.1.2.2 0 t.1.2), rt e.1.1 e.1.2 t.2.1 v, 0 :: t.2.2), ?_, ⟨k1, k2, rt_lt F1.1.1 ho.2.2 hv⟩, rfl, ⟨?_, ?_, rfl, ?_⟩, ?_, ?_⟩⟩
    · unfold wgo1
      rw [hk, cond_true, ewv]
    · show Int32.ofNat (xco e.2.1.1 e.2.1.2.1 e.2.1.2.2 (wX e.2.1.1 e.2.1.2.2 0 t.1.1) (wY e.2.1.2.1 e.2.1.2.2 0 t.1.2) % 4) = _
      rw [m1]
    · show Int32.ofNat (xco e.2.1.1 e.2.1.2.1 e.2.1.2.2 (wX e.2.1.1 e.2.1.2.2 0 t.1.1) (wY e.2.1.2.1 e.2.1.2.2 0 t.1.2) / 4) = _
      rw [m2]
    · show M.1 17 0 5 + 1 = _
      rw [hs.2.2.2]
      exact hI_s
    · intro j
      by_cases hj : j = xco e.2.1.1 e.2.1.2.1 e.2.1.2.2 (wX e.2.1.1 e.2.1.2.2 0 t.1.1) (wY e.2.1.2.1 e.2.1.2.2 0 t.1.2)
      · rw [if_pos hj, hj]
        exact x_pe
      · rw [if_neg hj]
        exact x_pn (fun z => hj z.2.2)
    · intro j
      exact Eq.trans (show _ = M.1 19 0 j from rfl) (if_neg (fun z => absurd z.1 (by decide))).symm
theorem b_go1 {nS d : Nat} {M : aM} {e : xB} {t : xW} (hB : cB 0 M e) (hO : lO e.2.1.1 e.2.1.2.1 e.2.1.2.2 e.1.2 e.2.2.2.2) (hs : WKs M e t) (ho : xWo e t) : aC nS (d + 4) 141 [vR 17 0, vI (Int32.ofNat 1)] M (fun v M' => fr PWk M M' ∧ ((∃ u, wgo1 e 1 t = some u ∧ xWo e u ∧ v = some (vI 1) ∧ WKs M' e u ∧ WKv e 1 t u M M') ∨ (wgo1 e 1 t = none ∧ v = some (vI 0)))) (fun _ _ => False) := by
  obtain ⟨hor, o2, o8, hS, w1, w3, h1, h3, s2⟩ := cB_h hB
  have tb := wtab (way := 1) w1 w3 h1 h3 s2 (by decide) ho.1 ho.2.1
  have cx3 := xcx_3 (s := e.2.1.2.2) w3 ho.1
  have cy3 := xcy_3 (s := e.2.1.2.2) h3 ho.2.1
  refine aC_mk rfl rfl ?_
  intro K hK _
  refine hK _ _ _ _ (hK _ _ _ _ (hK _ _ _ _ (⟨fun q => (by first | exact absurd q (by decide) | exact absurd rfl q | exact absurd (by decide) q), fun _ => ?_⟩)))
  refine hK _ _ _ _ (hK _ _ _ _ (hK _ _ _ _ (⟨fun _ => ?_, fun q => (by first | exact absurd q (by decide) | exact absurd rfl q | exact absurd (by decide) q)⟩)))
  refine hK _ _ _ _ (hK _ _ _ _ (hK _ _ _ _ (hK _ _ _ _ (hK _ _ _ _ (⟨fun _ => ?_, fun q => (by first | exact absurd q (by decide) | exact absurd rfl q | exact absurd (by decide) q)⟩)))))
  refine hK _ _ _ _ (hK _ _ _ _ (hK _ _ _ _ (hK _ _ _ _ (hK _ _ _ _ (⟨fun _ => ?_, fun q => (by first | exact absurd q (by decide) | exact absurd rfl q | exact absurd (by decide) q)⟩)))))
  have f1 : fr PWk M M := fr_r
  have B1 : cB 0 M e := cB_w f1 hB
  have S1 := (cB_h B1).2.2.2.1
  have F1 := B1.1
  have hc : (wof e.2.1.2.2 1 (xcx e.2.1.1 e.2.1.2.2 t.1.1) (xcy e.2.1.2.1 e.2.1.2.2 t.1.2) = true ∧ (M.1 17 0 3 = -1 ∨ M.1 17 0 4 = -1)) ∨ (wof e.2.1.2.2 1 (xcx e.2.1.1 e.2.1.2.2 t.1.1) (xcy e.2.1.2.1 e.2.1.2.2 t.1.2) = false ∧ M.1 17 0 3 = Int32.ofNat (wca e.2.1.1 1 (xcx e.2.1.1 e.2.1.2.2 t.1.1)) ∧ M.1 17 0 4 = Int32.ofNat (wcb e.2.1.2.1 1 (xcy e.2.1.2.1 e.2.1.2.2 t.1.2)) ∧ wca e.2.1.1 1 (xcx e.2.1.1 e.2.1.2.2 t.1.1) ≤ e.2.1.1 ∧ wcb e.2.1.2.1 1 (xcy e.2.1.2.1 e.2.1.2.2 t.1.2) ≤ e.2.1.2.1) := by
    exact Or.inr ⟨rfl, hs.1, hs.2.1, (tb.2.1 rfl).1, (tb.2.1 rfl).2.1⟩
  refine hK _ _ _ _ (hK _ _ _ _ (hK _ _ _ _ (hK _ _ _ _ (hK _ _ _ _ (hK _ _ _ _ (hK _ _ _ _ (hK _ _ _ _ (⟨_, b_lineK (d := d) S1 w1 w3 h1 h3 (n := 1) (by decide) rfl hc, rfl, fun v54 M54 g54 => ?_⟩))))))))
  obtain ⟨rfl, rfl⟩ := g54
  cases hk : wok e.2.1.1 e.2.1.2.1 e.2.1.2.2 1 t.1.1 t.1.2 with
  | false =>
    rw [if_neg (fun z => by rw [(tb.2.1 z.1).2.2.1] at z; rw [hk] at z; cases z.2)]
    refine hK _ _ _ _ (hK _ _ _ _ (hK _ _ _ _ (hK _ _ _ _ (⟨fun q => absurd rfl q, fun _ => ?_⟩))))
    refine hK _ _ _ _ (hK _ _ _ _ (?_))
    exact ⟨Or.inl rfl, f1, Or.inr ⟨by unfold wgo1; rw [hk]; rfl, rfl⟩⟩
  | true =>
    have of0 : wof e.2.1.2.2 1 (xcx e.2.1.1 e.2.1.2.2 t.1.1) (xcy e.2.1.2.1 e.2.1.2.2 t.1.2) = false := by
      cases hz : wof e.2.1.2.2 1 (xcx e.2.1.1 e.2.1.2.2 t.1.1) (xcy e.2.1.2.1 e.2.1.2.2 t.1.2) with
      | false => rfl
      | true =>
        have z := tb.1 hz
        rw [hk] at z
        cases z
    have tc := tb.2.1 of0
    obtain ⟨k1, k2, k3, k4, k5, k6, k7, k8, k9⟩ := tb.2.2 hk
    rw [if_pos ⟨of0, tc.2.2.1.trans hk⟩, show xln e.2.1.1 e.2.1.2.1 e.2.1.2.2 (wca e.2.1.1 1 (xcx e.2.1.1 e.2.1.2.2 t.1.1)) (wcb e.2.1.2.1 1 (xcy e.2.1.2.1 e.2.1.2.2 t.1.2)) 1 = wl e.2.1.1 e.2.1.2.1 e.2.1.2.2 1 t.1.1 t.1.2 from tc.2.2.2]
    refine hK _ _ _ _ (hK _ _ _ _ (hK _ _ _ _ (hK _ _ _ _ (⟨fun _ => ?_, fun q => absurd q (x_m1 (by omega))⟩))))
    obtain ⟨v, hv, ev⟩ := hO _ k3 k4
    refine hK _ _ _ _ (hK _ _ _ _ (hK _ _ _ _ (hK _ _ _ _ (⟨_, b_turnK (d := d + 1) rfl k3 ((B1.2.2.2.2.2 _ k3).trans ev), rfl, fun v73 M73 g73 => ?_⟩))))
    obtain ⟨rfl, rfl⟩ := g73
    refine hK _ _ _ _ (hK _ _ _ _ (hK _ _ _ _ (hK _ _ _ _ (hK _ _ _ _ (⟨_, b_group, rfl, fun v83 M83 g83 => ?_⟩)))))
    obtain ⟨rfl, rfl⟩ := g83
    refine hK _ _ _ _ (hK _ _ _ _ (hK _ _ _ _ (hK _ _ _ _ (⟨fun _ => ?_, fun q => (by first | exact absurd q (by decide) | exact absurd rfl q | exact absurd (by decide) q)⟩))))
    refine hK _ _ _ _ (hK _ _ _ _ (⟨_, g_ctimes (d := d + 2) F1.1.1 F1.2.1 hs.2.2.1 rfl ho.2.2 hv, rfl, fun v111 M111 g111 => ?_⟩))
    obtain ⟨rfl, rfl⟩ := g111
    have xv : xn (Int32.ofNat v) = v := x_cl rfl (by have := (cB_h hB).2.2.1; omega)
    have ewv : wv e 1 t.1.1 t.1.2 = v := by
      show xn (e.2.2.2.2 (wl e.2.1.1 e.2.1.2.1 e.2.1.2.2 1 t.1.1 t.1.2)) = _
      rw [ev, xv]
    refine hK _ _ _ _ (hK _ _ _ _ (hK _ _ _ _ (⟨fun q => (by first | exact absurd q (by decide) | exact absurd rfl q | exact absurd (by decide) q), fun _ => ?_⟩)))
    refine hK _ _ _ _ (hK _ _ _ _ (hK _ _ _ _ (hK _ _ _ _ (⟨_, b_beginOf (d := d + 2) rfl (show (wl e.2.1.1 e.2.1.2.1 e.2.1.2.2 1 t.1.1 t.1.2) < 2147483648 by omega), rfl, fun v127 M127 g127 => ?_⟩))))
    obtain ⟨rfl, rfl⟩ := g127
    refine hK _ _ _ _ (hK _ _ _ _ (⟨fun _ => ?_, fun q => (by first | exact absurd q (by decide) | exact absurd rfl q | exact absurd (by decide) q)⟩))
    refine hK _ _ _ _ (hK _ _ _ _ (⟨_, g_add19 (d := d + 2) rfl (show (wl e.2.1.1 e.2.1.2.1 e.2.1.2.2 1 t.1.1 t.1.2) / 2 < 16 by omega), rfl, fun v139 M139 g139 => ?_⟩))
    obtain ⟨rfl, rfl⟩ := g139
    have f3 : fr PWk M (a_pI (a_pI M 17 0 6 (Int32.ofNat (rt e.1.1 e.1.2 t.2.1 v))) 19 0 ((wl e.2.1.1 e.2.1.2.1 e.2.1.2.2 1 t.1.1 t.1.2) / 2) ((a_pI M 17 0 6 (Int32.ofNat (rt e.1.1 e.1.2 t.2.1 v))).1 19 0 ((wl e.2.1.1 e.2.1.2.1 e.2.1.2.2 1 t.1.1 t.1.2) / 2) + 1)) := fr_p (fr_p f1 rfl) rfl
    refine hK _ _ _ _ (hK _ _ _ _ (hK _ _ _ _ (⟨fun _ => ?_, fun q => (by first | exact absurd q (by decide) | exact absurd rfl q | exact absurd (by decide) q)⟩)))
    refine hK _ _ _ _ (hK _ _ _ _ (hK _ _ _ _ (hK _ _ _ _ (⟨_, b_endOf (d := d + 1) (cB_h (cB_w f3 hB)).2.2.2.1 w1 w3 h1 h3 k3 k4 rfl, rfl, fun v161 M161 g161 => ?_⟩))))
    obtain ⟨rfl, rfl⟩ := g161
    refine hK _ _ _ _ (⟨_, b_arrive (d := d + 1) (q := xco e.2.1.1 e.2.1.2.1 e.2.1.2.2 (wX e.2.1.1 e.2.1.2.2 1 t.1.1) (wY e.2.1.2.1 e.2.1.2.2 1 t.1.2)) (by rw [← k5]; rfl) k6, rfl, fun v164 M164 g164 => ?_⟩)
    obtain ⟨rfl, rfl⟩ := g164
    obtain ⟨m1, m2⟩ := xco_m (h := e.2.1.2.1) (s := e.2.1.2.2) (y := wY e.2.1.2.1 e.2.1.2.2 1 t.1.2) w3 k1
    refine hK _ _ _ _ (hK _ _ _ _ (?_))
    refine ⟨Or.inr rfl, fr_p (fr_p (fr_p (fr_p f3 rfl) rfl) rfl) rfl, Or.inl ⟨((wX e.2.1.1 e.2.1.2.2 1 t.1.1, wY e.2.1.2.1 e.2.1.2.2 1 t.1.2), rt e.1.1 e.1.2 t.2.1 v, 1 :: t.2.2), ?_, ⟨k1, k2, rt_lt F1.1.1 ho.2.2 hv⟩, rfl, ⟨?_, ?_, rfl, ?_⟩, ?_, ?_⟩⟩
    · unfold wgo1
      rw [hk, cond_true, ewv]
    · show Int32.ofNat (xco e.2.1.1 e.2.1.2.1 e.2.1.2.2 (wX e.2.1.1 e.2.1.2.2 1 t.1.1) (wY e.2.1.2.1 e.2.1.2.2 1 t.1.2) % 4) = _
      rw [m1]
    · show Int32.ofNat (xco e.2.1.1 e.2.1.2.1 e.2.1.2.2 (wX e.2.1.1 e.2.1.2.2 1 t.1.1) (wY e.2.1.2.1 e.2.1.2.2 1 t.1.2) / 4) = _
      rw [m2]
    · show M.1 17 0 5 + 1 = _
      rw [hs.2.2.2]
      exact hI_s
    · intro j
      by_cases hj : j = xco e.2.1.1 e.2.1.2.1 e.2.1.2.2 (wX e.2.1.1 e.2.1.2.2 1 t.1.1) (wY e.2.1.2.1 e.2.1.2.2 1 t.1.2)
      · rw [if_pos hj, hj]
        exact x_pe
      · rw [if_neg hj]
        exact x_pn (fun z => hj z.2.2)
    · intro j
      have el : (wl e.2.1.1 e.2.1.2.1 e.2.1.2.2 1 t.1.1 t.1.2) / 2 = xco e.2.1.1 e.2.1.2.1 e.2.1.2.2 (wa e.2.1.1 e.2.1.2.2 1 t.1.1) (wb e.2.1.2.1 e.2.1.2.2 1 t.1.2) := xco_l (n := 1) (Nat.le_refl 1)
      show (a_pI (a_pI M 17 0 6 (Int32.ofNat (rt e.1.1 e.1.2 t.2.1 v))) 19 0 ((wl e.2.1.1 e.2.1.2.1 e.2.1.2.2 1 t.1.1 t.1.2) / 2) ((a_pI M 17 0 6 (Int32.ofNat (rt e.1.1 e.1.2 t.2.1 v))).1 19 0 ((wl e.2.1.1 e.2.1.2.1 e.2.1.2.2 1 t.1.1 t.1.2) / 2) + 1)).1 19 0 j = _
      by_cases hj : j = (wl e.2.1.1 e.2.1.2.1 e.2.1.2.2 1 t.1.1 t.1.2) / 2
      · refine Eq.trans ?_ (if_pos ⟨rfl, hj.trans el⟩).symm
        rw [hj]
        exact x_pe
      · refine Eq.trans ?_ (if_neg (fun z => hj (z.2.trans el.symm))).symm
        exact x_pn (fun z => hj z.2.2)
theorem b_go2 {nS d : Nat} {M : aM} {e : xB} {t : xW} (hB : cB 0 M e) (hO : lO e.2.1.1 e.2.1.2.1 e.2.1.2.2 e.1.2 e.2.2.2.2) (hs : WKs M e t) (ho : xWo e t) : aC nS (d + 4) 141 [vR 17 0, vI (Int32.ofNat 2)] M (fun v M' => fr PWk M M' ∧ ((∃ u, wgo1 e 2 t = some u ∧ xWo e u ∧ v = some (vI 1) ∧ WKs M' e u ∧ WKv e 2 t u M M') ∨ (wgo1 e 2 t = none ∧ v = some (vI 0)))) (fun _ _ => False) := by
  obtain ⟨hor, o2, o8, hS, w1, w3, h1, h3, s2⟩ := cB_h hB
  have tb := wtab (way := 2) w1 w3 h1 h3 s2 (by decide) ho.1 ho.2.1
  have cx3 := xcx_3 (s := e.2.1.2.2) w3 ho.1
  have cy3 := xcy_3 (s := e.2.1.2.2) h3 ho.2.1
  refine aC_mk rfl rfl ?_
  intro K hK _
  refine hK _ _ _ _ (hK _ _ _ _ (hK _ _ _ _ (⟨fun _ => ?_, fun q => (by first | exact absurd q (by decide) | exact absurd rfl q | exact absurd (by decide) q)⟩)))
  refine hK _ _ _ _ (hK _ _ _ _ (hK _ _ _ _ (hK _ _ _ _ (hK _ _ _ _ (hK _ _ _ _ (⟨fun q => (by first | exact absurd q (by decide) | exact absurd rfl q | exact absurd (by decide) q), fun _ => ?_⟩))))))
  refine hK _ _ _ _ (hK _ _ _ _ (hK _ _ _ _ (⟨fun _ => ?_, fun q => (by first | exact absurd q (by decide) | exact absurd rfl q | exact absurd (by decide) q)⟩)))
  refine hK _ _ _ _ (hK _ _ _ _ (hK _ _ _ _ (hK _ _ _ _ (⟨fun q => (by first | exact absurd q (by decide) | exact absurd rfl q | exact absurd (by decide) q), fun _ => ?_⟩))))
  refine hK _ _ _ _ (hK _ _ _ _ (hK _ _ _ _ (⟨_, b_step2 (d := d + 1) hS w1 w3 s2 hs.1 cx3, rfl, fun v38 M38 g38 => ?_⟩)))
  obtain ⟨rfl, rfl⟩ := g38
  have f1 : fr PWk M (a_pI M 17 0 3 (if xcx e.2.1.1 e.2.1.2.2 t.1.1 = 0 ∧ e.2.1.2.2 = 0 then -1 else Int32.ofNat (bif Nat.beq (xcx e.2.1.1 e.2.1.2.2 t.1.1) 0 then e.2.1.1 - 1 else xcx e.2.1.1 e.2.1.2.2 t.1.1 - 1))) := fr_p fr_r rfl
  have B1 : cB 0 (a_pI M 17 0 3 (if xcx e.2.1.1 e.2.1.2.2 t.1.1 = 0 ∧ e.2.1.2.2 = 0 then -1 else Int32.ofNat (bif Nat.beq (xcx e.2.1.1 e.2.1.2.2 t.1.1) 0 then e.2.1.1 - 1 else xcx e.2.1.1 e.2.1.2.2 t.1.1 - 1))) e := cB_w f1 hB
  have S1 := (cB_h B1).2.2.2.1
  have F1 := B1.1
  have hc : (wof e.2.1.2.2 2 (xcx e.2.1.1 e.2.1.2.2 t.1.1) (xcy e.2.1.2.1 e.2.1.2.2 t.1.2) = true ∧ ((a_pI M 17 0 3 (if xcx e.2.1.1 e.2.1.2.2 t.1.1 = 0 ∧ e.2.1.2.2 = 0 then -1 else Int32.ofNat (bif Nat.beq (xcx e.2.1.1 e.2.1.2.2 t.1.1) 0 then e.2.1.1 - 1 else xcx e.2.1.1 e.2.1.2.2 t.1.1 - 1))).1 17 0 3 = -1 ∨ (a_pI M 17 0 3 (if xcx e.2.1.1 e.2.1.2.2 t.1.1 = 0 ∧ e.2.1.2.2 = 0 then -1 else Int32.ofNat (bif Nat.beq (xcx e.2.1.1 e.2.1.2.2 t.1.1) 0 then e.2.1.1 - 1 else xcx e.2.1.1 e.2.1.2.2 t.1.1 - 1))).1 17 0 4 = -1)) ∨ (wof e.2.1.2.2 2 (xcx e.2.1.1 e.2.1.2.2 t.1.1) (xcy e.2.1.2.1 e.2.1.2.2 t.1.2) = false ∧ (a_pI M 17 0 3 (if xcx e.2.1.1 e.2.1.2.2 t.1.1 = 0 ∧ e.2.1.2.2 = 0 then -1 else Int32.ofNat (bif Nat.beq (xcx e.2.1.1 e.2.1.2.2 t.1.1) 0 then e.2.1.1 - 1 else xcx e.2.1.1 e.2.1.2.2 t.1.1 - 1))).1 17 0 3 = Int32.ofNat (wca e.2.1.1 2 (xcx e.2.1.1 e.2.1.2.2 t.1.1)) ∧ (a_pI M 17 0 3 (if xcx e.2.1.1 e.2.1.2.2 t.1.1 = 0 ∧ e.2.1.2.2 = 0 then -1 else Int32.ofNat (bif Nat.beq (xcx e.2.1.1 e.2.1.2.2 t.1.1) 0 then e.2.1.1 - 1 else xcx e.2.1.1 e.2.1.2.2 t.1.1 - 1))).1 17 0 4 = Int32.ofNat (wcb e.2.1.2.1 2 (xcy e.2.1.2.1 e.2.1.2.2 t.1.2)) ∧ wca e.2.1.1 2 (xcx e.2.1.1 e.2.1.2.2 t.1.1) ≤ e.2.1.1 ∧ wcb e.2.1.2.1 2 (xcy e.2.1.2.1 e.2.1.2.2 t.1.2) ≤ e.2.1.2.1) := by
    by_cases h0 : xcx e.2.1.1 e.2.1.2.2 t.1.1 = 0 ∧ e.2.1.2.2 = 0
    · refine Or.inl ⟨?_, Or.inl ?_⟩
      · unfold wof
        rw [x_beq h0.1, x_beq h0.2]
        rfl
      · exact x_pe.trans (if_pos h0)
    · have of0 : wof e.2.1.2.2 2 (xcx e.2.1.1 e.2.1.2.2 t.1.1) (xcy e.2.1.2.1 e.2.1.2.2 t.1.2) = false := by
        unfold wof
        by_cases h2 : xcx e.2.1.1 e.2.1.2.2 t.1.1 = 0
        · rw [x_nbeq (fun z => h0 ⟨h2, z⟩), Bool.and_false]
          rfl
        · rw [x_nbeq h2]
          rfl
      exact Or.inr ⟨of0, x_pe.trans (if_neg h0), hs.2.1, (tb.2.1 of0).1, (tb.2.1 of0).2.1⟩
  refine hK _ _ _ _ (hK _ _ _ _ (hK _ _ _ _ (hK _ _ _ _ (hK _ _ _ _ (hK _ _ _ _ (hK _ _ _ _ (hK _ _ _ _ (⟨_, b_lineK (d := d) S1 w1 w3 h1 h3 (n := 0) (by decide) rfl hc, rfl, fun v54 M54 g54 => ?_⟩))))))))
  obtain ⟨rfl, rfl⟩ := g54
  cases hk : wok e.2.1.1 e.2.1.2.1 e.2.1.2.2 2 t.1.1 t.1.2 with
  | false =>
    rw [if_neg (fun z => by rw [(tb.2.1 z.1).2.2.1] at z; rw [hk] at z; cases z.2)]
    refine hK _ _ _ _ (hK _ _ _ _ (hK _ _ _ _ (hK _ _ _ _ (⟨fun q => absurd rfl q, fun _ => ?_⟩))))
    refine hK _ _ _ _ (hK _ _ _ _ (?_))
    exact ⟨Or.inl rfl, f1, Or.inr ⟨by unfold wgo1; rw [hk]; rfl, rfl⟩⟩
  | true =>
    have of0 : wof e.2.1.2.2 2 (xcx e.2.1.1 e.2.1.2.2 t.1.1) (xcy e.2.1.2.1 e.2.1.2.2 t.1.2) = false := by
      cases hz : wof e.2.1.2.2 2 (xcx e.2.1.1 e.2.1.2.2 t.1.1) (xcy e.2.1.2.1 e.2.1.2.2 t.1.2) with
      | false => rfl
      | true =>
        have z := tb.1 hz
        rw [hk] at z
        cases z
    have tc := tb.2.1 of0
    obtain ⟨k1, k2, k3, k4, k5, k6, k7, k8, k9⟩ := tb.2.2 hk
    rw [if_pos ⟨of0, tc.2.2.1.trans hk⟩, show xln e.2.1.1 e.2.1.2.1 e.2.1.2.2 (wca e.2.1.1 2 (xcx e.2.1.1 e.2.1.2.2 t.1.1)) (wcb e.2.1.2.1 2 (xcy e.2.1.2.1 e.2.1.2.2 t.1.2)) 0 = wl e.2.1.1 e.2.1.2.1 e.2.1.2.2 2 t.1.1 t.1.2 from tc.2.2.2]
    refine hK _ _ _ _ (hK _ _ _ _ (hK _ _ _ _ (hK _ _ _ _ (⟨fun _ => ?_, fun q => absurd q (x_m1 (by omega))⟩))))
    obtain ⟨v, hv, ev⟩ := hO _ k3 k4
    refine hK _ _ _ _ (hK _ _ _ _ (hK _ _ _ _ (hK _ _ _ _ (⟨_, b_turnK (d := d + 1) rfl k3 ((B1.2.2.2.2.2 _ k3).trans ev), rfl, fun v73 M73 g73 => ?_⟩))))
    obtain ⟨rfl, rfl⟩ := g73
    refine hK _ _ _ _ (hK _ _ _ _ (hK _ _ _ _ (hK _ _ _ _ (hK _ _ _ _ (⟨_, b_group, rfl, fun v83 M83 g83 => ?_⟩)))))
    obtain ⟨rfl, rfl⟩ := g83
    refine hK _ _ _ _ (hK _ _ _ _ (hK _ _ _ _ (hK _ _ _ _ (⟨fun q => (by first | exact absurd q (by decide) | exact absurd rfl q | exact absurd (by decide) q), fun _ => ?_⟩))))
    refine hK _ _ _ _ (hK _ _ _ _ (hK _ _ _ _ (⟨_, b_group, rfl, fun v98 M98 g98 => ?_⟩)))
    obtain ⟨rfl, rfl⟩ := g98
    refine hK _ _ _ _ (hK _ _ _ _ (⟨_, g_cagainst (d := d + 2) F1.1.1 F1.2.1 rfl hv, rfl, fun v103 M103 g103 => ?_⟩))
    obtain ⟨rfl, rfl⟩ := g103
    refine hK _ _ _ _ (hK _ _ _ _ (⟨_, g_ctimes (d := d + 2) F1.1.1 F1.2.1 hs.2.2.1 rfl ho.2.2 (ag_lt F1.1.1 hv), rfl, fun v111 M111 g111 => ?_⟩))
    obtain ⟨rfl, rfl⟩ := g111
    have xv : xn (Int32.ofNat v) = v := x_cl rfl (by have := (cB_h hB).2.2.1; omega)
    have ewv : wv e 2 t.1.1 t.1.2 = (ag e.1.1 e.1.2 v) := by
      show ag e.1.1 e.1.2 (xn (e.2.2.2.2 (wl e.2.1.1 e.2.1.2.1 e.2.1.2.2 2 t.1.1 t.1.2))) = _
      rw [ev, xv]
    refine hK _ _ _ _ (hK _ _ _ _ (hK _ _ _ _ (⟨fun _ => ?_, fun q => (by first | exact absurd q (by decide) | exact absurd rfl q | exact absurd (by decide) q)⟩)))
    have f3 : fr PWk M (a_pI (a_pI M 17 0 3 (if xcx e.2.1.1 e.2.1.2.2 t.1.1 = 0 ∧ e.2.1.2.2 = 0 then -1 else Int32.ofNat (bif Nat.beq (xcx e.2.1.1 e.2.1.2.2 t.1.1) 0 then e.2.1.1 - 1 else xcx e.2.1.1 e.2.1.2.2 t.1.1 - 1))) 17 0 6 (Int32.ofNat (rt e.1.1 e.1.2 t.2.1 (ag e.1.1 e.1.2 v)))) := fr_p f1 rfl
    refine hK _ _ _ _ (hK _ _ _ _ (hK _ _ _ _ (⟨fun q => (by first | exact absurd q (by decide) | exact absurd rfl q | exact absurd (by decide) q), fun _ => ?_⟩)))
    refine hK _ _ _ _ (hK _ _ _ _ (⟨_, b_beginOf (d := d + 2) rfl (show (wl e.2.1.1 e.2.1.2.1 e.2.1.2.2 2 t.1.1 t.1.2) < 2147483648 by omega), rfl, fun v149 M149 g149 => ?_⟩))
    obtain ⟨rfl, rfl⟩ := g149
    refine hK _ _ _ _ (hK _ _ _ _ (⟨_, b_arrive (d := d + 1) (q := xco e.2.1.1 e.2.1.2.1 e.2.1.2.2 (wX e.2.1.1 e.2.1.2.2 2 t.1.1) (wY e.2.1.2.1 e.2.1.2.2 2 t.1.2)) (by rw [← k5]; rfl) k6, rfl, fun v164 M164 g164 => ?_⟩))
    obtain ⟨rfl, rfl⟩ := g164
    obtain ⟨m1, m2⟩ := xco_m (h := e.2.1.2.1) (s := e.2.1.2.2) (y := wY e.2.1.2.1 e.2.1.2.2 2 t.1.2) w3 k1
    refine hK _ _ _ _ (hK _ _ _ _ (?_))
    refine ⟨Or.inr rfl, fr_p (fr_p (fr_p (fr_p f3 rfl) rfl) rfl) rfl, Or.inl ⟨((wX e.2.1.1 e.2.1.2.2 2 t.1.1, wY e.2.1.2.1 e.2.1.2.2 2 t.1.2), rt e.1.1 e.1.2 t.2.1 (ag e.1.1 e.1.2 v), 2 :: t.2.2), ?_, ⟨k1, k2, rt_lt F1.1.1 ho.2.2 (ag_lt F1.1.1 hv)⟩, rfl, ⟨?_, ?_, rfl, ?_⟩, ?_, ?_⟩⟩
    · unfold wgo1
      rw [hk, cond_true, ewv]
    · show Int32.ofNat (xco e.2.1.1 e.2.1.2.1 e.2.1.2.2 (wX e.2.1.1 e.2.1.2.2 2 t.1.1) (wY e.2.1.2.1 e.2.1.2.2 2 t.1.2) % 4) = _
      rw [m1]
    · show Int32.ofNat (xco e.2.1.1 e.2.1.2.1 e.2.1.2.2 (wX e.2.1.1 e.2.1.2.2 2 t.1.1) (wY e.2.1.2.1 e.2.1.2.2 2 t.1.2) / 4) = _
      rw [m2]
    · show M.1 17 0 5 + 1 = _
      rw [hs.2.2.2]
      exact hI_s
    · intro j
      by_cases hj : j = xco e.2.1.1 e.2.1.2.1 e.2.1.2.2 (wX e.2.1.1 e.2.1.2.2 2 t.1.1) (wY e.2.1.2.1 e.2.1.2.2 2 t.1.2)
      · rw [if_pos hj, hj]
        exact x_pe
      · rw [if_neg hj]
        exact x_pn (fun z => hj z.2.2)
    · intro j
      exact Eq.trans (show _ = M.1 19 0 j from rfl) (if_neg (fun z => absurd z.1 (by decide))).symm
theorem b_go3 {nS d : Nat} {M : aM} {e : xB} {t : xW} (hB : cB 0 M e) (hO : lO e.2.1.1 e.2.1.2.1 e.2.1.2.2 e.1.2 e.2.2.2.2) (hs : WKs M e t) (ho : xWo e t) : aC nS (d + 4) 141 [vR 17 0, vI (Int32.ofNat 3)] M (fun v M' => fr PWk M M' ∧ ((∃ u, wgo1 e 3 t = some u ∧ xWo e u ∧ v = some (vI 1) ∧ WKs M' e u ∧ WKv e 3 t u M M') ∨ (wgo1 e 3 t = none ∧ v = some (vI 0)))) (fun _ _ => False) := by
  obtain ⟨hor, o2, o8, hS, w1, w3, h1, h3, s2⟩ := cB_h hB
  have tb := wtab (way := 3) w1 w3 h1 h3 s2 (by decide) ho.1 ho.2.1
  have cx3 := xcx_3 (s := e.2.1.2.2) w3 ho.1
  have cy3 := xcy_3 (s := e.2.1.2.2) h3 ho.2.1
  refine aC_mk rfl rfl ?_
  intro K hK _
  refine hK _ _ _ _ (hK _ _ _ _ (hK _ _ _ _ (⟨fun q => (by first | exact absurd q (by decide) | exact absurd rfl q | exact absurd (by decide) q), fun _ => ?_⟩)))
  refine hK _ _ _ _ (hK _ _ _ _ (hK _ _ _ _ (⟨fun q => (by first | exact absurd q (by decide) | exact absurd rfl q | exact absurd (by decide) q), fun _ => ?_⟩)))
  refine hK _ _ _ _ (hK _ _ _ _ (hK _ _ _ _ (hK _ _ _ _ (hK _ _ _ _ (hK _ _ _ _ (⟨fun q => (by first | exact absurd q (by decide) | exact absurd rfl q | exact absurd (by decide) q), fun _ => ?_⟩))))))
  refine hK _ _ _ _ (hK _ _ _ _ (hK _ _ _ _ (⟨fun q => (by first | exact absurd q (by decide) | exact absurd rfl q | exact absurd (by decide) q), fun _ => ?_⟩)))
  refine hK _ _ _ _ (hK _ _ _ _ (hK _ _ _ _ (hK _ _ _ _ (hK _ _ _ _ (⟨fun q => (by first | exact absurd q (by decide) | exact absurd rfl q | exact absurd (by decide) q), fun _ => ?_⟩)))))
  refine hK _ _ _ _ (hK _ _ _ _ (hK _ _ _ _ (⟨_, b_step3 (d := d + 1) hS h1 h3 s2 hs.2.1 cy3, rfl, fun v38 M38 g38 => ?_⟩)))
  obtain ⟨rfl, rfl⟩ := g38
  have f1 : fr PWk M (a_pI M 17 0 4 (if xcy e.2.1.2.1 e.2.1.2.2 t.1.2 = 0 ∧ ¬ e.2.1.2.2 = 2 then -1 else Int32.ofNat (bif Nat.beq (xcy e.2.1.2.1 e.2.1.2.2 t.1.2) 0 then e.2.1.2.1 - 1 else xcy e.2.1.2.1 e.2.1.2.2 t.1.2 - 1))) := fr_p fr_r rfl
  have B1 : cB 0 (a_pI M 17 0 4 (if xcy e.2.1.2.1 e.2.1.2.2 t.1.2 = 0 ∧ ¬ e.2.1.2.2 = 2 then -1 else Int32.ofNat (bif Nat.beq (xcy e.2.1.2.1 e.2.1.2.2 t.1.2) 0 then e.2.1.2.1 - 1 else xcy e.2.1.2.1 e.2.1.2.2 t.1.2 - 1))) e := cB_w f1 hB
  have S1 := (cB_h B1).2.2.2.1
  have F1 := B1.1
  have hc : (wof e.2.1.2.2 3 (xcx e.2.1.1 e.2.1.2.2 t.1.1) (xcy e.2.1.2.1 e.2.1.2.2 t.1.2) = true ∧ ((a_pI M 17 0 4 (if xcy e.2.1.2.1 e.2.1.2.2 t.1.2 = 0 ∧ ¬ e.2.1.2.2 = 2 then -1 else Int32.ofNat (bif Nat.beq (xcy e.2.1.2.1 e.2.1.2.2 t.1.2) 0 then e.2.1.2.1 - 1 else xcy e.2.1.2.1 e.2.1.2.2 t.1.2 - 1))).1 17 0 3 = -1 ∨ (a_pI M 17 0 4 (if xcy e.2.1.2.1 e.2.1.2.2 t.1.2 = 0 ∧ ¬ e.2.1.2.2 = 2 then -1 else Int32.ofNat (bif Nat.beq (xcy e.2.1.2.1 e.2.1.2.2 t.1.2) 0 then e.2.1.2.1 - 1 else xcy e.2.1.2.1 e.2.1.2.2 t.1.2 - 1))).1 17 0 4 = -1)) ∨ (wof e.2.1.2.2 3 (xcx e.2.1.1 e.2.1.2.2 t.1.1) (xcy e.2.1.2.1 e.2.1.2.2 t.1.2) = false ∧ (a_pI M 17 0 4 (if xcy e.2.1.2.1 e.2.1.2.2 t.1.2 = 0 ∧ ¬ e.2.1.2.2 = 2 then -1 else Int32.ofNat (bif Nat.beq (xcy e.2.1.2.1 e.2.1.2.2 t.1.2) 0 then e.2.1.2.1 - 1 else xcy e.2.1.2.1 e.2.1.2.2 t.1.2 - 1))).1 17 0 3 = Int32.ofNat (wca e.2.1.1 3 (xcx e.2.1.1 e.2.1.2.2 t.1.1)) ∧ (a_pI M 17 0 4 (if xcy e.2.1.2.1 e.2.1.2.2 t.1.2 = 0 ∧ ¬ e.2.1.2.2 = 2 then -1 else Int32.ofNat (bif Nat.beq (xcy e.2.1.2.1 e.2.1.2.2 t.1.2) 0 then e.2.1.2.1 - 1 else xcy e.2.1.2.1 e.2.1.2.2 t.1.2 - 1))).1 17 0 4 = Int32.ofNat (wcb e.2.1.2.1 3 (xcy e.2.1.2.1 e.2.1.2.2 t.1.2)) ∧ wca e.2.1.1 3 (xcx e.2.1.1 e.2.1.2.2 t.1.1) ≤ e.2.1.1 ∧ wcb e.2.1.2.1 3 (xcy e.2.1.2.1 e.2.1.2.2 t.1.2) ≤ e.2.1.2.1) := by
    by_cases h0 : xcy e.2.1.2.1 e.2.1.2.2 t.1.2 = 0 ∧ ¬ e.2.1.2.2 = 2
    · refine Or.inl ⟨?_, Or.inr ?_⟩
      · unfold wof
        rw [x_beq h0.1, x_nbeq h0.2]
        rfl
      · exact x_pe.trans (if_pos h0)
    · have of0 : wof e.2.1.2.2 3 (xcx e.2.1.1 e.2.1.2.2 t.1.1) (xcy e.2.1.2.1 e.2.1.2.2 t.1.2) = false := by
        unfold wof
        by_cases h2 : xcy e.2.1.2.1 e.2.1.2.2 t.1.2 = 0
        · rw [x_beq (show e.2.1.2.2 = 2 from Decidable.not_not.mp (fun z => h0 ⟨h2, z⟩)), show (!true) = false from rfl, Bool.and_false]
          rfl
        · rw [x_nbeq h2]
          rfl
      exact Or.inr ⟨of0, hs.1, x_pe.trans (if_neg h0), (tb.2.1 of0).1, (tb.2.1 of0).2.1⟩
  refine hK _ _ _ _ (hK _ _ _ _ (hK _ _ _ _ (hK _ _ _ _ (hK _ _ _ _ (hK _ _ _ _ (hK _ _ _ _ (hK _ _ _ _ (⟨_, b_lineK (d := d) S1 w1 w3 h1 h3 (n := 1) (by decide) rfl hc, rfl, fun v54 M54 g54 => ?_⟩))))))))
  obtain ⟨rfl, rfl⟩ := g54
  cases hk : wok e.2.1.1 e.2.1.2.1 e.2.1.2.2 3 t.1.1 t.1.2 with
  | false =>
    rw [if_neg (fun z => by rw [(tb.2.1 z.1).2.2.1] at z; rw [hk] at z; cases z.2)]
    refine hK _ _ _ _ (hK _ _ _ _ (hK _ _ _ _ (hK _ _ _ _ (⟨fun q => absurd rfl q, fun _ => ?_⟩))))
    refine hK _ _ _ _ (hK _ _ _ _ (?_))
    exact ⟨Or.inl rfl, f1, Or.inr ⟨by unfold wgo1; rw [hk]; rfl, rfl⟩⟩
  | true =>
    have of0 : wof e.2.1.2.2 3 (xcx e.2.1.1 e.2.1.2.2 t.1.1) (xcy e.2.1.2.1 e.2.1.2.2 t.1.2) = false := by
      cases hz : wof e.2.1.2.2 3 (xcx e.2.1.1 e.2.1.2.2 t.1.1) (xcy e.2.1.2.1 e.2.1.2.2 t.1.2) with
      | false => rfl
      | true =>
        have z := tb.1 hz
        rw [hk] at z
        cases z
    have tc := tb.2.1 of0
    obtain ⟨k1, k2, k3, k4, k5, k6, k7, k8, k9⟩ := tb.2.2 hk
    rw [if_pos ⟨of0, tc.2.2.1.trans hk⟩, show xln e.2.1.1 e.2.1.2.1 e.2.1.2.2 (wca e.2.1.1 3 (xcx e.2.1.1 e.2.1.2.2 t.1.1)) (wcb e.2.1.2.1 3 (xcy e.2.1.2.1 e.2.1.2.2 t.1.2)) 1 = wl e.2.1.1 e.2.1.2.1 e.2.1.2.2 3 t.1.1 t.1.2 from tc.2.2.2]
    refine hK _ _ _ _ (hK _ _ _ _ (hK _ _ _ _ (hK _ _ _ _ (⟨fun _ => ?_, fun q => absurd q (x_m1 (by omega))⟩))))
    obtain ⟨v, hv, ev⟩ := hO _ k3 k4
    refine hK _ _ _ _ (hK _ _ _ _ (hK _ _ _ _ (hK _ _ _ _ (⟨_, b_turnK (d := d + 1) rfl k3 ((B1.2.2.2.2.2 _ k3).trans ev), rfl, fun v73 M73 g73 => ?_⟩))))
    obtain ⟨rfl, rfl⟩ := g73
    refine hK _ _ _ _ (hK _ _ _ _ (hK _ _ _ _ (hK _ _ _ _ (hK _ _ _ _ (⟨_, b_group, rfl, fun v83 M83 g83 => ?_⟩)))))
    obtain ⟨rfl, rfl⟩ := g83
    refine hK _ _ _ _ (hK _ _ _ _ (hK _ _ _ _ (hK _ _ _ _ (⟨fun q => (by first | exact absurd q (by decide) | exact absurd rfl q | exact absurd (by decide) q), fun _ => ?_⟩))))
    refine hK _ _ _ _ (hK _ _ _ _ (hK _ _ _ _ (⟨_, b_group, rfl, fun v98 M98 g98 => ?_⟩)))
    obtain ⟨rfl, rfl⟩ := g98
    refine hK _ _ _ _ (hK _ _ _ _ (⟨_, g_cagainst (d := d + 2) F1.1.1 F1.2.1 rfl hv, rfl, fun v103 M103 g103 => ?_⟩))
    obtain ⟨rfl, rfl⟩ := g103
    refine hK _ _ _ _ (hK _ _ _ _ (⟨_, g_ctimes (d := d + 2) F1.1.1 F1.2.1 hs.2.2.1 rfl ho.2.2 (ag_lt F1.1.1 hv), rfl, fun v111 M111 g111 => ?_⟩))
    obtain ⟨rfl, rfl⟩ := g111
    have xv : xn (Int32.ofNat v) = v := x_cl rfl (by have := (cB_h hB).2.2.1; omega)
    have ewv : wv e 3 t.1.1 t.1.2 = (ag e.1.1 e.1.2 v) := by
      show ag e.1.1 e.1.2 (xn (e.2.2.2.2 (wl e.2.1.1 e.2.1.2.1 e.2.1.2.2 3 t.1.1 t.1.2))) = _
      rw [ev, xv]
    refine hK _ _ _ _ (hK _ _ _ _ (hK _ _ _ _ (⟨fun q => (by first | exact absurd q (by decide) | exact absurd rfl q | exact absurd (by decide) q), fun _ => ?_⟩)))
    refine hK _ _ _ _ (hK _ _ _ _ (hK _ _ _ _ (hK _ _ _ _ (⟨_, b_beginOf (d := d + 2) rfl (show (wl e.2.1.1 e.2.1.2.1 e.2.1.2.2 3 t.1.1 t.1.2) < 2147483648 by omega), rfl, fun v127 M127 g127 => ?_⟩))))
    obtain ⟨rfl, rfl⟩ := g127
    refine hK _ _ _ _ (hK _ _ _ _ (⟨fun q => (by first | exact absurd q (by decide) | exact absurd rfl q | exact absurd (by decide) q), fun _ => ?_⟩))
    refine hK _ _ _ _ (hK _ _ _ _ (hK _ _ _ _ (⟨_, g_add19 (d := d + 2) rfl (show (wl e.2.1.1 e.2.1.2.1 e.2.1.2.2 3 t.1.1 t.1.2) / 2 < 16 by omega), rfl, fun v139 M139 g139 => ?_⟩)))
    obtain ⟨rfl, rfl⟩ := g139
    have f3 : fr PWk M (a_pI (a_pI (a_pI M 17 0 4 (if xcy e.2.1.2.1 e.2.1.2.2 t.1.2 = 0 ∧ ¬ e.2.1.2.2 = 2 then -1 else Int32.ofNat (bif Nat.beq (xcy e.2.1.2.1 e.2.1.2.2 t.1.2) 0 then e.2.1.2.1 - 1 else xcy e.2.1.2.1 e.2.1.2.2 t.1.2 - 1))) 17 0 6 (Int32.ofNat (rt e.1.1 e.1.2 t.2.1 (ag e.1.1 e.1.2 v)))) 19 0 ((wl e.2.1.1 e.2.1.2.1 e.2.1.2.2 3 t.1.1 t.1.2) / 2) ((a_pI (a_pI M 17 0 4 (if xcy e.2.1.2.1 e.2.1.2.2 t.1.2 = 0 ∧ ¬ e.2.1.2.2 = 2 then -1 else Int32.ofNat (bif Nat.beq (xcy e.2.1.2.1 e.2.1.2.2 t.1.2) 0 then e.2.1.2.1 - 1 else xcy e.2.1.2.1 e.2.1.2.2 t.1.2 - 1))) 17 0 6 (Int32.ofNat (rt e.1.1 e.1.2 t.2.1 (ag e.1.1 e.1.2 v)))).1 19 0 ((wl e.2.1.1 e.2.1.2.1 e.2.1.2.2 3 t.1.1 t.1.2) / 2) + -1)) := fr_p (fr_p f1 rfl) rfl
    refine hK _ _ _ _ (hK _ _ _ _ (hK _ _ _ _ (⟨fun q => (by first | exact absurd q (by decide) | exact absurd rfl q | exact absurd (by decide) q), fun _ => ?_⟩)))
    refine hK _ _ _ _ (hK _ _ _ _ (⟨_, b_beginOf (d := d + 2) rfl (show (wl e.2.1.1 e.2.1.2.1 e.2.1.2.2 3 t.1.1 t.1.2) < 2147483648 by omega), rfl, fun v149 M149 g149 => ?_⟩))
    obtain ⟨rfl, rfl⟩ := g149
    refine hK _ _ _ _ (hK _ _ _ _ (⟨_, b_arrive (d := d + 1) (q := xco e.2.1.1 e.2.1.2.1 e.2.1.2.2 (wX e.2.1.1 e.2.1.2.2 3 t.1.1) (wY e.2.1.2.1 e.2.1.2.2 3 t.1.2)) (by rw [← k5]; rfl) k6, rfl, fun v164 M164 g164 => ?_⟩))
    obtain ⟨rfl, rfl⟩ := g164
    obtain ⟨m1, m2⟩ := xco_m (h := e.2.1.2.1) (s := e.2.1.2.2) (y := wY e.2.1.2.1 e.2.1.2.2 3 t.1.2) w3 k1
    refine hK _ _ _ _ (hK _ _ _ _ (?_))
    refine ⟨Or.inr rfl, fr_p (fr_p (fr_p (fr_p f3 rfl) rfl) rfl) rfl, Or.inl ⟨((wX e.2.1.1 e.2.1.2.2 3 t.1.1, wY e.2.1.2.1 e.2.1.2.2 3 t.1.2), rt e.1.1 e.1.2 t.2.1 (ag e.1.1 e.1.2 v), 3 :: t.2.2), ?_, ⟨k1, k2, rt_lt F1.1.1 ho.2.2 (ag_lt F1.1.1 hv)⟩, rfl, ⟨?_, ?_, rfl, ?_⟩, ?_, ?_⟩⟩
    · unfold wgo1
      rw [hk, cond_true, ewv]
    · show Int32.ofNat (xco e.2.1.1 e.2.1.2.1 e.2.1.2.2 (wX e.2.1.1 e.2.1.2.2 3 t.1.1) (wY e.2.1.2.1 e.2.1.2.2 3 t.1.2) % 4) = _
      rw [m1]
    · show Int32.ofNat (xco e.2.1.1 e.2.1.2.1 e.2.1.2.2 (wX e.2.1.1 e.2.1.2.2 3 t.1.1) (wY e.2.1.2.1 e.2.1.2.2 3 t.1.2) / 4) = _
      rw [m2]
    · show M.1 17 0 5 + 1 = _
      rw [hs.2.2.2]
      exact hI_s
    · intro j
      by_cases hj : j = xco e.2.1.1 e.2.1.2.1 e.2.1.2.2 (wX e.2.1.1 e.2.1.2.2 3 t.1.1) (wY e.2.1.2.1 e.2.1.2.2 3 t.1.2)
      · rw [if_pos hj, hj]
        exact x_pe
      · rw [if_neg hj]
        exact x_pn (fun z => hj z.2.2)
    · intro j
      have el : (wl e.2.1.1 e.2.1.2.1 e.2.1.2.2 3 t.1.1 t.1.2) / 2 = xco e.2.1.1 e.2.1.2.1 e.2.1.2.2 (wa e.2.1.1 e.2.1.2.2 3 t.1.1) (wb e.2.1.2.1 e.2.1.2.2 3 t.1.2) := xco_l (n := 1) (Nat.le_refl 1)
      show (a_pI (a_pI (a_pI M 17 0 4 (if xcy e.2.1.2.1 e.2.1.2.2 t.1.2 = 0 ∧ ¬ e.2.1.2.2 = 2 then -1 else Int32.ofNat (bif Nat.beq (xcy e.2.1.2.1 e.2.1.2.2 t.1.2) 0 then e.2.1.2.1 - 1 else xcy e.2.1.2.1 e.2.1.2.2 t.1.2 - 1))) 17 0 6 (Int32.ofNat (rt e.1.1 e.1.2 t.2.1 (ag e.1.1 e.1.2 v)))) 19 0 ((wl e.2.1.1 e.2.1.2.1 e.2.1.2.2 3 t.1.1 t.1.2) / 2) ((a_pI (a_pI M 17 0 4 (if xcy e.2.1.2.1 e.2.1.2.2 t.1.2 = 0 ∧ ¬ e.2.1.2.2 = 2 then -1 else Int32.ofNat (bif Nat.beq (xcy e.2.1.2.1 e.2.1.2.2 t.1.2) 0 then e.2.1.2.1 - 1 else xcy e.2.1.2.1 e.2.1.2.2 t.1.2 - 1))) 17 0 6 (Int32.ofNat (rt e.1.1 e.1.2 t.2.1 (ag e.1.1 e.1.2 v)))).1 19 0 ((wl e.2.1.1 e.2.1.2.1 e.2.1.2.2 3 t.1.1 t.1.2) / 2) + -1)).1 19 0 j = _
      by_cases hj : j = (wl e.2.1.1 e.2.1.2.1 e.2.1.2.2 3 t.1.1 t.1.2) / 2
      · refine Eq.trans ?_ (if_pos ⟨rfl, hj.trans el⟩).symm
        rw [hj]
        exact x_pe
      · refine Eq.trans ?_ (if_neg (fun z => hj (z.2.trans el.symm))).symm
        exact x_pn (fun z => hj z.2.2)
theorem b_goW {nS d way : Nat} {M : aM} {e : xB} {t : xW} (hw : way < 4) (hB : cB 0 M e) (hO : lO e.2.1.1 e.2.1.2.1 e.2.1.2.2 e.1.2 e.2.2.2.2) (hs : WKs M e t) (ho : xWo e t) : aC nS (d + 4) 141 [vR 17 0, vI (Int32.ofNat way)] M (fun v M' => fr PWk M M' ∧ ((∃ u, wgo1 e way t = some u ∧ xWo e u ∧ v = some (vI 1) ∧ WKs M' e u ∧ WKv e way t u M M') ∨ (wgo1 e way t = none ∧ v = some (vI 0)))) (fun _ _ => False) := by
  rcases (show way = 0 ∨ way = 1 ∨ way = 2 ∨ way = 3 by omega) with rfl | rfl | rfl | rfl
  · exact b_go0 hB hO hs ho
  · exact b_go1 hB hO hs ho
  · exact b_go2 hB hO hs ho
  · exact b_go3 hB hO hs ho
