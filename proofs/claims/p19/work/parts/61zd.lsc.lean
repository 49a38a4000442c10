theorem g_put29 {nS d i : Nat} {M : aM} {j x : Int32} {a : Nat} (hj : j = Int32.ofNat a) (ha : a < 32) : aC nS (d + 1) 106 [vR 29 i, vI j, vI x] M (fun v M' => v = none ∧ M' = a_pI M 29 i a x) (fun _ _ => False) := by
  refine aC_mk rfl rfl ?_
  intro K hK _
  subst hj
  refine hK _ _ _ _ (hK _ _ _ _ ⟨fun h => ?_, fun h => ?_⟩)
  · exact absurd (x_lt (y := 0) rfl rfl (by omega) (by decide) h) (by omega)
  · refine hK _ _ _ _ (hK _ _ _ _ (hK _ _ _ _ (hK _ _ _ _ ⟨fun h => ?_, fun h => ?_⟩)))
    · exact absurd (x_ge (y := 32) rfl rfl (by omega) (by decide) h) (by omega)
    · refine hK _ _ _ _ (hK _ _ _ _ (hK _ _ _ _ (hK _ _ _ _ ⟨x_vp rfl ha (by decide), ?_⟩)))
      rw [x_cl rfl (by omega)]
      exact hK _ _ _ _ ⟨rfl, rfl⟩
theorem g_at29 {nS d i : Nat} {M : aM} {j : Int32} {a : Nat} (hj : j = Int32.ofNat a) (ha : a < 32) : aC nS (d + 1) 104 [vR 29 i, vI j] M (fun v M' => v = some (vI (M.1 29 i a)) ∧ M = M') (fun _ _ => False) := by
  refine aC_mk rfl rfl ?_
  intro K hK _
  subst hj
  refine hK _ _ _ _ (hK _ _ _ _ ⟨fun h => ?_, fun h => ?_⟩)
  · exact absurd (x_lt (y := 0) rfl rfl (by omega) (by decide) h) (by omega)
  · refine hK _ _ _ _ (hK _ _ _ _ (hK _ _ _ _ (hK _ _ _ _ ⟨fun h => ?_, fun h => ?_⟩)))
    · exact absurd (x_ge (y := 32) rfl rfl (by omega) (by decide) h) (by omega)
    · refine hK _ _ _ _ (hK _ _ _ _ (hK _ _ _ _ ⟨x_vp rfl ha (by decide), ?_⟩))
      rw [x_cl rfl (by omega)]
      exact hK _ _ _ _ (hK _ _ _ _ ⟨rfl, rfl⟩)
theorem g_put30 {nS d i : Nat} {M : aM} {j x : Int32} {a : Nat} (hj : j = Int32.ofNat a) (ha : a < 32) : aC nS (d + 1) 106 [vR 30 i, vI j, vI x] M (fun v M' => v = none ∧ M' = a_pI M 30 i a x) (fun _ _ => False) := by
  refine aC_mk rfl rfl ?_
  intro K hK _
  subst hj
  refine hK _ _ _ _ (hK _ _ _ _ ⟨fun h => ?_, fun h => ?_⟩)
  · exact absurd (x_lt (y := 0) rfl rfl (by omega) (by decide) h) (by omega)
  · refine hK _ _ _ _ (hK _ _ _ _ (hK _ _ _ _ (hK _ _ _ _ ⟨fun h => ?_, fun h => ?_⟩)))
    · exact absurd (x_ge (y := 32) rfl rfl (by omega) (by decide) h) (by omega)
    · refine hK _ _ _ _ (hK _ _ _ _ (hK _ _ _ _ (hK _ _ _ _ ⟨x_vp rfl ha (by decide), ?_⟩)))
      rw [x_cl rfl (by omega)]
      exact hK _ _ _ _ ⟨rfl, rfl⟩
theorem g_at30 {nS d i : Nat} {M : aM} {j : Int32} {a : Nat} (hj : j = Int32.ofNat a) (ha : a < 32) : aC nS (d + 1) 104 [vR 30 i, vI j] M (fun v M' => v = some (vI (M.1 30 i a)) ∧ M = M') (fun _ _ => False) := by
  refine aC_mk rfl rfl ?_
  intro K hK _
  subst hj
  refine hK _ _ _ _ (hK _ _ _ _ ⟨fun h => ?_, fun h => ?_⟩)
  · exact absurd (x_lt (y := 0) rfl rfl (by omega) (by decide) h) (by omega)
  · refine hK _ _ _ _ (hK _ _ _ _ (hK _ _ _ _ (hK _ _ _ _ ⟨fun h => ?_, fun h => ?_⟩)))
    · exact absurd (x_ge (y := 32) rfl rfl (by omega) (by decide) h) (by omega)
    · refine hK _ _ _ _ (hK _ _ _ _ (hK _ _ _ _ ⟨x_vp rfl ha (by decide), ?_⟩))
      rw [x_cl rfl (by omega)]
      exact hK _ _ _ _ (hK _ _ _ _ ⟨rfl, rfl⟩)
theorem g_put31 {nS d i : Nat} {M : aM} {j x : Int32} {a : Nat} (hj : j = Int32.ofNat a) (ha : a < 32) : aC nS (d + 1) 106 [vR 31 i, vI j, vI x] M (fun v M' => v = none ∧ M' = a_pI M 31 i a x) (fun _ _ => False) := by
  refine aC_mk rfl rfl ?_
  intro K hK _
  subst hj
  refine hK _ _ _ _ (hK _ _ _ _ ⟨fun h => ?_, fun h => ?_⟩)
  · exact absurd (x_lt (y := 0) rfl rfl (by omega) (by decide) h) (by omega)
  · refine hK _ _ _ _ (hK _ _ _ _ (hK _ _ _ _ (hK _ _ _ _ ⟨fun h => ?_, fun h => ?_⟩)))
    · exact absurd (x_ge (y := 32) rfl rfl (by omega) (by decide) h) (by omega)
    · refine hK _ _ _ _ (hK _ _ _ _ (hK _ _ _ _ (hK _ _ _ _ ⟨x_vp rfl ha (by decide), ?_⟩)))
      rw [x_cl rfl (by omega)]
      exact hK _ _ _ _ ⟨rfl, rfl⟩
theorem g_at31 {nS d i : Nat} {M : aM} {j : Int32} {a : Nat} (hj : j = Int32.ofNat a) (ha : a < 32) : aC nS (d + 1) 104 [vR 31 i, vI j] M (fun v M' => v = some (vI (M.1 31 i a)) ∧ M = M') (fun _ _ => False) := by
  refine aC_mk rfl rfl ?_
  intro K hK _
  subst hj
  refine hK _ _ _ _ (hK _ _ _ _ ⟨fun h => ?_, fun h => ?_⟩)
  · exact absurd (x_lt (y := 0) rfl rfl (by omega) (by decide) h) (by omega)
  · refine hK _ _ _ _ (hK _ _ _ _ (hK _ _ _ _ (hK _ _ _ _ ⟨fun h => ?_, fun h => ?_⟩)))
    · exact absurd (x_ge (y := 32) rfl rfl (by omega) (by decide) h) (by omega)
    · refine hK _ _ _ _ (hK _ _ _ _ (hK _ _ _ _ ⟨x_vp rfl ha (by decide), ?_⟩))
      rw [x_cl rfl (by omega)]
      exact hK _ _ _ _ (hK _ _ _ _ ⟨rfl, rfl⟩)
theorem g_put34 {nS d i : Nat} {M : aM} {j x : Int32} {a : Nat} (hj : j = Int32.ofNat a) (ha : a < 32) : aC nS (d + 1) 106 [vR 34 i, vI j, vI x] M (fun v M' => v = none ∧ M' = a_pI M 34 i a x) (fun _ _ => False) := by
  refine aC_mk rfl rfl ?_
  intro K hK _
  subst hj
  refine hK _ _ _ _ (hK _ _ _ _ ⟨fun h => ?_, fun h => ?_⟩)
  · exact absurd (x_lt (y := 0) rfl rfl (by omega) (by decide) h) (by omega)
  · refine hK _ _ _ _ (hK _ _ _ _ (hK _ _ _ _ (hK _ _ _ _ ⟨fun h => ?_, fun h => ?_⟩)))
    · exact absurd (x_ge (y := 32) rfl rfl (by omega) (by decide) h) (by omega)
    · refine hK _ _ _ _ (hK _ _ _ _ (hK _ _ _ _ (hK _ _ _ _ ⟨x_vp rfl ha (by decide), ?_⟩)))
      rw [x_cl rfl (by omega)]
      exact hK _ _ _ _ ⟨rfl, rfl⟩
theorem g_at34 {nS d i : Nat} {M : aM} {j : Int32} {a : Nat} (hj : j = Int32.ofNat a) (ha : a < 32) : aC nS (d + 1) 104 [vR 34 i, vI j] M (fun v M' => v = some (vI (M.1 34 i a)) ∧ M = M') (fun _ _ => False) := by
  refine aC_mk rfl rfl ?_
  intro K hK _
  subst hj
  refine hK _ _ _ _ (hK _ _ _ _ ⟨fun h => ?_, fun h => ?_⟩)
  · exact absurd (x_lt (y := 0) rfl rfl (by omega) (by decide) h) (by omega)
  · refine hK _ _ _ _ (hK _ _ _ _ (hK _ _ _ _ (hK _ _ _ _ ⟨fun h => ?_, fun h => ?_⟩)))
    · exact absurd (x_ge (y := 32) rfl rfl (by omega) (by decide) h) (by omega)
    · refine hK _ _ _ _ (hK _ _ _ _ (hK _ _ _ _ ⟨x_vp rfl ha (by decide), ?_⟩))
      rw [x_cl rfl (by omega)]
      exact hK _ _ _ _ (hK _ _ _ _ ⟨rfl, rfl⟩)
theorem g_put32 {nS d i : Nat} {M : aM} {j x : Int32} {a : Nat} (hj : j = Int32.ofNat a) (ha : a < 16) : aC nS (d + 1) 106 [vR 32 i, vI j, vI x] M (fun v M' => v = none ∧ M' = a_pI M 32 i a x) (fun _ _ => False) := by
  refine aC_mk rfl rfl ?_
  intro K hK _
  subst hj
  refine hK _ _ _ _ (hK _ _ _ _ ⟨fun h => ?_, fun h => ?_⟩)
  · exact absurd (x_lt (y := 0) rfl rfl (by omega) (by decide) h) (by omega)
  · refine hK _ _ _ _ (hK _ _ _ _ (hK _ _ _ _ (hK _ _ _ _ ⟨fun h => ?_, fun h => ?_⟩)))
    · exact absurd (x_ge (y := 16) rfl rfl (by omega) (by decide) h) (by omega)
    · refine hK _ _ _ _ (hK _ _ _ _ (hK _ _ _ _ (hK _ _ _ _ ⟨x_vp rfl ha (by decide), ?_⟩)))
      rw [x_cl rfl (by omega)]
      exact hK _ _ _ _ ⟨rfl, rfl⟩
theorem g_at32 {nS d i : Nat} {M : aM} {j : Int32} {a : Nat} (hj : j = Int32.ofNat a) (ha : a < 16) : aC nS (d + 1) 104 [vR 32 i, vI j] M (fun v M' => v = some (vI (M.1 32 i a)) ∧ M = M') (fun _ _ => False) := by
  refine aC_mk rfl rfl ?_
  intro K hK _
  subst hj
  refine hK _ _ _ _ (hK _ _ _ _ ⟨fun h => ?_, fun h => ?_⟩)
  · exact absurd (x_lt (y := 0) rfl rfl (by omega) (by decide) h) (by omega)
  · refine hK _ _ _ _ (hK _ _ _ _ (hK _ _ _ _ (hK _ _ _ _ ⟨fun h => ?_, fun h => ?_⟩)))
    · exact absurd (x_ge (y := 16) rfl rfl (by omega) (by decide) h) (by omega)
    · refine hK _ _ _ _ (hK _ _ _ _ (hK _ _ _ _ ⟨x_vp rfl ha (by decide), ?_⟩))
      rw [x_cl rfl (by omega)]
      exact hK _ _ _ _ (hK _ _ _ _ ⟨rfl, rfl⟩)
theorem g_put33 {nS d i : Nat} {M : aM} {j x : Int32} {a : Nat} (hj : j = Int32.ofNat a) (ha : a < 4) : aC nS (d + 1) 106 [vR 33 i, vI j, vI x] M (fun v M' => v = none ∧ M' = a_pI M 33 i a x) (fun _ _ => False) := by
  refine aC_mk rfl rfl ?_
  intro K hK _
  subst hj
  refine hK _ _ _ _ (hK _ _ _ _ ⟨fun h => ?_, fun h => ?_⟩)
  · exact absurd (x_lt (y := 0) rfl rfl (by omega) (by decide) h) (by omega)
  · refine hK _ _ _ _ (hK _ _ _ _ (hK _ _ _ _ (hK _ _ _ _ ⟨fun h => ?_, fun h => ?_⟩)))
    · exact absurd (x_ge (y := 4) rfl rfl (by omega) (by decide) h) (by omega)
    · refine hK _ _ _ _ (hK _ _ _ _ (hK _ _ _ _ (hK _ _ _ _ ⟨x_vp rfl ha (by decide), ?_⟩)))
      rw [x_cl rfl (by omega)]
      exact hK _ _ _ _ ⟨rfl, rfl⟩
theorem g_at33 {nS d i : Nat} {M : aM} {j : Int32} {a : Nat} (hj : j = Int32.ofNat a) (ha : a < 4) : aC nS (d + 1) 104 [vR 33 i, vI j] M (fun v M' => v = some (vI (M.1 33 i a)) ∧ M = M') (fun _ _ => False) := by
  refine aC_mk rfl rfl ?_
  intro K hK _
  subst hj
  refine hK _ _ _ _ (hK _ _ _ _ ⟨fun h => ?_, fun h => ?_⟩)
  · exact absurd (x_lt (y := 0) rfl rfl (by omega) (by decide) h) (by omega)
  · refine hK _ _ _ _ (hK _ _ _ _ (hK _ _ _ _ (hK _ _ _ _ ⟨fun h => ?_, fun h => ?_⟩)))
    · exact absurd (x_ge (y := 4) rfl rfl (by omega) (by decide) h) (by omega)
    · refine hK _ _ _ _ (hK _ _ _ _ (hK _ _ _ _ ⟨x_vp rfl ha (by decide), ?_⟩))
      rw [x_cl rfl (by omega)]
      exact hK _ _ _ _ (hK _ _ _ _ ⟨rfl, rfl⟩)
theorem l_at35 {nS d a : Nat} {M : aM} {j : Int32} (hj : j = Int32.ofNat a) (ha : a < 33) : aC nS (d + 1) 105 [vR 35 0, vI j] M (fun v M' => v = some (vL (M.2 35 0 a)) ∧ M = M') (fun _ _ => False) := by
  subst hj
  refine aC_mk rfl rfl ?_
  intro K hK _
  refine hK _ _ _ _ (hK _ _ _ _ (⟨fun h => ?_, fun h => ?_⟩))
  · exact absurd (x_lt (y := 0) rfl rfl (by omega) (by decide) h) (by omega)
  · refine hK _ _ _ _ (hK _ _ _ _ (hK _ _ _ _ (hK _ _ _ _ (⟨fun h => ?_, fun h => ?_⟩))))
    · exact absurd (x_ge (y := 33) rfl rfl (by omega) (by decide) h) (by omega)
    · refine hK _ _ _ _ (hK _ _ _ _ (hK _ _ _ _ (⟨x_vp rfl (show a < 33 by omega) (by decide), ?_⟩)))
      rw [x_cl rfl (by omega)]
      exact hK _ _ _ _ (hK _ _ _ _ (⟨rfl, rfl⟩))
theorem l_put35 {nS d a : Nat} {M : aM} {j : Int32} {x : Int64} (hj : j = Int32.ofNat a) (ha : a < 33) : aC nS (d + 1) 108 [vR 35 0, vI j, vL x] M (fun v M' => v = none ∧ M' = a_pL M 35 0 a x) (fun _ _ => False) := by
  subst hj
  refine aC_mk rfl rfl ?_
  intro K hK _
  refine hK _ _ _ _ (hK _ _ _ _ (⟨fun h => ?_, fun h => ?_⟩))
  · exact absurd (x_lt (y := 0) rfl rfl (by omega) (by decide) h) (by omega)
  · refine hK _ _ _ _ (hK _ _ _ _ (hK _ _ _ _ (hK _ _ _ _ (⟨fun h => ?_, fun h => ?_⟩))))
    · exact absurd (x_ge (y := 33) rfl rfl (by omega) (by decide) h) (by omega)
    · refine hK _ _ _ _ (hK _ _ _ _ (hK _ _ _ _ (hK _ _ _ _ (⟨x_vp rfl (show a < 33 by omega) (by decide), ?_⟩))))
      rw [x_cl rfl (by omega)]
      exact hK _ _ _ _ (⟨rfl, rfl⟩)
/-- values of a row put to rest -/
def zr (r : List Nat) (A : Nat → Nat) : Nat → Nat := fun l => if l ∈ r then 0 else A l
theorem zr_n {A : Nat → Nat} : zr [] A = A := funext (fun _ => if_neg List.not_mem_nil)
theorem zr_s {A : Nat → Nat} {l : Nat} {r : List Nat} : updn (zr r A) l 0 = zr (l :: r) A := by
  funext j
  show (if j = l then 0 else if j ∈ r then 0 else A j) = if j ∈ l :: r then 0 else A j
  by_cases h1 : j = l
  · rw [if_pos h1, if_pos (by rw [h1]; exact List.mem_cons_self)]
  · rw [if_neg h1]
    by_cases h2 : j ∈ r
    · rw [if_pos h2, if_pos (List.mem_cons_of_mem l h2)]
    · rw [if_neg h2, if_neg (fun z => by
        rcases List.mem_cons.mp z with z | z
        · exact h1 z
        · exact h2 z)]
theorem sov_i {o : Nat} {Φ : (Nat → Nat) → Nat} : ∀ (r : List Nat) (A B : Nat → Nat), (∀ l, ¬ l ∈ r → A l = B l) → sov o Φ r A = sov o Φ r B
  | [], A, B, h => by
    have e : A = B := funext (fun l => h l List.not_mem_nil)
    rw [e]
  | l :: r, A, B, h => sln_e o (fun t _ => sov_i r _ _ (fun j hj => by
    show (if j = l then t else A j) = if j = l then t else B j
    by_cases h1 : j = l
    · rw [if_pos h1, if_pos h1]
    · rw [if_neg h1, if_neg h1]
      exact h j (fun z => by
        rcases List.mem_cons.mp z with z | z
        · exact h1 z
        · exact hj z)))
/-- what comes behind a state, in the order of listing -/
def aft (o : Nat) (Φ : (Nat → Nat) → Nat) : List Nat → (Nat → Nat) → Nat
  | [], _ => 0
  | l :: r, A => aft o Φ r A + sln (fun t => if A l < t then sov o Φ r (updn A l t) else 0) o
theorem sln_0 {f : Nat → Nat} : ∀ n, sln f (n + 1) = f 0 + sln (fun t => if 0 < t then f t else 0) (n + 1)
  | 0 => by
    show 0 + f 0 = f 0 + (0 + if 0 < 0 then f 0 else 0)
    rw [if_neg (Nat.lt_irrefl 0)]
    omega
  | n + 1 => by
    show sln f (n + 1) + f (n + 1) = f 0 + (sln (fun t => if 0 < t then f t else 0) (n + 1) + if 0 < n + 1 then f (n + 1) else 0)
    rw [sln_0 n, if_pos (Nat.succ_pos n)]
    omega
theorem sln_1 {f : Nat → Nat} {a : Nat} : ∀ n, a + 1 < n → sln (fun t => if a < t then f t else 0) n = f (a + 1) + sln (fun t => if a + 1 < t then f t else 0) n
  | 0, h => absurd h (Nat.not_lt_zero _)
  | n + 1, h => by
    show sln (fun t => if a < t then f t else 0) n + (if a < n then f n else 0) = f (a + 1) + (sln (fun t => if a + 1 < t then f t else 0) n + if a + 1 < n then f n else 0)
    by_cases h1 : a + 1 = n
    · have z1 : ∀ m, m ≤ a + 1 → sln (fun t => if a < t then f t else 0) m = 0 ∧ sln (fun t => if a + 1 < t then f t else 0) m = 0 := by
        intro m
        induction m with
        | zero => exact fun _ => ⟨rfl, rfl⟩
        | succ m ih =>
          intro hm
          obtain ⟨i1, i2⟩ := ih (by omega)
          refine ⟨?_, ?_⟩
          · show sln (fun t => if a < t then f t else 0) m + (if a < m then f m else 0) = 0
            rw [i1, if_neg (by omega)]
          · show sln (fun t => if a + 1 < t then f t else 0) m + (if a + 1 < m then f m else 0) = 0
            rw [i2, if_neg (by omega)]
      obtain ⟨i1, i2⟩ := z1 n (by omega)
      rw [i1, i2, if_pos (show a < n by omega), if_neg (show ¬ a + 1 < n by omega), h1]
      omega
    · rw [sln_1 n (by omega), if_pos (show a < n by omega), if_pos (show a + 1 < n by omega)]
      omega
theorem sln_n {f : Nat → Nat} {a : Nat} : ∀ n, n ≤ a + 1 → sln (fun t => if a < t then f t else 0) n = 0
  | 0, _ => rfl
  | n + 1, h => by
    show sln (fun t => if a < t then f t else 0) n + (if a < n then f n else 0) = 0
    rw [sln_n n (by omega), if_neg (by omega)]
theorem aft_0 {o : Nat} {Φ : (Nat → Nat) → Nat} (o1 : 1 ≤ o) : ∀ (r : List Nat) (A : Nat → Nat), (∀ l, l ∈ r → A l = 0) → Φ A + aft o Φ r A = sov o Φ r A
  | [], _, _ => Nat.add_zero _
  | l :: r, A, h => by
    have h0 := h l List.mem_cons_self
    have ih := aft_0 (Φ := Φ) o1 r A (fun x hx => h x (List.mem_cons_of_mem l hx))
    have e0 : updn A l 0 = A := funext (fun j => by
      show (if j = l then 0 else A j) = A j
      by_cases hj : j = l
      · rw [if_pos hj, hj, h0]
      · rw [if_neg hj])
    obtain ⟨q, rfl⟩ : ∃ q, o = q + 1 := ⟨o - 1, by omega⟩
    show Φ A + (aft (q + 1) Φ r A + sln (fun t => if A l < t then sov (q + 1) Φ r (updn A l t) else 0) (q + 1)) = sln (fun t => sov (q + 1) Φ r (updn A l t)) (q + 1)
    rw [sln_0 (f := fun t => sov (q + 1) Φ r (updn A l t)) q, e0, ← ih, h0]
    omega
theorem aft_m {o : Nat} {Φ : (Nat → Nat) → Nat} : ∀ (r : List Nat) (A : Nat → Nat), (∀ l, l ∈ r → A l + 1 = o) → aft o Φ r A = 0
  | [], _, _ => rfl
  | l :: r, A, h => by
    show aft o Φ r A + sln (fun t => if A l < t then sov o Φ r (updn A l t) else 0) o = 0
    rw [aft_m r A (fun x hx => h x (List.mem_cons_of_mem l hx)), sln_n o (by have := h l List.mem_cons_self; omega)]
theorem aft_s {o : Nat} {Φ : (Nat → Nat) → Nat} {A : Nat → Nat} {l : Nat} {r : List Nat} (hl : A l + 1 < o) (hr : ∀ x, x ∈ r → A x + 1 = o) : ∀ (p : List Nat), (p ++ l :: r).Nodup → aft o Φ (p ++ l :: r) A = Φ (updn (zr r A) l (A l + 1)) + aft o Φ (p ++ l :: r) (updn (zr r A) l (A l + 1))
  | [], hn => by
    have hn : (l :: r).Nodup := hn
    obtain ⟨n1, n2⟩ := List.nodup_cons.mp hn
    have al : updn (zr r A) l (A l + 1) l = A l + 1 := if_pos rfl
    have ag2 : ∀ j, ¬ j = l → ¬ j ∈ r → updn (zr r A) l (A l + 1) j = A j := fun j h1 h2 => (if_neg h1).trans (if_neg h2)
    have ar : ∀ x, x ∈ r → updn (zr r A) l (A l + 1) x = 0 := fun x hx => (if_neg (fun z => n1 (by rw [← z]; exact hx))).trans (if_pos hx)
    have e1 : ∀ t, sov o Φ r (updn A l t) = sov o Φ r (updn (updn (zr r A) l (A l + 1)) l t) := fun t => sov_i r _ _ (fun j hj => by
      show (if j = l then t else A j) = if j = l then t else updn (zr r A) l (A l + 1) j
      by_cases h1 : j = l
      · rw [if_pos h1, if_pos h1]
      · rw [if_neg h1, if_neg h1, ag2 j h1 hj])
    have e2 : sov o Φ r (updn A l (A l + 1)) = Φ (updn (zr r A) l (A l + 1)) + aft o Φ r (updn (zr r A) l (A l + 1)) := by
      rw [aft_0 (by omega) r _ ar]
      exact sov_i r _ _ (fun j hj => by
        show (if j = l then A l + 1 else A j) = updn (zr r A) l (A l + 1) j
        by_cases h1 : j = l
        · rw [if_pos h1, h1, al]
        · rw [if_neg h1, ag2 j h1 hj])
    show aft o Φ r A + sln (fun t => if A l < t then sov o Φ r (updn A l t) else 0) o = Φ (updn (zr r A) l (A l + 1)) + (aft o Φ r (updn (zr r A) l (A l + 1)) + sln (fun t => if updn (zr r A) l (A l + 1) l < t then sov o Φ r (updn (updn (zr r A) l (A l + 1)) l t) else 0) o)
    rw [aft_m r A hr, sln_1 (f := fun t => sov o Φ r (updn A l t)) o hl, al, e2]
    rw [sln_e o (f := fun t => if A l + 1 < t then sov o Φ r (updn A l t) else 0) (g := fun t => if A l + 1 < t then sov o Φ r (updn (updn (zr r A) l (A l + 1)) l t) else 0) (fun t _ => by rw [e1 t])]
    omega
  | x :: p, hn => by
    have hn : (x :: (p ++ l :: r)).Nodup := hn
    obtain ⟨n1, n2⟩ := List.nodup_cons.mp hn
    have ih := aft_s (Φ := Φ) hl hr p n2
    have xl : ¬ x = l := fun z => n1 (by rw [z]; exact List.mem_append_right p List.mem_cons_self)
    have xr : ¬ x ∈ r := fun z => n1 (List.mem_append_right p (List.mem_cons_of_mem l z))
    have ax : updn (zr r A) l (A l + 1) x = A x := (if_neg xl).trans (if_neg xr)
    have e1 : ∀ t, sov o Φ (p ++ l :: r) (updn A x t) = sov o Φ (p ++ l :: r) (updn (updn (zr r A) l (A l + 1)) x t) := fun t => sov_i _ _ _ (fun j hj => by
      show (if j = x then t else A j) = if j = x then t else updn (zr r A) l (A l + 1) j
      by_cases h1 : j = x
      · rw [if_pos h1, if_pos h1]
      · rw [if_neg h1, if_neg h1]
        have j1 : ¬ j = l := fun z => hj (by rw [z]; exact List.mem_append_right p List.mem_cons_self)
        have j2 : ¬ j ∈ r := fun z => hj (List.mem_append_right p (List.mem_cons_of_mem l z))
        exact ((if_neg j1).trans (if_neg j2)).symm)
    show aft o Φ (p ++ l :: r) A + sln (fun t => if A x < t then sov o Φ (p ++ l :: r) (updn A x t) else 0) o = Φ (updn (zr r A) l (A l + 1)) + (aft o Φ (p ++ l :: r) (updn (zr r A) l (A l + 1)) + sln (fun t => if updn (zr r A) l (A l + 1) x < t then sov o Φ (p ++ l :: r) (updn (updn (zr r A) l (A l + 1)) x t) else 0) o)
    rw [ih, ax, sln_e o (f := fun t => if A x < t then sov o Φ (p ++ l :: r) (updn A x t) else 0) (g := fun t => if A x < t then sov o Φ (p ++ l :: r) (updn (updn (zr r A) l (A l + 1)) x t) else 0) (fun t _ => by rw [e1 t])]
    omega
theorem sov_1 {o : Nat} : ∀ (r : List Nat) (A : Nat → Nat), sov o (fun _ => 1) r A = o ^ r.length
  | [], _ => rfl
  | l :: r, A => by
    show sln (fun t => sov o (fun _ => 1) r (updn A l t)) o = o ^ (r.length + 1)
    rw [sln_e o (fun t _ => sov_1 r (updn A l t)), sln_k, Nat.pow_succ, Nat.mul_comm]
/-- lines off the tree, told by one number after another -/
def fP (w h s l : Nat) : Bool := hl w h s l && !(otr w h s l)
def nl (w h s i : Nat) : Nat := cnt (fP w h s) i
def fl (w h s L : Nat) : Nat := (fcl w h s).getD L 99
def fchk (w h s : Nat) : Bool := (Nat.beq (nl w h s 32) (fcl w h s).length && Nat.ble (fcl w h s).length 5) && ((bal 32 (fun l => !(fP w h s l) || Nat.beq (fl w h s (nl w h s l)) l) && ond (fcl w h s)) && bal 5 (fun L => !(Nat.blt L (fcl w h s).length) || (Nat.blt (fl w h s L) 32 && (fP w h s (fl w h s L) && Nat.beq (nl w h s (fl w h s L)) L))))
theorem ftab {w h s : Nat} (w1 : 1 ≤ w) (w3 : w ≤ 3) (h1 : 1 ≤ h) (h3 : h ≤ 3) (s2 : s ≤ 2) (h4 : w * h ≤ 4) : (nl w h s 32 = (fcl w h s).length ∧ (fcl w h s).length ≤ 5) ∧ ((∀ l, l < 32 → fP w h s l = true → fl w h s (nl w h s l) = l) ∧ (fcl w h s).Nodup) ∧ ∀ L, L < (fcl w h s).length → fl w h s L < 32 ∧ fP w h s (fl w h s L) = true ∧ nl w h s (fl w h s L) = L := by
  have t : (Nat.blt 4 (w * h) || fchk w h s) = true := sz_all (P := fun w h s => Nat.blt 4 (w * h) || fchk w h s) (by decide +kernel) w1 w3 h1 h3 s2
  rw [x_nblt (show ¬ 4 < w * h by omega), Bool.false_or] at t
  unfold fchk at t
  rw [Bool.and_eq_true, Bool.and_eq_true, Bool.and_eq_true, Bool.and_eq_true] at t
  obtain ⟨⟨t1, t2⟩, ⟨t3, t4⟩, t5⟩ := t
  have t2 := Nat.le_of_ble_eq_true t2
  refine ⟨⟨Nat.eq_of_beq_eq_true t1, t2⟩, ⟨fun l l32 hp => Nat.eq_of_beq_eq_true (b_imp (bal_ok t3 l32) hp), ond_i t4⟩, fun L hL => ?_⟩
  have t6 := b_imp (bal_ok t5 (show L < 5 by omega)) (x_blt hL)
  rw [Bool.and_eq_true, Bool.and_eq_true] at t6
  exact ⟨Nat.le_of_ble_eq_true t6.1, t6.2.1, Nat.eq_of_beq_eq_true t6.2.2⟩
theorem cnt_m {f : Nat → Bool} : ∀ {i j : Nat}, i ≤ j → cnt f i ≤ cnt f j
  | i, 0, hij => by
    rw [Nat.le_zero.mp hij]
    exact Nat.le_refl _
  | i, j + 1, hij => by
    by_cases he : i = j + 1
    · rw [he]
      exact Nat.le_refl _
    · exact Nat.le_trans (cnt_m (show i ≤ j by omega)) (Nat.le_add_right _ _)
theorem cnt_n {f : Nat → Bool} : ∀ i, cnt f i ≤ i
  | 0 => Nat.le_refl _
  | i + 1 => by
    show cnt f i + (bif f i then 1 else 0) ≤ i + 1
    have := cnt_n (f := f) i
    cases f i with
    | true => exact Nat.succ_le_succ this
    | false => exact Nat.le_succ_of_le this
theorem nl_s {w h s l : Nat} (hp : fP w h s l = true) : nl w h s (l + 1) = nl w h s l + 1 := by
  show nl w h s l + (bif fP w h s l then 1 else 0) = nl w h s l + 1
  rw [hp]
  rfl
theorem nl_f {w h s l : Nat} (hp : fP w h s l = false) : nl w h s (l + 1) = nl w h s l := by
  show nl w h s l + (bif fP w h s l then 1 else 0) = nl w h s l
  rw [hp]
  rfl
theorem nl_lt {w h s l i : Nat} (hp : fP w h s l = true) (hl : l < i) : nl w h s l < nl w h s i := by
  have h1 := cnt_m (f := fP w h s) (show l + 1 ≤ i from hl)
  have h2 := nl_s hp
  have h1 : nl w h s (l + 1) ≤ nl w h s i := h1
  omega
theorem drop_g : ∀ (F : List Nat) (k : Nat), k < F.length → F.drop k = F.getD k 99 :: F.drop (k + 1)
  | [], _, hk => absurd hk (Nat.not_lt_zero _)
  | _ :: _, 0, _ => rfl
  | _ :: r, k + 1, hk => drop_g r k (Nat.lt_of_succ_lt_succ hk)
/-- sides, levels of squares -/
def sdl (w h s x y k : Nat) : Nat := if k = 0 then xln w h s x y 0 else if k = 1 then xln w h s (x + 1) y 1 else if k = 2 then xln w h s x (y + 1) 0 else xln w h s x y 1
def mxf (f : Nat → Nat) : Nat → Nat
  | 0 => 0
  | k + 1 => if mxf f k < f k then f k else mxf f k
theorem mxf_le {f : Nat → Nat} : ∀ {n k : Nat}, k < n → f k ≤ mxf f n
  | 0, _, hk => absurd hk (Nat.not_lt_zero _)
  | n + 1, k, hk => by
    show f k ≤ if mxf f n < f n then f n else mxf f n
    by_cases he : k = n
    · rw [he]
      by_cases h1 : mxf f n < f n
      · rw [if_pos h1]
        exact Nat.le_refl _
      · rw [if_neg h1]
        omega
    · have := mxf_le (f := f) (show k < n by omega)
      by_cases h1 : mxf f n < f n
      · rw [if_pos h1]
        omega
      · rw [if_neg h1]
        exact this
def lvl (w h s l : Nat) : Nat := if fP w h s l = true then nl w h s l else 0
def laq (w h s x y : Nat) : Nat := mxf (fun k => lvl w h s (sdl w h s x y k)) 4
theorem laq_lt {w h s x y : Nat} (w1 : 1 ≤ w) (w3 : w ≤ 3) (h1 : 1 ≤ h) (h3 : h ≤ 3) (s2 : s ≤ 2) (h4 : w * h ≤ 4) (hx : x < w) (hy : y < h) : laq w h s x y < (fcl w h s).length := by
  have t : (Nat.blt 4 (w * h) || bal 3 (fun x => bal 3 (fun y => !(Nat.blt x w) || (!(Nat.blt y h) || Nat.blt (laq w h s x y) (fcl w h s).length)))) = true := sz_all (P := fun w h s => Nat.blt 4 (w * h) || bal 3 (fun x => bal 3 (fun y => !(Nat.blt x w) || (!(Nat.blt y h) || Nat.blt (laq w h s x y) (fcl w h s).length)))) (by decide +kernel) w1 w3 h1 h3 s2
  rw [x_nblt (show ¬ 4 < w * h by omega), Bool.false_or] at t
  exact Nat.le_of_ble_eq_true (b_imp (b_imp (bal_ok (bal_ok t (show x < 3 by omega)) (show y < 3 by omega)) (x_blt hx)) (x_blt hy))
theorem sdl_ok {w h s x y k : Nat} (w1 : 1 ≤ w) (w3 : w ≤ 3) (h1 : 1 ≤ h) (h3 : h ≤ 3) (s2 : s ≤ 2) (hx : x < w) (hy : y < h) (hk : k < 4) : sdl w h s x y k < 32 ∧ hl w h s (sdl w h s x y k) = true := by
  obtain ⟨⟨v0, v1⟩, v2, v3⟩ := sq_l w1 w3 h1 h3 s2 hx hy
  rcases (show k = 0 ∨ k = 1 ∨ k = 2 ∨ k = 3 by omega) with rfl | rfl | rfl | rfl
  · exact ⟨xln_lt w1 w3 h1 h3 (Nat.le_of_lt hx) (Nat.le_of_lt hy) (by decide), (xln_hl w1 w3 h1 h3 s2 (Nat.le_of_lt hx) (Nat.le_of_lt hy) (by decide) v0).1⟩
  · exact ⟨xln_lt w1 w3 h1 h3 hx (Nat.le_of_lt hy) (by decide), (xln_hl w1 w3 h1 h3 s2 hx (Nat.le_of_lt hy) (by decide) v1).1⟩
  · exact ⟨xln_lt w1 w3 h1 h3 (Nat.le_of_lt hx) hy (by decide), (xln_hl w1 w3 h1 h3 s2 (Nat.le_of_lt hx) hy (by decide) v2).1⟩
  · exact ⟨xln_lt w1 w3 h1 h3 (Nat.le_of_lt hx) (Nat.le_of_lt hy) (by decide), (xln_hl w1 w3 h1 h3 s2 (Nat.le_of_lt hx) (Nat.le_of_lt hy) (by decide) v3).1⟩
theorem rdv_s {k o w h s x y : Nat} {A : Nat → Nat} : rdv k o A w h s x y = rt k o (rt k o (A (sdl w h s x y 0)) (A (sdl w h s x y 1))) (rt k o (ag k o (A (sdl w h s x y 2))) (ag k o (A (sdl w h s x y 3)))) := rfl
/-- products over squares -/
def qv (e : xB) (A : Nat → Nat) (q : Nat) : Nat := dW e (q / e.2.1.1 * 4 + q % e.2.1.1) (rdv e.1.1 e.1.2 A e.2.1.1 e.2.1.2.1 e.2.1.2.2 (q % e.2.1.1) (q / e.2.1.1))
def laz (e : xB) (q : Nat) : Nat := laq e.2.1.1 e.2.1.2.1 e.2.1.2.2 (q % e.2.1.1) (q / e.2.1.1)
def pq (e : xB) (A : Nat → Nat) (S : Nat → Bool) : Nat → Nat
  | 0 => 1
  | k + 1 => pq e A S k * (bif S k then qv e A k else 1)
theorem pq_m {e : xB} {A : Nat → Nat} {S T : Nat → Bool} (hd : ∀ q, S q = true → T q = false) : ∀ k, pq e A (fun q => S q || T q) k = pq e A S k * pq e A T k
  | 0 => rfl
  | k + 1 => by
    show pq e A (fun q => S q || T q) k * (bif S k || T k then qv e A k else 1) = pq e A S k * (bif S k then qv e A k else 1) * (pq e A T k * (bif T k then qv e A k else 1))
    rw [pq_m hd k]
    cases hs : S k with
    | true =>
      rw [hd k hs]
      show pq e A S k * pq e A T k * qv e A k = pq e A S k * qv e A k * (pq e A T k * 1)
      rw [Nat.mul_one, Nat.mul_assoc, Nat.mul_assoc, Nat.mul_comm (pq e A T k)]
    | false =>
      cases T k with
      | true =>
        show pq e A S k * pq e A T k * qv e A k = pq e A S k * 1 * (pq e A T k * qv e A k)
        rw [Nat.mul_one, Nat.mul_assoc]
      | false =>
        show pq e A S k * pq e A T k * 1 = pq e A S k * 1 * (pq e A T k * 1)
        rw [Nat.mul_one, Nat.mul_one, Nat.mul_one]
theorem pq_e {e : xB} {A B : Nat → Nat} {S T : Nat → Bool} : ∀ k, (∀ q, q < k → S q = T q ∧ (S q = true → qv e A q = qv e B q)) → pq e A S k = pq e B T k
  | 0, _ => rfl
  | k + 1, hq => by
    show pq e A S k * (bif S k then qv e A k else 1) = pq e B T k * (bif T k then qv e B k else 1)
    rw [pq_e k (fun q h => hq q (by omega))]
    obtain ⟨h1, h2⟩ := hq k (Nat.lt_succ_self k)
    rw [← h1]
    cases hs : S k with
    | true =>
      rw [cond_true, cond_true, h2 hs]
    | false => rw [cond_false, cond_false]
theorem pq_w {e : xB} {A : Nat → Nat} (w1 : 1 ≤ e.2.1.1) : ∀ y, wNy e A y = pq e A (fun _ => true) (y * e.2.1.1)
  | 0 => by
    rw [Nat.zero_mul]
    rfl
  | y + 1 => by
    have sx : ∀ x, x ≤ e.2.1.1 → wNx e A y x (pq e A (fun _ => true) (y * e.2.1.1)) = pq e A (fun _ => true) (y * e.2.1.1 + x) := by
      intro x
      induction x with
      | zero => exact fun _ => rfl
      | succ x ih =>
        intro hx
        have hm : (y * e.2.1.1 + x) % e.2.1.1 = x := by rw [Nat.mul_comm, Nat.mul_add_mod, Nat.mod_eq_of_lt (by omega)]
        have hd : (y * e.2.1.1 + x) / e.2.1.1 = y := by rw [Nat.mul_comm, Nat.mul_add_div (by omega), Nat.div_eq_of_lt (by omega), Nat.add_zero]
        show wNx e A y x (pq e A (fun _ => true) (y * e.2.1.1)) * dW e (y * 4 + x) (rdv e.1.1 e.1.2 A e.2.1.1 e.2.1.2.1 e.2.1.2.2 x y) = pq e A (fun _ => true) (y * e.2.1.1 + x) * qv e A (y * e.2.1.1 + x)
        rw [ih (by omega)]
        unfold qv
        rw [hm, hd]
    show wNx e A y e.2.1.1 (wNy e A y) = pq e A (fun _ => true) ((y + 1) * e.2.1.1)
    rw [pq_w w1 y, sx _ (Nat.le_refl _), Nat.succ_mul]
/-- what squares are worth whose last line is told ahead of a level -/
def Wp (e : xB) (A : Nat → Nat) (L : Nat) : Nat := pq e A (fun q => Nat.blt (laz e q) L) (e.2.1.1 * e.2.1.2.1)
theorem x_bltS {a b : Nat} : Nat.blt a (b + 1) = (Nat.blt a b || Nat.beq a b) := by
  by_cases h1 : a < b
  · rw [x_blt h1, x_blt (show a < b + 1 by omega)]
    rfl
  · by_cases h2 : a = b
    · rw [x_nblt h1, x_beq h2, x_blt (show a < b + 1 by omega)]
      rfl
    · rw [x_nblt h1, x_nbeq h2, x_nblt (show ¬ a < b + 1 by omega)]
      rfl
theorem Wp_s {e : xB} {A : Nat → Nat} {L : Nat} : Wp e A (L + 1) = Wp e A L * pq e A (fun q => Nat.beq (laz e q) L) (e.2.1.1 * e.2.1.2.1) := by
  unfold Wp
  rw [← pq_m (S := fun q => Nat.blt (laz e q) L) (T := fun q => Nat.beq (laz e q) L) (fun q hz => x_nbeq (by have := Nat.le_of_ble_eq_true hz; omega))]
  exact pq_e _ (fun q _ => ⟨x_bltS, fun _ => rfl⟩)
theorem Wp_0 {e : xB} {A : Nat → Nat} : Wp e A 0 = 1 := by
  have hz : ∀ k, pq e A (fun q => Nat.blt (laz e q) 0) k = 1 := by
    intro k
    induction k with
    | zero => rfl
    | succ k ih =>
      show pq e A (fun q => Nat.blt (laz e q) 0) k * (bif Nat.blt (laz e k) 0 then qv e A k else 1) = 1
      rw [ih, x_nblt (Nat.not_lt_zero _)]
      rfl
  exact hz _
theorem q_xy {w h q : Nat} (w1 : 1 ≤ w) (hq : q < w * h) : q % w < w ∧ q / w < h := ⟨Nat.mod_lt _ w1, Nat.div_lt_of_lt_mul hq⟩
theorem Wp_n {e : xB} {A : Nat → Nat} (hk : okB e) (h4 : e.2.1.1 * e.2.1.2.1 ≤ 4) : Wp e A (fcl e.2.1.1 e.2.1.2.1 e.2.1.2.2).length = wNy e A e.2.1.2.1 := by
  obtain ⟨w1, w3, h1, h3, s2⟩ := hk
  rw [pq_w w1, Nat.mul_comm e.2.1.2.1]
  exact pq_e _ (fun q hq => ⟨x_blt (laq_lt w1 w3 h1 h3 s2 h4 (q_xy w1 hq).1 (q_xy w1 hq).2), fun _ => rfl⟩)
theorem Wp_d {e : xB} {A B : Nat → Nat} {L : Nat} (hk : okB e) (hA : ∀ l, l < 32 → ¬ (fP e.2.1.1 e.2.1.2.1 e.2.1.2.2 l = true ∧ L ≤ nl e.2.1.1 e.2.1.2.1 e.2.1.2.2 l) → A l = B l) : Wp e A L = Wp e B L := by
  obtain ⟨w1, w3, h1, h3, s2⟩ := hk
  refine pq_e _ (fun q hq => ⟨rfl, fun hz => ?_⟩)
  have hz := Nat.le_of_ble_eq_true hz
  obtain ⟨hx, hy⟩ := q_xy w1 hq
  have key : ∀ k, k < 4 → A (sdl e.2.1.1 e.2.1.2.1 e.2.1.2.2 (q % e.2.1.1) (q / e.2.1.1) k) = B (sdl e.2.1.1 e.2.1.2.1 e.2.1.2.2 (q % e.2.1.1) (q / e.2.1.1) k) := fun k hk => by
    refine hA _ (sdl_ok w1 w3 h1 h3 s2 hx hy hk).1 (fun z => ?_)
    have h9 := mxf_le (f := fun k => lvl e.2.1.1 e.2.1.2.1 e.2.1.2.2 (sdl e.2.1.1 e.2.1.2.1 e.2.1.2.2 (q % e.2.1.1) (q / e.2.1.1) k)) hk
    have h8 : lvl e.2.1.1 e.2.1.2.1 e.2.1.2.2 (sdl e.2.1.1 e.2.1.2.1 e.2.1.2.2 (q % e.2.1.1) (q / e.2.1.1) k) = nl e.2.1.1 e.2.1.2.1 e.2.1.2.2 (sdl e.2.1.1 e.2.1.2.1 e.2.1.2.2 (q % e.2.1.1) (q / e.2.1.1) k) := if_pos z.1
    have h9 : lvl e.2.1.1 e.2.1.2.1 e.2.1.2.2 (sdl e.2.1.1 e.2.1.2.1 e.2.1.2.2 (q % e.2.1.1) (q / e.2.1.1) k) ≤ laz e q := h9
    omega
  unfold qv
  rw [rdv_s, rdv_s, key 0 (by decide), key 1 (by decide), key 2 (by decide), key 3 (by decide)]
