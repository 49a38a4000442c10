/-! one step -/
/-- the small machine's assertion, as one of the real machine: any heap that holds this memory, any locals that hold these -/
def a_KW (p : Program) (l : Launch) (e : Env) (R : Room) (s : State) (m : MethodId) (args : Array Value) (below : List Frame) (meth : Method) (c : Code) (D : va_G) (cA cL : ClassId) (ad : Nat → Nat → Nat) (lv : List (Nat × Nat)) (nS : Nat) (xs : Nat → Int32) (nL kc ks : Nat) (Q : State → Prop) : aK := fun pc L S M =>
  ∀ (H : Heap) (locs : List Loc) (ls : Array Slot), va_P D vwCl (a_ws cA cL ad lv M) H → va_S (a_A ad lv s.heap.size) s.heap H locs → a_LR ad ls nL L → (∀ (j : Nat) (v : aV), L[j]? = some (some v) → a_okv lv v) → (∀ v ∈ S, a_okv lv v) → (∀ j : Nat, j < nS → M.1 99 0 j = xs j) →
    W p l e R s m args below meth c H locs kc ks Q (F0 m pc ls (S.map (a_tr ad)))
/-- what holds in a frame, from its entry on -/
def a_Cx (p : Program) (s : State) (m : MethodId) (args : Array Value) (meth : Method) (c : Code) (D : va_G) (cA cL : ClassId) (ad : Nat → Nat → Nat) (lv : List (Nat × Nat)) (X : (Nat → Prop) → State → Prop) (nL : Nat) (b : ByteArray) (own : Nat) (rt : Option FieldType) : Prop :=
  p.tables.exec = Jvm.exec ∧ c.code = b ∧ meth.sig.returnType = rt ∧ c.maxLocals = nL ∧ s.vm.findClass (a_cls own) = some m.cls ∧ (∀ w ∈ a_tbl, w.before args s = true) ∧ meth.locks = false ∧
  va_K D vwCl [(cA, .int), (cL, .long)] s ∧ (∀ M, va_D (fun _ => True) (a_ws cA cL ad lv M)) ∧ a_inj lv ∧ a_clo lv ∧ X (a_A ad lv s.heap.size) s
def a_Pc (D : va_G) (cA cL : ClassId) (ad : Nat → Nat → Nat) (lv : List (Nat × Nat)) (nS : Nat) (xs : Nat → Int32) (X : (Nat → Prop) → State → Prop) (sz : Nat) (as : List aV) (M : aM) : Array Value → State → Prop :=
  va_Pc (as.map (a_tr ad)) (fun U => U.heap.size = sz ∧ va_P D vwCl (a_ws cA cL ad lv M) U.heap ∧ va_K D vwCl [(cA, .int), (cL, .long)] U ∧ va_D (fun _ => True) (a_ws cA cL ad lv M) ∧ (∀ j : Nat, j < nS → M.1 99 0 j = xs j) ∧ (∀ v ∈ as, a_okv lv v) ∧ X (a_A ad lv sz) U)
def a_Qc (D : va_G) (cA cL : ClassId) (ad : Nat → Nat → Nat) (lv : List (Nat × Nat)) (nS : Nat) (xs : Nat → Int32) (sz : Nat) (post : Option aV → aM → Prop) : Array Value → State → Outcome → State → Prop := fun _ st oc t =>
  (∃ (v : Option aV) (M' : aM), oc = .returned (v.map (a_tr ad)) ∧ post v M' ∧ (∀ w, v = some w → a_okv lv w) ∧ va_P D vwCl (a_ws cA cL ad lv M') t.heap ∧ ∀ j : Nat, j < nS → M'.1 99 0 j = xs j) ∧ va_F (a_A ad lv sz) st t
def a_rm (d k : Nat) : Room := { frames := d, cells := k, slots := 6 * k, locals := 64 * d }
/-- a contract in the real machine, of a method that doesn't throw -/
def a_J (l : Launch) (D : va_G) (cA cL : ClassId) (ad : Nat → Nat → Nat) (lv : List (Nat × Nat)) (nS : Nat) (xs : Nat → Int32) (X : (Nat → Prop) → State → Prop) (d y : Nat) (as : List aV) (M : aM) (post : Option aV → aM → Prop) : Prop :=
  ∀ (nm : MethodName) (b : ByteArray) (nL : Nat) (rt : Option FieldType) (st : Bool) (ci na own : Nat) (ps : List Nat) (cd : List aE), a_mt[y]? = some (nm, b, nL, rt, st, ci, na, own, ps, cd) → ∀ sz : Nat,
    Met l nm (Cond.code nm b nL rt :: a_tbl) (a_rm d 0) (a_Pc D cA cL ad lv nS xs X sz as M) (a_Qc D cA cL ad lv nS xs sz post) 0 0 (a_A ad lv sz)
/-- what X, the rest of the world, must bear -/
def a_XOK (X : (Nat → Prop) → State → Prop) : Prop :=
  (∀ (A : Nat → Prop) (U : State) (g : JFrame) (mk : MethodId) (a : Array Value), X A U → X A (U.calling g mk a)) ∧
  ∀ (A B : Nat → Prop) (s U : State), X A s → (∀ q, B q → A q) → s.heap.size ≤ U.heap.size → (∀ q : Nat, q < s.heap.size → ¬ A q → U.heap[q]? = s.heap[q]?) → s.WarmedH U.vm → X B U
theorem a_fnd_mem : ∀ (cd : List aE) (pc : Nat) (e : aI), a_fnd cd pc = some e → (pc, e) ∈ cd
  | [], pc, e, h => by simp [a_fnd] at h
  | a :: r, pc, e, h => by
    simp only [a_fnd] at h
    cases hb : Nat.beq a.1 pc with
    | true =>
      rw [hb] at h
      simp only [cond_true] at h
      have h1 := Nat.eq_of_beq_eq_true hb
      cases h
      rw [← h1]
      exact List.mem_cons_self
    | false =>
      rw [hb] at h
      simp only [cond_false] at h
      exact List.mem_cons_of_mem _ (a_fnd_mem r pc e h)
theorem a_any2 {own ix x : Nat} {T : List (Nat × Nat × Nat × Nat)} (h : T.any (fun q => Nat.beq q.1 own && (Nat.beq q.2.1 ix && Nat.beq q.2.2.1 x)) = true) : ∃ p, (own, ix, x, p) ∈ T := by
  obtain ⟨q, hq, h⟩ := List.any_eq_true.mp h
  simp only [Bool.and_eq_true] at h
  refine ⟨q.2.2.2, ?_⟩
  rw [← Nat.eq_of_beq_eq_true h.1, ← Nat.eq_of_beq_eq_true h.2.1, ← Nat.eq_of_beq_eq_true h.2.2]
  exact hq
theorem a_any3 {own ix y x : Nat} {T : List (Nat × Nat × Nat × Nat × Nat)} (h : T.any (fun q => Nat.beq q.1 own && (Nat.beq q.2.1 ix && (Nat.beq q.2.2.1 y && Nat.beq q.2.2.2.1 x))) = true) : ∃ p, (own, ix, y, x, p) ∈ T := by
  obtain ⟨q, hq, h⟩ := List.any_eq_true.mp h
  simp only [Bool.and_eq_true] at h
  refine ⟨q.2.2.2.2, ?_⟩
  rw [← Nat.eq_of_beq_eq_true h.1, ← Nat.eq_of_beq_eq_true h.2.1, ← Nat.eq_of_beq_eq_true h.2.2.1, ← Nat.eq_of_beq_eq_true h.2.2.2]
  exact hq
theorem a_anyC {own ix : Nat} {c : Int32} (h : a_cnT.any (fun q => Nat.beq q.1 own && (Nat.beq q.2.1 ix && decide (q.2.2.1 = c))) = true) : Cond.constant (a_cls own) ix c ∈ a_tbl := by
  obtain ⟨q, hq, h⟩ := List.any_eq_true.mp h
  simp only [Bool.and_eq_true, decide_eq_true_eq] at h
  have h1 := List.all_eq_true.mp a_cnT_ok q hq
  rw [← Nat.eq_of_beq_eq_true h.1, ← Nat.eq_of_beq_eq_true h.2.1, ← h.2.2]
  exact a_w_in h1
theorem a_flk {own ix y x : Nat} (h : a_flT.any (fun q => Nat.beq q.1 own && (Nat.beq q.2.1 ix && (Nat.beq q.2.2.1 y && Nat.beq q.2.2.2.1 x))) = true) :
    ∃ (C : String) (T : u_T) (N : Nat), vwCl[y]? = some (C, T, N) ∧ x < N ∧ Cond.fieldLink (a_cls own) ix (T x).1 (T x).2.1 (T x).2.2.1 ∈ a_tbl := by
  obtain ⟨p, hp⟩ := a_any3 h
  have h1 := List.all_eq_true.mp a_flT_ok _ hp
  unfold a_flW at h1
  dsimp only at h1
  cases hv : vwCl[y]? with
  | none => rw [hv] at h1; cases h1
  | some q =>
    obtain ⟨C, T, N⟩ := q
    rw [hv] at h1
    simp only [Bool.and_eq_true] at h1
    exact ⟨C, T, N, rfl, Nat.le_of_ble_eq_true h1.1, a_w_in h1.2⟩
theorem a_mlk {own ix x : Nat} (h : a_mlT.any (fun q => Nat.beq q.1 own && (Nat.beq q.2.1 ix && Nat.beq q.2.2.1 x)) = true) : ∃ mt, a_mt[x]? = some mt ∧ Cond.methodLink (a_cls own) ix mt.1 ∈ a_tbl := by
  obtain ⟨p, hp⟩ := a_any2 h
  have h1 := List.all_eq_true.mp a_mlT_ok _ hp
  unfold a_mlW at h1
  dsimp only at h1
  cases hv : a_mt[x]? with
  | none => rw [hv] at h1; cases h1
  | some q =>
    obtain ⟨nm, r⟩ := q
    rw [hv] at h1
    exact ⟨_, rfl, a_w_in h1⟩
theorem a_len3 {len nx pc n : Nat} (h : (Nat.beq len n && Nat.beq nx (pc + n)) = true) : len = n ∧ nx = pc + n := by
  simp only [Bool.and_eq_true] at h
  exact ⟨Nat.eq_of_beq_eq_true h.1, Nat.eq_of_beq_eq_true h.2⟩
theorem a_ok1 {lv : List (Nat × Nat)} {L : aL} {n : Nat} {v : aV} (h : ∀ (j : Nat) (w : aV), L[j]? = some (some w) → a_okv lv w) (hv : a_okv lv v) : ∀ (j : Nat) (w : aV), (a_s1 L n v)[j]? = some (some w) → a_okv lv w := fun j w hj => by
  rcases a_s1_at hj with ⟨-, rfl⟩ | ⟨-, h2, -⟩
  · exact hv
  · exact h j w h2
theorem a_ok2 {lv : List (Nat × Nat)} {L : aL} {n : Nat} {v : aV} (h : ∀ (j : Nat) (w : aV), L[j]? = some (some w) → a_okv lv w) (hv : a_okv lv v) : ∀ (j : Nat) (w : aV), (a_s2 L n v)[j]? = some (some w) → a_okv lv w := fun j w hj => by
  rcases a_s2_at hj with ⟨-, rfl⟩ | ⟨-, -, h2, -⟩
  · exact hv
  · exact h j w h2
theorem a_shp_lv {lv : List (Nat × Nat)} {k i : Nat} {z : aS} (h : a_okv lv (vR k i)) (hs : a_shp k = some z) : (k, i) ∈ lv := by
  rcases h with h | ⟨h1, h2⟩
  · exact h
  · rw [a_shp_big h1 h2] at hs; cases hs
theorem a_DA {cA cL : ClassId} {ad : Nat → Nat → Nat} {lv : List (Nat × Nat)} {M : aM} {sz : Nat} (h : va_D (fun _ => True) (a_ws cA cL ad lv M)) : va_D (a_A ad lv sz) (a_ws cA cL ad lv M) := h.weaken (fun k q hq _ => by
  have h1 : (a_ws cA cL ad lv M)[k]? = (lv[k]?).map (fun q => (ad q.1 q.2, a_cell cA cL ad M q.1 q.2)) := by simp [a_ws]
  rw [h1] at hq
  cases hl : lv[k]? with
  | none => rw [hl] at hq; cases hq
  | some r =>
    rw [hl] at hq
    cases hq
    exact Or.inl ⟨r, List.mem_of_getElem? hl, rfl⟩)
