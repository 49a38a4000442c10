theorem a_D_any {A : Nat → Prop} {cA cL : ClassId} {ad : Nat → Nat → Nat} {lv : List (Nat × Nat)} {M M' : aM} (h : va_D A (a_ws cA cL ad lv M)) : va_D A (a_ws cA cL ad lv M') := by
  have key : ∀ (k : Nat) (q : Nat × va_E), (a_ws cA cL ad lv M')[k]? = some q → ∃ e, (a_ws cA cL ad lv M)[k]? = some (q.1, e) := by
    intro k q hq
    simp only [a_ws, List.getElem?_map] at hq ⊢
    cases hl : lv[k]? with
    | none => rw [hl] at hq; cases hq
    | some r =>
      rw [hl] at hq
      cases hq
      exact ⟨_, rfl⟩
  refine ⟨fun i j x y hi hj hxy => ?_, fun k q hq => ?_⟩
  · obtain ⟨e1, h1⟩ := key i x hi
    obtain ⟨e2, h2⟩ := key j y hj
    exact h.1 i j _ _ h1 h2 hxy
  · obtain ⟨e1, h1⟩ := key k q hq
    exact h.2 k (q.1, e1) h1
/-- the rules of the world, in any frame -/
def a_RuAll (l : Launch) (D : va_G) (cA cL : ClassId) (ad : Nat → Nat → Nat) (lv : List (Nat × Nat)) (nS : Nat) (xs : Nat → Int32) (X : (Nat → Prop) → State → Prop) : Prop :=
  ∀ (p : Program) (e : Env) (R : Room) (s : State) (m : MethodId) (args : Array Value) (below : List Frame) (meth : Method) (c : Code) (nL kc ks : Nat) (b : ByteArray) (own d : Nat) (rt : Option FieldType) (Q : State → Prop), a_Cx p s m args meth c D cA cL ad lv X nL b own rt → (d + 1 ≤ R.frames ∧ 64 * d + 41 ≤ R.locals) → (kc ≤ R.cells ∧ ks ≤ R.slots) →
    a_Ru p l e R s m args below meth c D cA cL ad lv nS xs nL kc ks b own d (fun _ _ => False) Q
theorem a_KW_le {p : Program} {l : Launch} {e : Env} {R : Room} {s : State} {m : MethodId} {args : Array Value} {below : List Frame} {meth : Method} {c : Code} {D : va_G} {cA cL : ClassId} {ad : Nat → Nat → Nat} {lv : List (Nat × Nat)} {nS : Nat} {xs : Nat → Int32} {nL kc ks : Nat} {Q : State → Prop} {pc : Nat} {L L' : aL} {S : List aV} {M : aM} (hle : a_le L' L)
    (hk : a_KW p l e R s m args below meth c D cA cL ad lv nS xs nL kc ks Q pc L' S M) : a_KW p l e R s m args below meth c D cA cL ad lv nS xs nL kc ks Q pc L S M :=
  fun H locs ls g1 g2 g3 g4 g5 g6 => hk H locs ls g1 g2 ⟨g3.1, g3.2.1, hle.1.trans g3.2.2.1, fun j v hj => g3.2.2.2 j v (hle.2 j v hj)⟩ (fun j v hj => g4 j v (hle.2 j v hj)) g5 g6
set_option maxHeartbeats 4000000 in
/-- a contract of the small machine is one of the real machine -/
theorem a_sound {l : Launch} {D : va_G} {cA cL : ClassId} {ad : Nat → Nat → Nat} {lv : List (Nat × Nat)} {nS : Nat} {xs : Nat → Int32} {X : (Nat → Prop) → State → Prop} (hX : a_XOK X) (hmt : ∀ m ∈ a_mt, a_ckM m = true) (hinj : a_inj lv) (hclo : a_clo lv) (hRu : a_RuAll l D cA cL ad lv nS xs X) :
    ∀ (d y : Nat) (as : List aV) (M : aM) (post : Option aV → aM → Prop), aC nS d y as M post (fun _ _ => False) → a_J l D cA cL ad lv nS xs X d y as M post := by
  intro d
  induction d with
  | zero => intro y as M post h; exact False.elim h
  | succ d ih =>
    intro y as M post h nm b nL rt st ci na own ps cd hmx sz
    unfold aC at h
    rw [hmx] at h
    dsimp only at h
    obtain ⟨hw, h⟩ := h
    obtain ⟨hck, hpl, -, -, -, hcls', -, -, -, -, -⟩ := a_mtf hmt hmx
    refine Met.ofW (cc := b) (maxL := nL) (ret := rt) hpl rfl ?_
    intro p e s m args below meth c s₁ B hml hv
    obtain ⟨rfl, hsz, hP, hK, hD0, hsc, hoA, hXs⟩ := hv
    subst hsz
    have hts0 := atoms_spec (ws := Cond.code nm b nL rt :: a_tbl) B.pre
    have Cx : a_Cx p s m (as.map (a_tr ad)).toArray meth c D cA cL ad lv X nL b own rt :=
      ⟨B.exec, B.bytes, B.returns, hml, by rw [hcls']; exact findClass_of_methodNamed B.named, fun w hw => hts0 w (List.mem_cons_of_mem _ hw), B.notSynchronized, hK, fun M' => a_D_any hD0, hinj, hclo, hXs⟩
    have hR : d + 1 ≤ (a_rm (d + 1) 0).frames ∧ 64 * d + 41 ≤ (a_rm (d + 1) 0).locals := ⟨Nat.le_refl _, by show 64 * d + 41 ≤ 64 * (d + 1); omega⟩
    have key := h (a_KW p l e (a_rm (d + 1) 0) s m (as.map (a_tr ad)).toArray below meth c D cA cL ad lv nS xs nL 0 0 (MQ below (a_Qc D cA cL ad lv nS xs s.heap.size post) (as.map (a_tr ad)).toArray s 0 0 (a_A ad lv s.heap.size)))
      (fun pc L S M hh => a_step Cx hX hck hmt hR ⟨Nat.zero_le _, Nat.zero_le _⟩ (fun y as M P => ih y as M P) (mc := 0) (ms := 0) (fun _ _ _ hq => hq) (hRu p e (a_rm (d + 1) 0) s m _ below meth c nL 0 0 b own d rt _ Cx hR ⟨Nat.zero_le _, Nat.zero_le _⟩) hh)
      (fun pc L L' S M hle hk => a_KW_le hle hk)
    rw [lg_entry_eq]
    exact key s.heap [] _ hP va_S.rf (a_LR_entry (Nat.le_of_ble_eq_true hw)) (fun j v hj => hoA v (a_ent_of as j v (a_pad_at hj))) (fun v hv => by cases hv) hsc
