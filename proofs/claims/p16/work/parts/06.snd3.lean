def a_clsB (ci : Nat) : Bool := match vwCl[ci]?, a_laP[ci]? with
  | some (C, T, N), some ps => decide (u_ws C T N = ps.filterMap (fun p => lw_tbl[p]?)) && (u_ws C T N).all goodWord && (List.range N).all (fun k => (parseFieldDescriptor (T k).2.2.1).isSome) && (List.range N).all (fun a => (List.range N).all (fun b => Nat.beq a b || decide ((T a).2.1 ≠ (T b).2.1)))
  | _, _ => false
theorem a_clsB_ok : (List.range 11).all a_clsB = true := by decide +kernel
theorem a_cls_ok {ci : Nat} {C : String} {T : u_T} {N : Nat} (h : vwCl[ci]? = some (C, T, N)) : (∀ w ∈ u_ws C T N, w ∈ a_tbl) ∧ (∀ k, k < N → ∃ ty, parseFieldDescriptor (T k).2.2.1 = some ty) ∧ ∀ a, a < N → ∀ b, b < N → a ≠ b → (T a).2.1 ≠ (T b).2.1 := by
  have hlt : ci < 11 := (List.getElem?_eq_some_iff.mp h).1
  have h1 := List.all_eq_true.mp a_clsB_ok ci (List.mem_range.mpr hlt)
  unfold a_clsB at h1
  rw [h] at h1
  cases hp : a_laP[ci]? with
  | none => rw [hp] at h1; cases h1
  | some ps =>
    rw [hp] at h1
    simp only [Bool.and_eq_true, decide_eq_true_eq] at h1
    obtain ⟨⟨⟨g1, g2⟩, g3⟩, g4⟩ := h1
    refine ⟨fun w hw => ?_, fun k hk => ?_, fun a ha b hb hab => ?_⟩
    · have hg := List.all_eq_true.mp g2 w hw
      rw [g1] at hw
      obtain ⟨p, -, hp⟩ := List.mem_filterMap.mp hw
      exact a_tbl_in hp hg
    · have := List.all_eq_true.mp g3 k (List.mem_range.mpr hk)
      exact Option.isSome_iff_exists.mp this
    · have := List.all_eq_true.mp (List.all_eq_true.mp g4 a (List.mem_range.mpr ha)) b (List.mem_range.mpr hb)
      simp only [Bool.or_eq_true, decide_eq_true_eq] at this
      exact this.resolve_left (fun z => hab (Nat.eq_of_beq_eq_true z))
def a_ckP (b : ByteArray) (own nL : Nat) (cd : List aE) : Bool := cd.all (fun e => match decode b e.1 with
      | .ok (i, len) => decide (i = e.2.1) && a_ckI b own nL e.1 e.2 len
      | _ => false)
theorem a_fnd_ck {b : ByteArray} {own nL : Nat} {cd : List aE} {pc : Nat} {e : aI} (h : a_ckP b own nL cd = true) (hf : a_fnd cd pc = some e) : ∃ len, decode b pc = .ok (e.1, len) ∧ a_ckI b own nL pc e len = true := by
  have h1 := List.all_eq_true.mp h _ (a_fnd_mem cd pc e hf)
  dsimp only at h1
  cases hd : decode b pc with
  | error z => rw [hd] at h1; cases h1
  | ok q =>
    obtain ⟨i, len⟩ := q
    rw [hd] at h1
    simp only [Bool.and_eq_true, decide_eq_true_eq] at h1
    exact ⟨len, by rw [h1.1], h1.2⟩
theorem a_swc_at {K : Nat → Prop} {v : Int32} : ∀ {n : Nat} {t : List Nat}, a_swc K v n t → ∀ (j q : Nat), t[j]? = some q → v = Int32.ofNat (n + j) → K q
  | n, [], _, j, q, h, _ => by simp at h
  | n, a :: t, hs, j, q, h, hv => by
    cases j with
    | zero => simp at h; subst h; exact hs.1 hv
    | succ j => rw [List.getElem?_cons_succ] at h; exact a_swc_at hs.2 j q h (by rw [hv]; congr 1; omega)
theorem a_wid_eq (ad : Nat → Nat → Nat) : ∀ S : List aV, ((S.map (a_tr ad)).map fun v => v.category).sum = a_wid S
  | [] => rfl
  | v :: r => by
    show (a_tr ad v).category + ((r.map (a_tr ad)).map fun v => v.category).sum = _
    rw [a_wid_eq ad r, a_tr_cat]
    rfl
theorem a_tbl_hts {args : Array Value} {s : State} {nm : MethodName} {b : ByteArray} {nL : Nat} {rt : Option FieldType} (hts : ∀ w ∈ a_tbl, w.before args s = true) (hc : Cond.code nm b nL rt ∈ a_tbl) :
    ∀ w ∈ (Cond.code nm b nL rt :: a_tbl), ∀ (a' : Array Value) (U : State), s.WarmedH U.vm → w.before a' U = true := by
  intro w hw a' U hW
  have hm : w ∈ a_tbl := by
    rcases List.mem_cons.mp hw with h | h
    · rw [h]; exact hc
    · exact h
  exact word_at hW (good_of_word (List.mem_filter.mp hm).2) (hts w hm)

/-- what the rest of the world must give: the script, String constants, their length and signs, a throw -/
def a_Ru (p : Program) (l : Launch) (e : Env) (R : Room) (s : State) (m : MethodId) (args : Array Value) (below : List Frame) (meth : Method) (c : Code) (D : va_G) (cA cL : ClassId) (ad : Nat → Nat → Nat) (lv : List (Nat × Nat)) (nS : Nat) (xs : Nat → Int32) (nL kc ks : Nat) (b : ByteArray) (own d : Nat) (px : Nat → aM → Prop) (Q : State → Prop) : Prop :=
  (va_X (ad 99 0) nS xs s s.heap ∧ ad 99 0 < s.heap.size ∧ ¬ a_A ad lv s.heap.size (ad 99 0) ∧ ∀ i, ad 99 i = ad 99 0) ∧
  (∀ (x o ix : Nat) (bs : List Nat), 100 ≤ x → a_stL[x - 100]? = some (o, ix, bs) → o = own → ∃ tx, vk_R (a_cls own) ix tx (ad x 0) s) ∧
  (∀ (pc ix k i : Nat) (bs : List Nat) (H : Heap) (locs : List Loc) (ls : Array Slot) (rest : List Value), a_stx k = some bs → decode b pc = .ok (.invokevirtual ix, 3) → Cond.methodLink (a_cls own) ix (a_ynm 900) ∈ a_tbl → 6 ≤ d → va_S (a_A ad lv s.heap.size) s.heap H locs → ls.size = nL → (rest.map fun v => v.category).sum ≤ 8 →
    W p l e R s m args below meth c H locs kc ks Q (F0 m (pc + 3) ls (.int (Int32.ofNat bs.length) :: rest)) → W p l e R s m args below meth c H locs kc ks Q (F0 m pc ls (.ref (ad k i) :: rest))) ∧
  (∀ (pc ix k i : Nat) (j : Int32) (bs : List Nat) (H : Heap) (locs : List Loc) (ls : Array Slot) (rest : List Value), a_stx k = some bs → decode b pc = .ok (.invokevirtual ix, 3) → Cond.methodLink (a_cls own) ix (a_ynm 901) ∈ a_tbl → 6 ≤ d → va_S (a_A ad lv s.heap.size) s.heap H locs → ls.size = nL → (rest.map fun v => v.category).sum ≤ 8 → vp_in j bs.length →
    W p l e R s m args below meth c H locs kc ks Q (F0 m (pc + 3) ls (.int (Int32.ofNat (bs.getD j.toNatClampNeg 0)) :: rest)) → W p l e R s m args below meth c H locs kc ks Q (F0 m pc ls (.int j :: .ref (ad k i) :: rest))) ∧
  (∀ (pc ik is ic x : Nat) (H : Heap) (locs : List Loc) (ls : Array Slot) (M : aM), a_thT.any (fun q => Nat.beq q.1 own && (Nat.beq q.2.1 ik && (Nat.beq q.2.2.1 is && (Nat.beq q.2.2.2.1 ic && Nat.beq q.2.2.2.2 x)))) = true → decode b pc = .ok (.new ik, 3) → decode b (pc + 3) = .ok (.dup, 1) → a_thD b pc is ic x = true →
    6 ≤ d → px x M → va_P D vwCl (a_ws cA cL ad lv M) H → va_S (a_A ad lv s.heap.size) s.heap H locs → ls.size = nL → (∀ j : Nat, j < nS → M.1 99 0 j = xs j) → W p l e R s m args below meth c H locs kc ks Q (F0 m pc ls []))
theorem a_slk {own ix x : Nat} (h : a_slT.any (fun q => Nat.beq q.1 own && (Nat.beq q.2.1 ix && Nat.beq q.2.2.1 x)) = true) : Cond.methodLink (a_cls own) ix (a_ynm x) ∈ a_tbl := by
  obtain ⟨p, hp⟩ := a_any2 h
  exact a_w_in (List.all_eq_true.mp a_slT_ok _ hp)
theorem a_mtf (hmt : ∀ m ∈ a_mt, a_ckM m = true) {x : Nat} {nm : MethodName} {b : ByteArray} {nL : Nat} {rt : Option FieldType} {st : Bool} {ci na own : Nat} {ps : List Nat} {cd : List aE} (h : a_mt[x]? = some (nm, b, nL, rt, st, ci, na, own, ps, cd)) :
    a_ckP b own nL cd = true ∧ plainName nm.cls = true ∧ nm.cls ≠ "java/lang/invoke/MethodHandle" ∧ nm.cls ≠ "java/lang/invoke/VarHandle" ∧ (parseMethodDescriptor nm.desc).map (fun d => d.parameters.length) = some na ∧ a_cls own = nm.cls ∧ nL ≤ 22 ∧ Cond.code nm b nL rt ∈ a_tbl ∧ Cond.initialized nm.cls ∈ a_tbl ∧
    (st = true → Cond.static nm ∈ a_tbl) ∧ (st = false → Cond.instanceMethod nm ∈ a_tbl ∧ Cond.selects nm.cls nm nm ∈ a_tbl ∧ ∃ (T : u_T) (N : Nat), vwCl[ci]? = some (nm.cls, T, N)) := by
  have h1 := hmt _ (List.mem_of_getElem? h)
  unfold a_ckM at h1
  dsimp only at h1
  rw [Bool.and_eq_true, Bool.and_eq_true] at h1
  obtain ⟨⟨h2, h3⟩, h4⟩ := h1
  simp only [Bool.and_eq_true, decide_eq_true_eq] at h3
  obtain ⟨⟨⟨⟨⟨g1, g2⟩, g3⟩, g4⟩, g5⟩, g6⟩ := h3
  rcases ps with _ | ⟨p1, _ | ⟨p2, _ | ⟨p3, _ | ⟨p4, _ | ⟨p5, r⟩⟩⟩⟩⟩
  · cases h4
  · cases h4
  · cases h4
  · cases h4
  · dsimp only at h4
    rw [Bool.and_eq_true, Bool.and_eq_true] at h4
    obtain ⟨⟨k1, k2⟩, k3⟩ := h4
    refine ⟨h2, g1, g2, g3, g4, g5, Nat.le_of_ble_eq_true g6, a_w_in k1, a_w_in k2, fun z => ?_, fun z => ?_⟩
    · rw [z] at k3; exact a_w_in k3
    · rw [z] at k3
      simp only [cond_false] at k3
      rw [Bool.and_eq_true, Bool.and_eq_true] at k3
      obtain ⟨⟨j1, j2⟩, j3⟩ := k3
      refine ⟨a_w_in j1, a_w_in j2, ?_⟩
      cases hv : vwCl[ci]? with
      | none => rw [hv] at j3; cases j3
      | some q =>
        obtain ⟨C, T, N⟩ := q
        rw [hv] at j3
        simp only [decide_eq_true_eq] at j3
        exact ⟨T, N, by rw [j3]⟩
  · cases h4
theorem a_blind {D : va_G} {cA cL : ClassId} {ad : Nat → Nat → Nat} {lv : List (Nat × Nat)} {nS : Nat} {xs : Nat → Int32} {X : (Nat → Prop) → State → Prop} (hX : a_XOK X) {sz : Nat} {as : List aV} {M : aM} : FrameBlind (a_Pc D cA cL ad lv nS xs X sz as M) := by
  intro a U g mk ⟨e1, q1, q2, q3, q4, q5, q6, q7⟩
  exact ⟨e1, q1, q2, va_K.moved (u := U) (U := U.calling g mk a) (Vm.Alike.refl U.vm) q3, q4, q5, q6, hX.1 _ _ _ _ _ q7⟩
theorem a_Pc_at {args : Array Value} {p : Program} {s : State} {m : MethodId} {meth : Method} {c : Code} {D : va_G} {cA cL : ClassId} {ad : Nat → Nat → Nat} {lv : List (Nat × Nat)} {nS : Nat} {xs : Nat → Int32} {X : (Nat → Prop) → State → Prop} {nL : Nat} {b : ByteArray} {own : Nat} {rt : Option FieldType} {H : Heap} {locs : List Loc}
    (Cx : a_Cx p s m args meth c D cA cL ad lv X nL b own rt) (hX : a_XOK X) {as : List aV} {M : aM} (hP : va_P D vwCl (a_ws cA cL ad lv M) H) (hS : va_S (a_A ad lv s.heap.size) s.heap H locs) (hoS : ∀ v ∈ as, a_okv lv v) (hsc : ∀ j : Nat, j < nS → M.1 99 0 j = xs j)
    (U : State) (hU : U.heap = H) (hW : s.WarmedH U.vm) : a_Pc D cA cL ad lv nS xs X H.size as M (as.map (a_tr ad)).toArray U := by
  obtain ⟨hx, hb, hr, hml, hown, hts, hlocks, hK, hDall, hinj, hclo, hXs⟩ := Cx
  refine ⟨rfl, by rw [hU], by rw [hU]; exact hP, va_K.moved hW.alike hK, hDall M, hsc, hoS, ?_⟩
  refine hX.2 (a_A ad lv s.heap.size) (a_A ad lv H.size) s U hXs (fun q hq => ?_) (by rw [hU]; exact hS.1) (fun q h1 h2 => by rw [hU]; exact hS.2.1 q h1 h2) hW
  rcases hq with hq | hq
  · exact Or.inl hq
  · exact Or.inr (Nat.le_trans hS.1 hq)
theorem a_after {p : Program} {l : Launch} {e : Env} {R : Room} {s : State} {m : MethodId} {args : Array Value} {below : List Frame} {meth : Method} {c : Code} {D : va_G} {cA cL : ClassId} {ad : Nat → Nat → Nat} {lv : List (Nat × Nat)} {nS : Nat} {xs : Nat → Int32} {nL kc ks : Nat} {Q : State → Prop}
    {pc : Nat} {L : aL} {rest : List aV} {H : Heap} {locs : List Loc} {ls : Array Slot} {st0 : List Value} {aa : Array Value} {P : Option aV → aM → Prop}
    (hrun : va_Run p l e R s m args below meth c H locs kc ks 0 0 (F0 m pc ls st0) (rest.map (a_tr ad)) (a_Qc D cA cL ad lv nS xs H.size P aa) (a_A ad lv H.size))
    (hS : va_S (a_A ad lv s.heap.size) s.heap H locs) (hLR : a_LR ad ls nL L) (hoL : ∀ (j : Nat) (v : aV), L[j]? = some (some v) → a_okv lv v) (hoS : ∀ v ∈ rest, a_okv lv v)
    (hk : ∀ v M', P v M' → a_KW p l e R s m args below meth c D cA cL ad lv nS xs nL kc ks Q (pc + 3) L (a_res v rest) M') : W p l e R s m args below meth c H locs kc ks Q (F0 m pc ls st0) := by
  intro T hT XX
  obtain ⟨v, st₀, t, T', Lx, h0, X', hL, e1, e2, ⟨⟨v0, M', hv, hpost, hokv, hPM, hsc'⟩, hz, hkk⟩, st⟩ := hrun T hT XX
  have hv : v = v0.map (a_tr ad) := by injection hv
  rw [h0] at hz hkk
  have hsub : ∀ q, a_A ad lv H.size q → a_A ad lv s.heap.size q := fun q hq => by
    rcases hq with hq | hq
    · exact Or.inl hq
    · exact Or.inr (Nat.le_trans hS.1 hq)
  have hS' : va_S (a_A ad lv s.heap.size) s.heap T'.heap (locs ++ Lx) := by
    refine ⟨Nat.le_trans hS.1 (by rw [e1]; exact hz), fun q h1 h2 => ?_, fun q hq => ?_⟩
    · rw [e1, hkk q (Nat.lt_of_lt_of_le h1 hS.1) (fun z => h2 (hsub q z))]
      exact hS.2.1 q h1 h2
    · rcases List.mem_append.mp hq with h | h
      · exact hS.2.2 q h
      · exact hsub _ (hL q h)
  have e9 : v.toList ++ rest.map (a_tr ad) = (a_res v0 rest).map (a_tr ad) := by
    subst hv
    cases v0 <;> rfl
  have hoS' : ∀ w ∈ a_res v0 rest, a_okv lv w := by
    cases v0 with
    | none => exact hoS
    | some w => exact List.forall_mem_cons.mpr ⟨hokv w rfl, hoS⟩
  obtain ⟨t2, a1, b1⟩ := hk v0 M' hpost T'.heap (locs ++ Lx) ls (by rw [e1]; exact hPM) hS' hLR hoL hoS' hsc' T' rfl X'
  rw [← e9] at a1
  exact ⟨t2, st t2 a1, b1⟩
set_option maxHeartbeats 4000000 in
theorem a_callV {p : Program} {l : Launch} {e : Env} {R : Room} {s : State} {m : MethodId} {args : Array Value} {below : List Frame} {meth : Method} {c : Code} {D : va_G} {cA cL : ClassId} {ad : Nat → Nat → Nat} {lv : List (Nat × Nat)} {nS : Nat} {xs : Nat → Int32} {X : (Nat → Prop) → State → Prop} {nL kc ks : Nat} {b : ByteArray} {own : Nat} {rt : Option FieldType} {Q : State → Prop} {d : Nat} {cal : Nat → List aV → aM → (Option aV → aM → Prop) → Prop}
    (Cx : a_Cx p s m args meth c D cA cL ad lv X nL b own rt) (hX : a_XOK X) (hmt : ∀ m ∈ a_mt, a_ckM m = true) (hR : d + 1 ≤ R.frames ∧ 64 * d + 41 ≤ R.locals) (hC : kc ≤ R.cells ∧ ks ≤ R.slots)
    (hcal : ∀ y as M P, cal y as M P → a_J l D cA cL ad lv nS xs X d y as M P) {x y ix : Nat} {nm : MethodName} {b' : ByteArray} {nL' : Nat} {rt' : Option FieldType} {ci' na' own' : Nat} {ps' : List Nat} {cd' : List aE} (hmx : a_mt[x]? = some (nm, b', nL', rt', false, ci', na', own', ps', cd')) (hlk : Cond.methodLink (a_cls own) ix nm ∈ a_tbl)
    {pc : Nat} {L : aL} {S : List aV} {M : aM} (hd : decode b pc = .ok (.invokevirtual ix, 3))
    (h : ∃ P, cal x (S.take y).reverse M P ∧ (Nat.ble (a_wid (S.drop y)) 8 && a_rok x y S) = true ∧ ∀ v M', P v M' → a_KW p l e R s m args below meth c D cA cL ad lv nS xs nL kc ks Q (pc + 3) L (a_res v (S.drop y)) M')
    {H : Heap} {locs : List Loc} {ls : Array Slot} (hP : va_P D vwCl (a_ws cA cL ad lv M) H) (hS : va_S (a_A ad lv s.heap.size) s.heap H locs) (hLR : a_LR ad ls nL L) (hoL : ∀ (j : Nat) (v : aV), L[j]? = some (some v) → a_okv lv v) (hoS : ∀ v ∈ S, a_okv lv v) (hsc : ∀ j : Nat, j < nS → M.1 99 0 j = xs j) :
    W p l e R s m args below meth c H locs kc ks Q (F0 m pc ls (S.map (a_tr ad))) := by
  obtain ⟨P, hP9, hb9, hk9⟩ := h
  obtain ⟨hck', hpl, hn1, hn2, hpar, hcls', hnL', hcw, hini, -, hins⟩ := a_mtf hmt hmx
  obtain ⟨hin, hsel, T9, N9, hcl9⟩ := hins rfl
  rw [Bool.and_eq_true] at hb9
  have hwid := Nat.le_of_ble_eq_true hb9.1
  have hrok := hb9.2
  unfold a_rok at hrok
  rw [hmx] at hrok
  simp only [cond_false, Bool.and_eq_true] at hrok
  obtain ⟨hy, hrc⟩ := hrok
  have hy := Nat.eq_of_beq_eq_true hy
  subst hy
  rcases hSn : S[na']? with _ | v
  · rw [hSn] at hrc; cases hrc
  rw [hSn] at hrc
  rcases v with v | v | ⟨k, j⟩
  · cases hrc
  · cases hrc
  dsimp only at hrc
  rcases hsh : a_shp k with _ | ⟨c9, fl⟩ | ⟨bb, n⟩
  · rw [hsh] at hrc; cases hrc
  · rw [hsh] at hrc
    have hc9 : c9 = ci' := Nat.eq_of_beq_eq_true hrc
    subst hc9
    have hlt : na' < S.length := (List.getElem?_eq_some_iff.mp hSn).1
    have hget : S[na'] = vR k j := (List.getElem?_eq_some_iff.mp hSn).2
    have hSeq : S = S.take na' ++ vR k j :: S.drop (na' + 1) := by
      conv => lhs; rw [← List.take_append_drop na' S]
      rw [List.drop_eq_getElem_cons hlt, hget]
    have has : (S.take (na' + 1)).reverse = vR k j :: (S.take na').reverse := by
      rw [List.take_succ, hSn]
      simp
    have hmem : vR k j ∈ S := List.mem_of_getElem? hSn
    have hlv := a_shp_lv (hoS _ hmem) hsh
    obtain ⟨q0, hq0, hq1⟩ := a_ws_at (cA := cA) (cL := cL) (ad := ad) (M := M) hlv
    have hce : a_cell cA cL ad M k j = .inr (c9, a_fs ad (M.1 k j) j fl) := by unfold a_cell; rw [hsh]
    rw [show a_cell cA cL ad M (k, j).1 (k, j).2 = a_cell cA cL ad M k j from rfl, hce] at hq1
    have Cx' := Cx
    obtain ⟨hx, hb, hr, hml, hown, hts, hlocks, hK, hDall, hinj, hclo, hXs⟩ := Cx
    have hM := hcal x _ M P hP9 nm b' nL' rt' false c9 na' own' ps' cd' hmx H.size
    have hoA : ∀ v ∈ (S.take (na' + 1)).reverse, a_okv lv v := fun v hv => hoS v (List.mem_of_mem_take (List.mem_reverse.mp hv))
    have hpc := a_Pc_at Cx' hX hP hS hoA hsc
    have emap : ((S.take (na' + 1)).reverse.map (a_tr ad)).toArray = (Value.ref (ad k j) :: ((S.take na').reverse.map (a_tr ad))).toArray := by
      rw [has]; rfl
    rw [emap] at hpc
    have cw : CallW R s args (a_cls own) nm.cls ix nm b' nL' rt' (Cond.code nm b' nL' rt' :: a_tbl) (a_rm d 0) 0 0 na' := by
      refine ⟨⟨rfl, rfl, hR.1, ?_, a_tbl_hts hts hcw, List.mem_cons_self, hts _ hcw, hts _ hini, ⟨hn1, hn2⟩, fun sig hsig => ?_, hts _ hlk⟩, hts _ hin, hts _ hsel⟩
      · show 8 + (nL' + 11) + 64 * d ≤ R.locals
        omega
      · rw [hsig] at hpar
        exact (Option.some.inj hpar).symm
    have hrun := va_runV (R := R) (As := (S.take na').reverse.map (a_tr ad)) (rest := (S.drop (na' + 1)).map (a_tr ad)) (g := F0 m pc ls (S.map (a_tr ad))) (cells := kc) (slots := ks) (locs := locs) (e := e) (below := below) (meth := meth) ⟨hx, hb, hml, hown, hts⟩ hM cw ⟨a_blind hX, va_recv hK hP hcl9 hq1, hpc⟩ rfl (by simp; omega) hLR.2.1 (by
        show S.map (a_tr ad) = _
        conv => lhs; rw [hSeq]
        simp [a_tr]) (lv_room (by rw [a_wid_eq]; exact hwid)) hd hC
    exact a_after hrun hS hLR hoL (fun v hv => hoS v (List.mem_of_mem_drop hv)) hk9
  · rw [hsh] at hrc; cases hrc
set_option maxHeartbeats 4000000 in
theorem a_callS {p : Program} {l : Launch} {e : Env} {R : Room} {s : State} {m : MethodId} {args : Array Value} {below : List Frame} {meth : Method} {c : Code} {D : va_G} {cA cL : ClassId} {ad : Nat → Nat → Nat} {lv : List (Nat × Nat)} {nS : Nat} {xs : Nat → Int32} {X : (Nat → Prop) → State → Prop} {nL kc ks : Nat} {b : ByteArray} {own : Nat} {rt : Option FieldType} {Q : State → Prop} {d : Nat} {cal : Nat → List aV → aM → (Option aV → aM → Prop) → Prop}
    (Cx : a_Cx p s m args meth c D cA cL ad lv X nL b own rt) (hX : a_XOK X) (hmt : ∀ m ∈ a_mt, a_ckM m = true) (hR : d + 1 ≤ R.frames ∧ 64 * d + 41 ≤ R.locals) (hC : kc ≤ R.cells ∧ ks ≤ R.slots)
    (hcal : ∀ y as M P, cal y as M P → a_J l D cA cL ad lv nS xs X d y as M P) {x y ix : Nat} {nm : MethodName} {b' : ByteArray} {nL' : Nat} {rt' : Option FieldType} {ci' na' own' : Nat} {ps' : List Nat} {cd' : List aE} (hmx : a_mt[x]? = some (nm, b', nL', rt', true, ci', na', own', ps', cd')) (hlk : Cond.methodLink (a_cls own) ix nm ∈ a_tbl)
    {pc : Nat} {L : aL} {S : List aV} {M : aM} (hd : decode b pc = .ok (.invokestatic ix, 3))
    (h : ∃ P, cal x (S.take y).reverse M P ∧ (Nat.ble (a_wid (S.drop y)) 8 && a_rok x y S) = true ∧ ∀ v M', P v M' → a_KW p l e R s m args below meth c D cA cL ad lv nS xs nL kc ks Q (pc + 3) L (a_res v (S.drop y)) M')
    {H : Heap} {locs : List Loc} {ls : Array Slot} (hP : va_P D vwCl (a_ws cA cL ad lv M) H) (hS : va_S (a_A ad lv s.heap.size) s.heap H locs) (hLR : a_LR ad ls nL L) (hoL : ∀ (j : Nat) (v : aV), L[j]? = some (some v) → a_okv lv v) (hoS : ∀ v ∈ S, a_okv lv v) (hsc : ∀ j : Nat, j < nS → M.1 99 0 j = xs j) :
    W p l e R s m args below meth c H locs kc ks Q (F0 m pc ls (S.map (a_tr ad))) := by
  obtain ⟨P, hP9, hb9, hk9⟩ := h
  obtain ⟨hck', hpl, hn1, hn2, hpar, hcls', hnL', hcw, hini, hsta, -⟩ := a_mtf hmt hmx
  have hsta := hsta rfl
  rw [Bool.and_eq_true] at hb9
  have hwid := Nat.le_of_ble_eq_true hb9.1
  have hrok := hb9.2
  unfold a_rok at hrok
  rw [hmx] at hrok
  simp only [cond_true, Bool.and_eq_true] at hrok
  obtain ⟨hy, hrc⟩ := hrok
  have hy := Nat.eq_of_beq_eq_true hy
  have hrc := Nat.le_of_ble_eq_true hrc
  subst hy
  have Cx' := Cx
  obtain ⟨hx, hb, hr, hml, hown, hts, hlocks, hK, hDall, hinj, hclo, hXs⟩ := Cx
  have hM := hcal x _ M P hP9 nm b' nL' rt' true ci' y own' ps' cd' hmx H.size
  have hoA : ∀ v ∈ (S.take y).reverse, a_okv lv v := fun v hv => hoS v (List.mem_of_mem_take (List.mem_reverse.mp hv))
  have hpc := a_Pc_at Cx' hX hP hS hoA hsc
  have cw : CallB R s args (a_cls own) ix nm b' nL' rt' (Cond.code nm b' nL' rt' :: a_tbl) (a_rm d 0) 0 0 y ∧ (Cond.static nm).before args s = true := by
    refine ⟨⟨rfl, rfl, hR.1, ?_, a_tbl_hts hts hcw, List.mem_cons_self, hts _ hcw, hts _ hini, ⟨hn1, hn2⟩, fun sig hsig => ?_, hts _ hlk⟩, hts _ hsta⟩
    · show 8 + (nL' + 11) + 64 * d ≤ R.locals
      omega
    · rw [hsig] at hpar
      exact (Option.some.inj hpar).symm
  have hrun := va_runS (R := R) (As := (S.take y).reverse.map (a_tr ad)) (rest := (S.drop y).map (a_tr ad)) (g := F0 m pc ls (S.map (a_tr ad))) (cells := kc) (slots := ks) (locs := locs) (e := e) (below := below) (meth := meth) ⟨hx, hb, hml, hown, hts⟩ hM cw ⟨a_blind hX, hpc⟩ rfl (by simp; omega) hLR.2.1 (by
      show S.map (a_tr ad) = _
      conv => lhs; rw [← List.take_append_drop y S]
      simp) (lv_room (by rw [a_wid_eq]; exact hwid)) hd hC
  exact a_after hrun hS hLR hoL (fun v hv => hoS v (List.mem_of_mem_drop hv)) hk9
set_option maxHeartbeats 4000000 in
set_option maxRecDepth 100000 in
theorem a_step {p : Program} {l : Launch} {e : Env} {R : Room} {s : State} {m : MethodId} {args : Array Value} {below : List Frame} {meth : Method} {c : Code} {D : va_G} {cA cL : ClassId} {ad : Nat → Nat → Nat} {lv : List (Nat × Nat)} {nS : Nat} {xs : Nat → Int32} {X : (Nat → Prop) → State → Prop} {nL kc ks : Nat} {b : ByteArray} {own : Nat} {rt : Option FieldType} {Q : State → Prop} {d mc ms : Nat} {cd : List aE} {post : Option aV → aM → Prop} {px : Nat → aM → Prop} {cal : Nat → List aV → aM → (Option aV → aM → Prop) → Prop}
    (Cx : a_Cx p s m args meth c D cA cL ad lv X nL b own rt) (hX : a_XOK X) (hck : a_ckP b own nL cd = true) (hmt : ∀ m ∈ a_mt, a_ckM m = true) (hR : d + 1 ≤ R.frames ∧ 64 * d + 41 ≤ R.locals) (hC : kc ≤ R.cells ∧ ks ≤ R.slots)
    (hcal : ∀ y as M P, cal y as M P → a_J l D cA cL ad lv nS xs X d y as M P)
    (hQ : ∀ (H : Heap) (locs : List Loc) (g : JFrame), W p l e R s m args below meth c H locs mc ms (MQ below (a_Qc D cA cL ad lv nS xs s.heap.size post) args s mc ms (a_A ad lv s.heap.size)) g → W p l e R s m args below meth c H locs kc ks Q g)
    (hRu : a_Ru p l e R s m args below meth c D cA cL ad lv nS xs nL kc ks b own d px Q) {pc : Nat} {L : aL} {S : List aV} {M : aM}
    (h : a_wp d nS cal rt cd post px (a_KW p l e R s m args below meth c D cA cL ad lv nS xs nL kc ks Q) pc L S M) : a_KW p l e R s m args below meth c D cA cL ad lv nS xs nL kc ks Q pc L S M := by
  have Cx' := Cx
  obtain ⟨hx, hb, hr, hml, hown, hts, hlocks, hK, hDall, hinj, hclo, hXs⟩ := Cx
  obtain ⟨⟨hscr, hscl, hscA, hsci⟩, hld, hsl, hca, hth⟩ := hRu
  unfold a_wp at h
  cases hf : a_fnd cd pc with
  | none => rw [hf] at h; exact False.elim h
  | some ee =>
  obtain ⟨i, x, y, c0, t, nx⟩ := ee
  rw [hf] at h
  obtain ⟨len, hd, hc⟩ := a_fnd_ck hck hf
  dsimp only at h hd
  intro H locs ls hP hS hLR hoL hoS hsc
  have hA : ∀ q : Nat, s.heap.size ≤ q → a_A ad lv s.heap.size q := fun q hq => Or.inr hq
  have hD : va_D (a_A ad lv s.heap.size) (a_ws cA cL ad lv M) := a_DA (hDall M)
  cases i with
  | iconst n =>
    have hc : ((Nat.beq len 1 && Nat.beq nx (pc + 1)) && decide (Int32.ofInt n = c0)) = true := hc
    simp only [Bool.and_eq_true, decide_eq_true_eq] at hc
    obtain ⟨⟨h1, h2⟩, h3⟩ := hc
    cases Nat.eq_of_beq_eq_true h1; cases Nat.eq_of_beq_eq_true h2
    have h : (a_KW p l e R s m args below meth c D cA cL ad lv nS xs nL kc ks Q) (pc + 1) L (vI c0 :: S) M := h
    refine lv_iconst hx hb hd h3 ?_
    exact h H locs ls hP hS hLR hoL (List.forall_mem_cons.mpr ⟨trivial, hoS⟩) hsc
  | bipush n =>
    have hc : ((Nat.beq len 2 && Nat.beq nx (pc + 2)) && decide ((Int8.ofInt n).toInt32 = c0)) = true := hc
    simp only [Bool.and_eq_true, decide_eq_true_eq] at hc
    obtain ⟨⟨h1, h2⟩, h3⟩ := hc
    cases Nat.eq_of_beq_eq_true h1; cases Nat.eq_of_beq_eq_true h2
    have h : (a_KW p l e R s m args below meth c D cA cL ad lv nS xs nL kc ks Q) (pc + 2) L (vI c0 :: S) M := h
    refine lv_bipush hx hb hd h3 ?_
    exact h H locs ls hP hS hLR hoL (List.forall_mem_cons.mpr ⟨trivial, hoS⟩) hsc
  | sipush n =>
    have hc : ((Nat.beq len 3 && Nat.beq nx (pc + 3)) && decide ((Int16.ofInt n).toInt32 = c0)) = true := hc
    simp only [Bool.and_eq_true, decide_eq_true_eq] at hc
    obtain ⟨⟨h1, h2⟩, h3⟩ := hc
    cases Nat.eq_of_beq_eq_true h1; cases Nat.eq_of_beq_eq_true h2
    have h : (a_KW p l e R s m args below meth c D cA cL ad lv nS xs nL kc ks Q) (pc + 3) L (vI c0 :: S) M := h
    refine lv_sipush hx hb hd h3 ?_
    exact h H locs ls hP hS hLR hoL (List.forall_mem_cons.mpr ⟨trivial, hoS⟩) hsc
  | ldc_w ix =>
    have hc : ((Nat.beq len 3 && Nat.beq nx (pc + 3)) && a_cnT.any (fun q => Nat.beq q.1 own && (Nat.beq q.2.1 ix && decide (q.2.2.1 = c0)))) = true := hc
    rw [Bool.and_eq_true] at hc
    obtain ⟨h12, h3⟩ := hc
    obtain ⟨rfl, rfl⟩ := a_len3 h12
    have h : (a_KW p l e R s m args below meth c D cA cL ad lv nS xs nL kc ks Q) (pc + 3) L (vI c0 :: S) M := h
    refine lv_ldcw hx hb hown (hts _ (a_anyC h3)) hd ?_
    exact h H locs ls hP hS hLR hoL (List.forall_mem_cons.mpr ⟨trivial, hoS⟩) hsc
  | ldc ix =>
    cases y with
    | zero =>
      have hc : ((Nat.beq len 2 && Nat.beq nx (pc + 2)) && a_cnT.any (fun q => Nat.beq q.1 own && (Nat.beq q.2.1 ix && decide (q.2.2.1 = c0)))) = true := hc
      rw [Bool.and_eq_true] at hc
      obtain ⟨h12, h3⟩ := hc
      obtain ⟨rfl, rfl⟩ := a_len3 h12
      have h : (a_KW p l e R s m args below meth c D cA cL ad lv nS xs nL kc ks Q) (pc + 2) L (vI c0 :: S) M := h
      refine lv_ldc hx hb hown (hts _ (a_anyC h3)) hd ?_
      exact h H locs ls hP hS hLR hoL (List.forall_mem_cons.mpr ⟨trivial, hoS⟩) hsc
    | succ y =>
      have hc : ((Nat.beq len 2 && Nat.beq nx (pc + 2)) && (Nat.ble 100 x && (match a_stL[x - 100]? with
          | some (o, ix', _) => Nat.beq o own && Nat.beq ix' ix
          | none => false))) = true := hc
      simp only [Bool.and_eq_true] at hc
      obtain ⟨⟨g1, g2⟩, h3, h4⟩ := hc
      cases Nat.eq_of_beq_eq_true g1; cases Nat.eq_of_beq_eq_true g2
      have h3 := Nat.le_of_ble_eq_true h3
      have h : (a_KW p l e R s m args below meth c D cA cL ad lv nS xs nL kc ks Q) (pc + 2) L (vR x 0 :: S) M := h
      cases hst : a_stL[x - 100]? with
      | none => rw [hst] at h4; cases h4
      | some q =>
        obtain ⟨o, ix', bs⟩ := q
        rw [hst] at h4
        simp only [Bool.and_eq_true] at h4
        cases Nat.eq_of_beq_eq_true h4.1; cases Nat.eq_of_beq_eq_true h4.2
        obtain ⟨tx, hR9⟩ := hld x _ _ bs h3 hst rfl
        refine va_ldcS hx hb hown hR9 hd ?_
        exact h H locs ls hP hS hLR hoL (List.forall_mem_cons.mpr ⟨Or.inr ⟨by show 97 ≤ x; omega, by show x ≠ 98; omega⟩, hoS⟩) hsc
  | lconst n =>
    have hc : ((Nat.beq len 1 && Nat.beq nx (pc + 1)) && Nat.beq n.val x) = true := hc
    rw [Bool.and_eq_true] at hc
    obtain ⟨h12, h3⟩ := hc
    obtain ⟨rfl, rfl⟩ := a_len3 h12
    have h3 := Nat.eq_of_beq_eq_true h3
    cases x with
    | zero =>
      have h : (a_KW p l e R s m args below meth c D cA cL ad lv nS xs nL kc ks Q) (pc + 1) L (vL 0 :: S) M := h
      refine lv_lconst hx hb (v := 0) hd (by rw [h3]; rfl) ?_
      exact h H locs ls hP hS hLR hoL (List.forall_mem_cons.mpr ⟨trivial, hoS⟩) hsc
    | succ x =>
      have h : (a_KW p l e R s m args below meth c D cA cL ad lv nS xs nL kc ks Q) (pc + 1) L (vL 1 :: S) M := h
      refine lv_lconst hx hb (v := 1) hd (by rw [show (n : Nat) = 1 by omega]; rfl) ?_
      exact h H locs ls hP hS hLR hoL (List.forall_mem_cons.mpr ⟨trivial, hoS⟩) hsc
  | iload_n n =>
    have hc : ((Nat.beq len 1 && Nat.beq nx (pc + 1)) && Nat.beq n.val x) = true := hc
    rw [Bool.and_eq_true] at hc
    obtain ⟨h12, h3⟩ := hc
    obtain ⟨rfl, rfl⟩ := a_len3 h12
    have h3 := Nat.eq_of_beq_eq_true h3
    
    unfold a_w1 at h
    dsimp only at h
    rcases hL : L[x]? with _ | _ | v
    · rw [hL] at h; exact False.elim h
    · rw [hL] at h; exact False.elim h
    rw [hL] at h
    rcases v with v | v | v
    · have h : (a_KW p l e R s m args below meth c D cA cL ad lv nS xs nL kc ks Q) (pc + 1) L ((Sum.inl v) :: S) M := h
      refine lv_iload_n hx hb hd h3 (hLR.2.2.2 _ _ hL) ?_
      exact h H locs ls hP hS hLR hoL (List.forall_mem_cons.mpr ⟨trivial, hoS⟩) hsc
    · exact False.elim h
    · exact False.elim h
  | iload n =>
    have hc : ((Nat.beq len 2 && Nat.beq nx (pc + 2)) && Nat.beq n x) = true := hc
    rw [Bool.and_eq_true] at hc
    obtain ⟨h12, h3⟩ := hc
    obtain ⟨rfl, rfl⟩ := a_len3 h12
    have h3 := Nat.eq_of_beq_eq_true h3
    subst h3
    unfold a_w1 at h
    dsimp only at h
    rcases hL : L[n]? with _ | _ | v
    · rw [hL] at h; exact False.elim h
    · rw [hL] at h; exact False.elim h
    rw [hL] at h
    rcases v with v | v | v
    · have h : (a_KW p l e R s m args below meth c D cA cL ad lv nS xs nL kc ks Q) (pc + 2) L ((Sum.inl v) :: S) M := h
      refine lv_iload hx hb hd (hLR.2.2.2 _ _ hL) ?_
      exact h H locs ls hP hS hLR hoL (List.forall_mem_cons.mpr ⟨trivial, hoS⟩) hsc
    · exact False.elim h
    · exact False.elim h
  | lload_n n =>
    have hc : ((Nat.beq len 1 && Nat.beq nx (pc + 1)) && Nat.beq n.val x) = true := hc
    rw [Bool.and_eq_true] at hc
    obtain ⟨h12, h3⟩ := hc
    obtain ⟨rfl, rfl⟩ := a_len3 h12
    have h3 := Nat.eq_of_beq_eq_true h3
    
    unfold a_w1 at h
    dsimp only at h
    rcases hL : L[x]? with _ | _ | v
    · rw [hL] at h; exact False.elim h
    · rw [hL] at h; exact False.elim h
    rw [hL] at h
    rcases v with v | v | v
    · exact False.elim h
    · have h : (a_KW p l e R s m args below meth c D cA cL ad lv nS xs nL kc ks Q) (pc + 1) L ((Sum.inr (Sum.inl v)) :: S) M := h
      refine lv_lload_n hx hb hd h3 (hLR.2.2.2 _ _ hL) ?_
      exact h H locs ls hP hS hLR hoL (List.forall_mem_cons.mpr ⟨trivial, hoS⟩) hsc
    · exact False.elim h
  | lload n =>
    have hc : ((Nat.beq len 2 && Nat.beq nx (pc + 2)) && Nat.beq n x) = true := hc
    rw [Bool.and_eq_true] at hc
    obtain ⟨h12, h3⟩ := hc
    obtain ⟨rfl, rfl⟩ := a_len3 h12
    have h3 := Nat.eq_of_beq_eq_true h3
    subst h3
    unfold a_w1 at h
    dsimp only at h
    rcases hL : L[n]? with _ | _ | v
    · rw [hL] at h; exact False.elim h
    · rw [hL] at h; exact False.elim h
    rw [hL] at h
    rcases v with v | v | v
    · exact False.elim h
    · have h : (a_KW p l e R s m args below meth c D cA cL ad lv nS xs nL kc ks Q) (pc + 2) L ((Sum.inr (Sum.inl v)) :: S) M := h
      refine lv_lload hx hb hd (hLR.2.2.2 _ _ hL) ?_
      exact h H locs ls hP hS hLR hoL (List.forall_mem_cons.mpr ⟨trivial, hoS⟩) hsc
    · exact False.elim h
  | aload_n n =>
    have hc : ((Nat.beq len 1 && Nat.beq nx (pc + 1)) && Nat.beq n.val x) = true := hc
    rw [Bool.and_eq_true] at hc
    obtain ⟨h12, h3⟩ := hc
    obtain ⟨rfl, rfl⟩ := a_len3 h12
    have h3 := Nat.eq_of_beq_eq_true h3
    
    unfold a_w1 at h
    dsimp only at h
    rcases hL : L[x]? with _ | _ | v
    · rw [hL] at h; exact False.elim h
    · rw [hL] at h; exact False.elim h
    rw [hL] at h
    rcases v with v | v | v
    · exact False.elim h
    · exact False.elim h
    · have h : (a_KW p l e R s m args below meth c D cA cL ad lv nS xs nL kc ks Q) (pc + 1) L ((Sum.inr (Sum.inr v)) :: S) M := h
      refine lv_aload_n hx hb hd h3 (hLR.2.2.2 _ _ hL) ?_
      exact h H locs ls hP hS hLR hoL (List.forall_mem_cons.mpr ⟨hoL _ _ hL, hoS⟩) hsc
  | aload n =>
    have hc : ((Nat.beq len 2 && Nat.beq nx (pc + 2)) && Nat.beq n x) = true := hc
    rw [Bool.and_eq_true] at hc
    obtain ⟨h12, h3⟩ := hc
    obtain ⟨rfl, rfl⟩ := a_len3 h12
    have h3 := Nat.eq_of_beq_eq_true h3
    subst h3
    unfold a_w1 at h
    dsimp only at h
    rcases hL : L[n]? with _ | _ | v
    · rw [hL] at h; exact False.elim h
    · rw [hL] at h; exact False.elim h
    rw [hL] at h
    rcases v with v | v | v
    · exact False.elim h
    · exact False.elim h
    · have h : (a_KW p l e R s m args below meth c D cA cL ad lv nS xs nL kc ks Q) (pc + 2) L ((Sum.inr (Sum.inr v)) :: S) M := h
      refine lv_aload hx hb hd (hLR.2.2.2 _ _ hL) ?_
      exact h H locs ls hP hS hLR hoL (List.forall_mem_cons.mpr ⟨hoL _ _ hL, hoS⟩) hsc
  | istore_n n =>
    have hc : (((Nat.beq len 1 && Nat.beq nx (pc + 1)) && Nat.beq n.val x) && Nat.blt x nL) = true := hc
    rw [Bool.and_eq_true, Bool.and_eq_true] at hc
    obtain ⟨⟨h12, h3⟩, h4⟩ := hc
    obtain ⟨rfl, rfl⟩ := a_len3 h12
    have h3 := Nat.eq_of_beq_eq_true h3
    have h4 := Nat.le_of_ble_eq_true h4
    
    rcases S with _ | ⟨v, S⟩
    · exact False.elim h
    rcases v with v | v | v
    · have h : (a_KW p l e R s m args below meth c D cA cL ad lv nS xs nL kc ks Q) (pc + 1) (a_s1 L x (Sum.inl v)) S M := h
      have hoS2 := List.forall_mem_cons.mp hoS
      refine lv_istore_n hx hb hd h3 hLR.has (by omega) rfl (fun ls' hl' => ?_)
      exact h H locs ls' hP hS (a_LR.s1 (v := (Sum.inl v)) rfl hLR hl') (a_ok1 hoL hoS2.1) hoS2.2 hsc
    · exact False.elim h
    · exact False.elim h
  | istore n =>
    have hc : (((Nat.beq len 2 && Nat.beq nx (pc + 2)) && Nat.beq n x) && Nat.blt x nL) = true := hc
    rw [Bool.and_eq_true, Bool.and_eq_true] at hc
    obtain ⟨⟨h12, h3⟩, h4⟩ := hc
    obtain ⟨rfl, rfl⟩ := a_len3 h12
    have h3 := Nat.eq_of_beq_eq_true h3
    have h4 := Nat.le_of_ble_eq_true h4
    subst h3
    rcases S with _ | ⟨v, S⟩
    · exact False.elim h
    rcases v with v | v | v
    · have h : (a_KW p l e R s m args below meth c D cA cL ad lv nS xs nL kc ks Q) (pc + 2) (a_s1 L n (Sum.inl v)) S M := h
      have hoS2 := List.forall_mem_cons.mp hoS
      refine lv_istore hx hb hd hLR.has (by omega) rfl (fun ls' hl' => ?_)
      exact h H locs ls' hP hS (a_LR.s1 (v := (Sum.inl v)) rfl hLR hl') (a_ok1 hoL hoS2.1) hoS2.2 hsc
    · exact False.elim h
    · exact False.elim h
  | lstore_n n =>
    have hc : (((Nat.beq len 1 && Nat.beq nx (pc + 1)) && Nat.beq n.val x) && Nat.blt (x + 1) nL) = true := hc
    rw [Bool.and_eq_true, Bool.and_eq_true] at hc
    obtain ⟨⟨h12, h3⟩, h4⟩ := hc
    obtain ⟨rfl, rfl⟩ := a_len3 h12
    have h3 := Nat.eq_of_beq_eq_true h3
    have h4 := Nat.le_of_ble_eq_true h4
    
    rcases S with _ | ⟨v, S⟩
    · exact False.elim h
    rcases v with v | v | v
    · exact False.elim h
    · have h : (a_KW p l e R s m args below meth c D cA cL ad lv nS xs nL kc ks Q) (pc + 1) (a_s2 L x (Sum.inr (Sum.inl v))) S M := h
      have hoS2 := List.forall_mem_cons.mp hoS
      refine lv_lstore_n hx hb hd h3 hLR.has (by omega) rfl (fun ls' hl' => ?_)
      exact h H locs ls' hP hS (a_LR.s2 (v := (Sum.inr (Sum.inl v))) rfl hLR hl') (a_ok2 hoL hoS2.1) hoS2.2 hsc
    · exact False.elim h
  | lstore n =>
    have hc : (((Nat.beq len 2 && Nat.beq nx (pc + 2)) && Nat.beq n x) && Nat.blt (x + 1) nL) = true := hc
    rw [Bool.and_eq_true, Bool.and_eq_true] at hc
    obtain ⟨⟨h12, h3⟩, h4⟩ := hc
    obtain ⟨rfl, rfl⟩ := a_len3 h12
    have h3 := Nat.eq_of_beq_eq_true h3
    have h4 := Nat.le_of_ble_eq_true h4
    subst h3
    rcases S with _ | ⟨v, S⟩
    · exact False.elim h
    rcases v with v | v | v
    · exact False.elim h
    · have h : (a_KW p l e R s m args below meth c D cA cL ad lv nS xs nL kc ks Q) (pc + 2) (a_s2 L n (Sum.inr (Sum.inl v))) S M := h
      have hoS2 := List.forall_mem_cons.mp hoS
      refine lv_lstore hx hb hd hLR.has (by omega) rfl (fun ls' hl' => ?_)
      exact h H locs ls' hP hS (a_LR.s2 (v := (Sum.inr (Sum.inl v))) rfl hLR hl') (a_ok2 hoL hoS2.1) hoS2.2 hsc
    · exact False.elim h
  | astore_n n =>
    have hc : (((Nat.beq len 1 && Nat.beq nx (pc + 1)) && Nat.beq n.val x) && Nat.blt x nL) = true := hc
    rw [Bool.and_eq_true, Bool.and_eq_true] at hc
    obtain ⟨⟨h12, h3⟩, h4⟩ := hc
    obtain ⟨rfl, rfl⟩ := a_len3 h12
    have h3 := Nat.eq_of_beq_eq_true h3
    have h4 := Nat.le_of_ble_eq_true h4
    
    rcases S with _ | ⟨v, S⟩
    · exact False.elim h
    rcases v with v | v | v
    · exact False.elim h
    · exact False.elim h
    · have h : (a_KW p l e R s m args below meth c D cA cL ad lv nS xs nL kc ks Q) (pc + 1) (a_s1 L x (Sum.inr (Sum.inr v))) S M := h
      have hoS2 := List.forall_mem_cons.mp hoS
      refine lv_astore_n hx hb hd h3 hLR.has (by omega) rfl (fun ls' hl' => ?_)
      exact h H locs ls' hP hS (a_LR.s1 (v := (Sum.inr (Sum.inr v))) rfl hLR hl') (a_ok1 hoL hoS2.1) hoS2.2 hsc
  | astore n =>
    have hc : (((Nat.beq len 2 && Nat.beq nx (pc + 2)) && Nat.beq n x) && Nat.blt x nL) = true := hc
    rw [Bool.and_eq_true, Bool.and_eq_true] at hc
    obtain ⟨⟨h12, h3⟩, h4⟩ := hc
    obtain ⟨rfl, rfl⟩ := a_len3 h12
    have h3 := Nat.eq_of_beq_eq_true h3
    have h4 := Nat.le_of_ble_eq_true h4
    subst h3
    rcases S with _ | ⟨v, S⟩
    · exact False.elim h
    rcases v with v | v | v
    · exact False.elim h
    · exact False.elim h
    · have h : (a_KW p l e R s m args below meth c D cA cL ad lv nS xs nL kc ks Q) (pc + 2) (a_s1 L n (Sum.inr (Sum.inr v))) S M := h
      have hoS2 := List.forall_mem_cons.mp hoS
      refine lv_astore hx hb hd hLR.has (by omega) rfl (fun ls' hl' => ?_)
      exact h H locs ls' hP hS (a_LR.s1 (v := (Sum.inr (Sum.inr v))) rfl hLR hl') (a_ok1 hoL hoS2.1) hoS2.2 hsc
  | iinc n k =>
    have hc : ((((Nat.beq len 3 && Nat.beq nx (pc + 3)) && Nat.beq n x) && Nat.blt x nL) && decide (Int32.ofInt k = c0)) = true := hc
    rw [Bool.and_eq_true, Bool.and_eq_true, Bool.and_eq_true, decide_eq_true_eq] at hc
    obtain ⟨⟨⟨h12, h3⟩, h4⟩, h5⟩ := hc
    obtain ⟨rfl, rfl⟩ := a_len3 h12
    cases Nat.eq_of_beq_eq_true h3
    have h4 := Nat.le_of_ble_eq_true h4
    unfold a_w1 at h
    dsimp only at h
    rcases hL : L[x]? with _ | _ | v
    · rw [hL] at h; exact False.elim h
    · rw [hL] at h; exact False.elim h
    rw [hL] at h
    rcases v with v | v | v
    · have h : (a_KW p l e R s m args below meth c D cA cL ad lv nS xs nL kc ks Q) (pc + 3) (a_s1 L x (Sum.inl (v + c0))) S M := h
      obtain ⟨k9, hk9⟩ := List.getElem?_of_mem (a_prs_mem (ad := ad) hL)
      refine lv_iinc (v := v + c0) hx hb hd hLR.has hk9 (by rw [h5]) (by omega) rfl (fun ls' hl' => ?_)
      exact h H locs ls' hP hS (a_LR.s1 (v := Sum.inl (v + c0)) rfl hLR hl') (a_ok1 hoL trivial) hoS hsc
    · exact False.elim h
    · exact False.elim h
  | iadd =>
    obtain ⟨rfl, rfl⟩ := a_len3 (show (Nat.beq len 1 && Nat.beq nx (pc + 1)) = true from hc)
    rcases S with _ | ⟨v, S⟩
    · exact False.elim h
    rcases v with v | v | v
    · rcases S with _ | ⟨w, S⟩
      · exact False.elim h
      rcases w with w | w | w
      · have h : (a_KW p l e R s m args below meth c D cA cL ad lv nS xs nL kc ks Q) (pc + 1) L (.inl (w + v) :: S) M := h
        refine lv_iadd hx hb hd ?_
        exact h H locs ls hP hS hLR hoL (List.forall_mem_cons.mpr ⟨trivial, (List.forall_mem_cons.mp (List.forall_mem_cons.mp hoS).2).2⟩) hsc
      · exact False.elim h
      · exact False.elim h
    · exact False.elim h
    · exact False.elim h
  | isub =>
    obtain ⟨rfl, rfl⟩ := a_len3 (show (Nat.beq len 1 && Nat.beq nx (pc + 1)) = true from hc)
    rcases S with _ | ⟨v, S⟩
    · exact False.elim h
    rcases v with v | v | v
    · rcases S with _ | ⟨w, S⟩
      · exact False.elim h
      rcases w with w | w | w
      · have h : (a_KW p l e R s m args below meth c D cA cL ad lv nS xs nL kc ks Q) (pc + 1) L (.inl (w - v) :: S) M := h
        refine lv_isub hx hb hd ?_
        exact h H locs ls hP hS hLR hoL (List.forall_mem_cons.mpr ⟨trivial, (List.forall_mem_cons.mp (List.forall_mem_cons.mp hoS).2).2⟩) hsc
      · exact False.elim h
      · exact False.elim h
    · exact False.elim h
    · exact False.elim h
  | imul =>
    obtain ⟨rfl, rfl⟩ := a_len3 (show (Nat.beq len 1 && Nat.beq nx (pc + 1)) = true from hc)
    rcases S with _ | ⟨v, S⟩
    · exact False.elim h
    rcases v with v | v | v
    · rcases S with _ | ⟨w, S⟩
      · exact False.elim h
      rcases w with w | w | w
      · have h : (a_KW p l e R s m args below meth c D cA cL ad lv nS xs nL kc ks Q) (pc + 1) L (.inl (w * v) :: S) M := h
        refine lv_imul hx hb hd ?_
        exact h H locs ls hP hS hLR hoL (List.forall_mem_cons.mpr ⟨trivial, (List.forall_mem_cons.mp (List.forall_mem_cons.mp hoS).2).2⟩) hsc
      · exact False.elim h
      · exact False.elim h
    · exact False.elim h
    · exact False.elim h
  | iand =>
    obtain ⟨rfl, rfl⟩ := a_len3 (show (Nat.beq len 1 && Nat.beq nx (pc + 1)) = true from hc)
    rcases S with _ | ⟨v, S⟩
    · exact False.elim h
    rcases v with v | v | v
    · rcases S with _ | ⟨w, S⟩
      · exact False.elim h
      rcases w with w | w | w
      · have h : (a_KW p l e R s m args below meth c D cA cL ad lv nS xs nL kc ks Q) (pc + 1) L (.inl (w &&& v) :: S) M := h
        refine lv_iand hx hb hd ?_
        exact h H locs ls hP hS hLR hoL (List.forall_mem_cons.mpr ⟨trivial, (List.forall_mem_cons.mp (List.forall_mem_cons.mp hoS).2).2⟩) hsc
      · exact False.elim h
      · exact False.elim h
    · exact False.elim h
    · exact False.elim h
  | ior =>
    obtain ⟨rfl, rfl⟩ := a_len3 (show (Nat.beq len 1 && Nat.beq nx (pc + 1)) = true from hc)
    rcases S with _ | ⟨v, S⟩
    · exact False.elim h
    rcases v with v | v | v
    · rcases S with _ | ⟨w, S⟩
      · exact False.elim h
      rcases w with w | w | w
      · have h : (a_KW p l e R s m args below meth c D cA cL ad lv nS xs nL kc ks Q) (pc + 1) L (.inl (w ||| v) :: S) M := h
        refine lv_ior hx hb hd ?_
        exact h H locs ls hP hS hLR hoL (List.forall_mem_cons.mpr ⟨trivial, (List.forall_mem_cons.mp (List.forall_mem_cons.mp hoS).2).2⟩) hsc
      · exact False.elim h
      · exact False.elim h
    · exact False.elim h
    · exact False.elim h
  | ixor =>
    obtain ⟨rfl, rfl⟩ := a_len3 (show (Nat.beq len 1 && Nat.beq nx (pc + 1)) = true from hc)
    rcases S with _ | ⟨v, S⟩
    · exact False.elim h
    rcases v with v | v | v
    · rcases S with _ | ⟨w, S⟩
      · exact False.elim h
      rcases w with w | w | w
      · have h : (a_KW p l e R s m args below meth c D cA cL ad lv nS xs nL kc ks Q) (pc + 1) L (.inl (w ^^^ v) :: S) M := h
        refine lv_ixor hx hb hd ?_
        exact h H locs ls hP hS hLR hoL (List.forall_mem_cons.mpr ⟨trivial, (List.forall_mem_cons.mp (List.forall_mem_cons.mp hoS).2).2⟩) hsc
      · exact False.elim h
      · exact False.elim h
    · exact False.elim h
    · exact False.elim h
  | ishl =>
    obtain ⟨rfl, rfl⟩ := a_len3 (show (Nat.beq len 1 && Nat.beq nx (pc + 1)) = true from hc)
    rcases S with _ | ⟨v, S⟩
    · exact False.elim h
    rcases v with v | v | v
    · rcases S with _ | ⟨w, S⟩
      · exact False.elim h
      rcases w with w | w | w
      · have h : (a_KW p l e R s m args below meth c D cA cL ad lv nS xs nL kc ks Q) (pc + 1) L (.inl (w <<< (v &&& 31)) :: S) M := h
        refine lv_ishl hx hb hd ?_
        exact h H locs ls hP hS hLR hoL (List.forall_mem_cons.mpr ⟨trivial, (List.forall_mem_cons.mp (List.forall_mem_cons.mp hoS).2).2⟩) hsc
      · exact False.elim h
      · exact False.elim h
    · exact False.elim h
    · exact False.elim h
  | ishr =>
    obtain ⟨rfl, rfl⟩ := a_len3 (show (Nat.beq len 1 && Nat.beq nx (pc + 1)) = true from hc)
    rcases S with _ | ⟨v, S⟩
    · exact False.elim h
    rcases v with v | v | v
    · rcases S with _ | ⟨w, S⟩
      · exact False.elim h
      rcases w with w | w | w
      · have h : (a_KW p l e R s m args below meth c D cA cL ad lv nS xs nL kc ks Q) (pc + 1) L (.inl (w >>> (v &&& 31)) :: S) M := h
        refine lv_ishr hx hb hd ?_
        exact h H locs ls hP hS hLR hoL (List.forall_mem_cons.mpr ⟨trivial, (List.forall_mem_cons.mp (List.forall_mem_cons.mp hoS).2).2⟩) hsc
      · exact False.elim h
      · exact False.elim h
    · exact False.elim h
    · exact False.elim h
  | iushr =>
    obtain ⟨rfl, rfl⟩ := a_len3 (show (Nat.beq len 1 && Nat.beq nx (pc + 1)) = true from hc)
    rcases S with _ | ⟨v, S⟩
    · exact False.elim h
    rcases v with v | v | v
    · rcases S with _ | ⟨w, S⟩
      · exact False.elim h
      rcases w with w | w | w
      · have h : (a_KW p l e R s m args below meth c D cA cL ad lv nS xs nL kc ks Q) (pc + 1) L (.inl ((w.toUInt32 >>> (v.toUInt32 &&& Int32.toUInt32 31)).toInt32) :: S) M := h
        refine lv_iushr hx hb hd rfl ?_
        exact h H locs ls hP hS hLR hoL (List.forall_mem_cons.mpr ⟨trivial, (List.forall_mem_cons.mp (List.forall_mem_cons.mp hoS).2).2⟩) hsc
      · exact False.elim h
      · exact False.elim h
    · exact False.elim h
    · exact False.elim h
  | idiv =>
    obtain ⟨rfl, rfl⟩ := a_len3 (show (Nat.beq len 1 && Nat.beq nx (pc + 1)) = true from hc)
    rcases S with _ | ⟨v, S⟩
    · exact False.elim h
    rcases v with v | v | v
    · rcases S with _ | ⟨w, S⟩
      · exact False.elim h
      rcases w with w | w | w
      · have h : ¬ v = 0 ∧ (a_KW p l e R s m args below meth c D cA cL ad lv nS xs nL kc ks Q) (pc + 1) L (.inl (w / v) :: S) M := h
        refine lv_idiv hx hb hd h.1 ?_
        exact h.2 H locs ls hP hS hLR hoL (List.forall_mem_cons.mpr ⟨trivial, (List.forall_mem_cons.mp (List.forall_mem_cons.mp hoS).2).2⟩) hsc
      · exact False.elim h
      · exact False.elim h
    · exact False.elim h
    · exact False.elim h
  | irem =>
    obtain ⟨rfl, rfl⟩ := a_len3 (show (Nat.beq len 1 && Nat.beq nx (pc + 1)) = true from hc)
    rcases S with _ | ⟨v, S⟩
    · exact False.elim h
    rcases v with v | v | v
    · rcases S with _ | ⟨w, S⟩
      · exact False.elim h
      rcases w with w | w | w
      · have h : ¬ v = 0 ∧ (a_KW p l e R s m args below meth c D cA cL ad lv nS xs nL kc ks Q) (pc + 1) L (.inl (w - w / v * v) :: S) M := h
        refine lv_irem hx hb hd h.1 ?_
        exact h.2 H locs ls hP hS hLR hoL (List.forall_mem_cons.mpr ⟨trivial, (List.forall_mem_cons.mp (List.forall_mem_cons.mp hoS).2).2⟩) hsc
      · exact False.elim h
      · exact False.elim h
    · exact False.elim h
    · exact False.elim h
  | ineg =>
    obtain ⟨rfl, rfl⟩ := a_len3 (show (Nat.beq len 1 && Nat.beq nx (pc + 1)) = true from hc)
    rcases S with _ | ⟨v, S⟩
    · exact False.elim h
    rcases v with v | v | v
    · have h : (a_KW p l e R s m args below meth c D cA cL ad lv nS xs nL kc ks Q) (pc + 1) L (.inl (-v) :: S) M := h
      refine lv_ineg hx hb hd ?_
      exact h H locs ls hP hS hLR hoL (List.forall_mem_cons.mpr ⟨trivial, (List.forall_mem_cons.mp hoS).2⟩) hsc
    · exact False.elim h
    · exact False.elim h
  | i2l =>
    obtain ⟨rfl, rfl⟩ := a_len3 (show (Nat.beq len 1 && Nat.beq nx (pc + 1)) = true from hc)
    rcases S with _ | ⟨v, S⟩
    · exact False.elim h
    rcases v with v | v | v
    · have h : (a_KW p l e R s m args below meth c D cA cL ad lv nS xs nL kc ks Q) (pc + 1) L (vL v.toInt64 :: S) M := h
      refine lv_i2l hx hb hd rfl ?_
      exact h H locs ls hP hS hLR hoL (List.forall_mem_cons.mpr ⟨trivial, (List.forall_mem_cons.mp hoS).2⟩) hsc
    · exact False.elim h
    · exact False.elim h
  | ladd =>
    obtain ⟨rfl, rfl⟩ := a_len3 (show (Nat.beq len 1 && Nat.beq nx (pc + 1)) = true from hc)
    rcases S with _ | ⟨v, S⟩
    · exact False.elim h
    rcases v with v | v | v
    · exact False.elim h
    · rcases S with _ | ⟨w, S⟩
      · exact False.elim h
      rcases w with w | w | w
      · exact False.elim h
      · have h : (a_KW p l e R s m args below meth c D cA cL ad lv nS xs nL kc ks Q) (pc + 1) L (vL (w + v) :: S) M := h
        refine lv_ladd hx hb hd ?_
        exact h H locs ls hP hS hLR hoL (List.forall_mem_cons.mpr ⟨trivial, (List.forall_mem_cons.mp (List.forall_mem_cons.mp hoS).2).2⟩) hsc
      · exact False.elim h
    · exact False.elim h
  | lcmp =>
    obtain ⟨rfl, rfl⟩ := a_len3 (show (Nat.beq len 1 && Nat.beq nx (pc + 1)) = true from hc)
    rcases S with _ | ⟨v, S⟩
    · exact False.elim h
    rcases v with v | v | v
    · exact False.elim h
    · rcases S with _ | ⟨w, S⟩
      · exact False.elim h
      rcases w with w | w | w
      · exact False.elim h
      · have h : (a_KW p l e R s m args below meth c D cA cL ad lv nS xs nL kc ks Q) (pc + 1) L (vI (lg_cmp w v) :: S) M := h
        refine W.lcmp hx hb hd ?_
        exact h H locs ls hP hS hLR hoL (List.forall_mem_cons.mpr ⟨trivial, (List.forall_mem_cons.mp (List.forall_mem_cons.mp hoS).2).2⟩) hsc
      · exact False.elim h
    · exact False.elim h
  | lmul =>
    obtain ⟨rfl, rfl⟩ := a_len3 (show (Nat.beq len 1 && Nat.beq nx (pc + 1)) = true from hc)
    rcases S with _ | ⟨v, S⟩
    · exact False.elim h
    rcases v with v | v | v
    · exact False.elim h
    · rcases S with _ | ⟨w, S⟩
      · exact False.elim h
      rcases w with w | w | w
      · exact False.elim h
      · have h : (a_KW p l e R s m args below meth c D cA cL ad lv nS xs nL kc ks Q) (pc + 1) L (vL (w * v) :: S) M := h
        refine lv_lmul hx hb hd ?_
        exact h H locs ls hP hS hLR hoL (List.forall_mem_cons.mpr ⟨trivial, (List.forall_mem_cons.mp (List.forall_mem_cons.mp hoS).2).2⟩) hsc
      · exact False.elim h
    · exact False.elim h
  | pop =>
    obtain ⟨rfl, rfl⟩ := a_len3 (show (Nat.beq len 1 && Nat.beq nx (pc + 1)) = true from hc)
    rcases S with _ | ⟨v, S⟩
    · exact False.elim h
    have hoS2 := List.forall_mem_cons.mp hoS
    rcases v with v | v | v
    · have h : (a_KW p l e R s m args below meth c D cA cL ad lv nS xs nL kc ks Q) (pc + 1) L S M := h
      exact lv_pop hx hb hd rfl (h H locs ls hP hS hLR hoL hoS2.2 hsc)
    · exact False.elim h
    · have h : (a_KW p l e R s m args below meth c D cA cL ad lv nS xs nL kc ks Q) (pc + 1) L S M := h
      exact lv_pop hx hb hd rfl (h H locs ls hP hS hLR hoL hoS2.2 hsc)
  | pop2 =>
    obtain ⟨rfl, rfl⟩ := a_len3 (show (Nat.beq len 1 && Nat.beq nx (pc + 1)) = true from hc)
    rcases S with _ | ⟨v, S⟩
    · exact False.elim h
    have hoS2 := List.forall_mem_cons.mp hoS
    rcases v with v | v | v
    · exact False.elim h
    · have h : (a_KW p l e R s m args below meth c D cA cL ad lv nS xs nL kc ks Q) (pc + 1) L S M := h
      exact lv_pop2_2 hx hb hd rfl (h H locs ls hP hS hLR hoL hoS2.2 hsc)
    · exact False.elim h
  | dup =>
    obtain ⟨rfl, rfl⟩ := a_len3 (show (Nat.beq len 1 && Nat.beq nx (pc + 1)) = true from hc)
    rcases S with _ | ⟨v, S⟩
    · exact False.elim h
    have hoS2 := List.forall_mem_cons.mp hoS
    rcases v with v | v | v
    · have h : (a_KW p l e R s m args below meth c D cA cL ad lv nS xs nL kc ks Q) (pc + 1) L (.inl v :: .inl v :: S) M := h
      exact lv_dup hx hb hd rfl (h H locs ls hP hS hLR hoL (List.forall_mem_cons.mpr ⟨hoS2.1, hoS⟩) hsc)
    · exact False.elim h
    · have h : (a_KW p l e R s m args below meth c D cA cL ad lv nS xs nL kc ks Q) (pc + 1) L (.inr (.inr v) :: .inr (.inr v) :: S) M := h
      exact lv_dup hx hb hd rfl (h H locs ls hP hS hLR hoL (List.forall_mem_cons.mpr ⟨hoS2.1, hoS⟩) hsc)
  | dup2 =>
    obtain ⟨rfl, rfl⟩ := a_len3 (show (Nat.beq len 1 && Nat.beq nx (pc + 1)) = true from hc)
    rcases S with _ | ⟨v, S⟩
    · exact False.elim h
    have hoS2 := List.forall_mem_cons.mp hoS
    rcases v with v | v | v
    · rcases S with _ | ⟨w, S⟩
      · exact False.elim h
      rcases w with w | w | w
      · exact False.elim h
      · exact False.elim h
      · have h : (a_KW p l e R s m args below meth c D cA cL ad lv nS xs nL kc ks Q) (pc + 1) L (.inl v :: .inr (.inr w) :: .inl v :: .inr (.inr w) :: S) M := h
        exact lv_dup2_11 hx hb hd rfl rfl (h H locs ls hP hS hLR hoL (List.forall_mem_cons.mpr ⟨hoS2.1, List.forall_mem_cons.mpr ⟨(List.forall_mem_cons.mp hoS2.2).1, hoS⟩⟩) hsc)
    · exact False.elim h
    · exact False.elim h
  | goto off =>
    have hc : ((Nat.beq len 3 && Nat.beq nx (pc + 3)) && decide ((pc : Int) + off = (x : Int))) = true := hc
    rw [Bool.and_eq_true, decide_eq_true_eq] at hc
    obtain ⟨h12, h3⟩ := hc
    obtain ⟨rfl, rfl⟩ := a_len3 h12
    have h : (a_KW p l e R s m args below meth c D cA cL ad lv nS xs nL kc ks Q) x L S M := h
    exact lv_goto hx hb hd h3 (h H locs ls hP hS hLR hoL hoS hsc)
  | ifCond cnd off =>
    have hc : ((Nat.beq len 3 && Nat.beq nx (pc + 3)) && decide ((pc : Int) + off = (x : Int))) = true := hc
    rw [Bool.and_eq_true, decide_eq_true_eq] at hc
    obtain ⟨h12, h3⟩ := hc
    obtain ⟨rfl, rfl⟩ := a_len3 h12
    rcases S with _ | ⟨v, S⟩
    · exact False.elim h
    have hoS2 := List.forall_mem_cons.mp hoS
    rcases v with v | v | v
    · cases cnd with
      | eq =>
        have h : (v = 0 → (a_KW p l e R s m args below meth c D cA cL ad lv nS xs nL kc ks Q) x L S M) ∧ (¬ v = 0 → (a_KW p l e R s m args below meth c D cA cL ad lv nS xs nL kc ks Q) (pc + 3) L S M) := h
        exact lv_if_eq hx hb hd h3 (fun z => h.1 z H locs ls hP hS hLR hoL hoS2.2 hsc) (fun z => h.2 z H locs ls hP hS hLR hoL hoS2.2 hsc)
      | ne =>
        have h : (¬ v = 0 → (a_KW p l e R s m args below meth c D cA cL ad lv nS xs nL kc ks Q) x L S M) ∧ (v = 0 → (a_KW p l e R s m args below meth c D cA cL ad lv nS xs nL kc ks Q) (pc + 3) L S M) := h
        exact lv_if_ne hx hb hd h3 (fun z => h.1 z H locs ls hP hS hLR hoL hoS2.2 hsc) (fun z => h.2 z H locs ls hP hS hLR hoL hoS2.2 hsc)
      | lt =>
        have h : (v < 0 → (a_KW p l e R s m args below meth c D cA cL ad lv nS xs nL kc ks Q) x L S M) ∧ (¬ v < 0 → (a_KW p l e R s m args below meth c D cA cL ad lv nS xs nL kc ks Q) (pc + 3) L S M) := h
        exact lv_if_lt hx hb hd h3 (fun z => h.1 z H locs ls hP hS hLR hoL hoS2.2 hsc) (fun z => h.2 z H locs ls hP hS hLR hoL hoS2.2 hsc)
      | ge =>
        have h : (0 ≤ v → (a_KW p l e R s m args below meth c D cA cL ad lv nS xs nL kc ks Q) x L S M) ∧ (¬ 0 ≤ v → (a_KW p l e R s m args below meth c D cA cL ad lv nS xs nL kc ks Q) (pc + 3) L S M) := h
        exact lv_if_ge hx hb hd h3 (fun z => h.1 z H locs ls hP hS hLR hoL hoS2.2 hsc) (fun z => h.2 z H locs ls hP hS hLR hoL hoS2.2 hsc)
      | gt =>
        have h : (0 < v → (a_KW p l e R s m args below meth c D cA cL ad lv nS xs nL kc ks Q) x L S M) ∧ (¬ 0 < v → (a_KW p l e R s m args below meth c D cA cL ad lv nS xs nL kc ks Q) (pc + 3) L S M) := h
        exact lv_if_gt hx hb hd h3 (fun z => h.1 z H locs ls hP hS hLR hoL hoS2.2 hsc) (fun z => h.2 z H locs ls hP hS hLR hoL hoS2.2 hsc)
      | le =>
        have h : (v ≤ 0 → (a_KW p l e R s m args below meth c D cA cL ad lv nS xs nL kc ks Q) x L S M) ∧ (¬ v ≤ 0 → (a_KW p l e R s m args below meth c D cA cL ad lv nS xs nL kc ks Q) (pc + 3) L S M) := h
        exact lv_if_le hx hb hd h3 (fun z => h.1 z H locs ls hP hS hLR hoL hoS2.2 hsc) (fun z => h.2 z H locs ls hP hS hLR hoL hoS2.2 hsc)
    · exact False.elim h
    · exact False.elim h
  | if_icmp cnd off =>
    have hc : ((Nat.beq len 3 && Nat.beq nx (pc + 3)) && decide ((pc : Int) + off = (x : Int))) = true := hc
    rw [Bool.and_eq_true, decide_eq_true_eq] at hc
    obtain ⟨h12, h3⟩ := hc
    obtain ⟨rfl, rfl⟩ := a_len3 h12
    rcases S with _ | ⟨v, S⟩
    · exact False.elim h
    have hoS2 := List.forall_mem_cons.mp hoS
    rcases v with v | v | v
    · rcases S with _ | ⟨w, S⟩
      · exact False.elim h
      have hoS3 := (List.forall_mem_cons.mp hoS2.2).2
      rcases w with w | w | w
      · cases cnd with
        | eq =>
          have h : (w = v → (a_KW p l e R s m args below meth c D cA cL ad lv nS xs nL kc ks Q) x L S M) ∧ (¬ w = v → (a_KW p l e R s m args below meth c D cA cL ad lv nS xs nL kc ks Q) (pc + 3) L S M) := h
          exact lv_icmp_eq hx hb hd h3 (fun z => h.1 z H locs ls hP hS hLR hoL hoS3 hsc) (fun z => h.2 z H locs ls hP hS hLR hoL hoS3 hsc)
        | ne =>
          have h : (¬ w = v → (a_KW p l e R s m args below meth c D cA cL ad lv nS xs nL kc ks Q) x L S M) ∧ (w = v → (a_KW p l e R s m args below meth c D cA cL ad lv nS xs nL kc ks Q) (pc + 3) L S M) := h
          exact lv_icmp_ne hx hb hd h3 (fun z => h.1 z H locs ls hP hS hLR hoL hoS3 hsc) (fun z => h.2 z H locs ls hP hS hLR hoL hoS3 hsc)
        | lt =>
          have h : (w < v → (a_KW p l e R s m args below meth c D cA cL ad lv nS xs nL kc ks Q) x L S M) ∧ (¬ w < v → (a_KW p l e R s m args below meth c D cA cL ad lv nS xs nL kc ks Q) (pc + 3) L S M) := h
          exact lv_icmp_lt hx hb hd h3 (fun z => h.1 z H locs ls hP hS hLR hoL hoS3 hsc) (fun z => h.2 z H locs ls hP hS hLR hoL hoS3 hsc)
        | ge =>
          have h : (v ≤ w → (a_KW p l e R s m args below meth c D cA cL ad lv nS xs nL kc ks Q) x L S M) ∧ (¬ v ≤ w → (a_KW p l e R s m args below meth c D cA cL ad lv nS xs nL kc ks Q) (pc + 3) L S M) := h
          exact lv_icmp_ge hx hb hd h3 (fun z => h.1 z H locs ls hP hS hLR hoL hoS3 hsc) (fun z => h.2 z H locs ls hP hS hLR hoL hoS3 hsc)
        | gt =>
          have h : (v < w → (a_KW p l e R s m args below meth c D cA cL ad lv nS xs nL kc ks Q) x L S M) ∧ (¬ v < w → (a_KW p l e R s m args below meth c D cA cL ad lv nS xs nL kc ks Q) (pc + 3) L S M) := h
          exact lv_icmp_gt hx hb hd h3 (fun z => h.1 z H locs ls hP hS hLR hoL hoS3 hsc) (fun z => h.2 z H locs ls hP hS hLR hoL hoS3 hsc)
        | le =>
          have h : (w ≤ v → (a_KW p l e R s m args below meth c D cA cL ad lv nS xs nL kc ks Q) x L S M) ∧ (¬ w ≤ v → (a_KW p l e R s m args below meth c D cA cL ad lv nS xs nL kc ks Q) (pc + 3) L S M) := h
          exact lv_icmp_le hx hb hd h3 (fun z => h.1 z H locs ls hP hS hLR hoL hoS3 hsc) (fun z => h.2 z H locs ls hP hS hLR hoL hoS3 hsc)
      · exact False.elim h
      · exact False.elim h
    · exact False.elim h
    · exact False.elim h
  | tableswitch dflt lo hi offs =>
    have hc : ((((decide (lo = 0) && decide (hi + 1 = (t.length : Int))) && Nat.blt t.length 1000) && decide ((pc : Int) + dflt = (x : Int))) && decide (offs.toList.map (fun o => (pc : Int) + o) = t.map Int.ofNat)) = true := hc
    simp only [Bool.and_eq_true, decide_eq_true_eq] at hc
    obtain ⟨⟨⟨⟨rfl, h2⟩, h3⟩, h4⟩, h5⟩ := hc
    have h3 := Nat.le_of_ble_eq_true h3
    rcases S with _ | ⟨v, S⟩
    · exact False.elim h
    have hoS2 := List.forall_mem_cons.mp hoS
    rcases v with v | v | v
    · have h : a_swc (fun q => (a_KW p l e R s m args below meth c D cA cL ad lv nS xs nL kc ks Q) q L S M) v 0 t ∧ ((∀ n : Nat, n < t.length → ¬ v = Int32.ofNat n) → (a_KW p l e R s m args below meth c D cA cL ad lv nS xs nL kc ks Q) x L S M) := h
      have hlen : offs.size = t.length := by
        have := congrArg List.length h5
        simpa using this
      by_cases hlo : v.toInt < 0
      · refine lv_tableOut hx hb hd (Or.inl hlo) h4 ?_
        refine h.2 (fun n hn z => ?_) H locs ls hP hS hLR hoL hoS2.2 hsc
        rw [z] at hlo
        have := nI_toInt (n := n) (by omega)
        unfold nI at this
        omega
      · by_cases hhi : hi < v.toInt
        · refine lv_tableOut hx hb hd (Or.inr hhi) h4 ?_
          refine h.2 (fun n hn z => ?_) H locs ls hP hS hLR hoL hoS2.2 hsc
          rw [z] at hhi
          have := nI_toInt (n := n) (by omega)
          unfold nI at this
          omega
        · have hj : v.toInt.toNat < t.length := by omega
          have ho : offs[(v.toInt - 0).toNat]? = some offs[v.toInt.toNat] := by
            rw [Int.sub_zero]
            exact Array.getElem?_eq_getElem (by omega)
          have ht9 : t[v.toInt.toNat]? = some t[v.toInt.toNat] := List.getElem?_eq_getElem hj
          have e1 : (pc : Int) + offs[v.toInt.toNat] = ((t[v.toInt.toNat] : Nat) : Int) := by
            have h6 := congrArg (fun z => z[v.toInt.toNat]?) h5
            simp only [List.getElem?_map] at h6
            rw [ht9] at h6
            rw [Array.getElem?_toList] at h6
            rw [Array.getElem?_eq_getElem (by omega)] at h6
            simpa using h6
          refine lv_tableIn hx hb hd hlo hhi ho e1 ?_
          refine a_swc_at h.1 v.toInt.toNat _ ht9 ?_ H locs ls hP hS hLR hoL hoS2.2 hsc
          apply Int32.toInt_inj.mp
          have := nI_toInt (n := v.toInt.toNat) (by omega)
          unfold nI at this
          rw [Nat.zero_add, this]
          omega
    · exact False.elim h
    · exact False.elim h
  | getfield ix =>
    have hc : ((Nat.beq len 3 && Nat.beq nx (pc + 3)) && a_flT.any (fun q => Nat.beq q.1 own && (Nat.beq q.2.1 ix && (Nat.beq q.2.2.1 y && Nat.beq q.2.2.2.1 x)))) = true := hc
    rw [Bool.and_eq_true] at hc
    obtain ⟨h12, h3⟩ := hc
    obtain ⟨rfl, rfl⟩ := a_len3 h12
    obtain ⟨C, T, N, hcl, hxN, hlk⟩ := a_flk h3
    rcases S with _ | ⟨v, S⟩
    · exact False.elim h
    have hoS2 := List.forall_mem_cons.mp hoS
    rcases v with v | v | v
    · exact False.elim h
    · exact False.elim h
    obtain ⟨k, j⟩ := v
    unfold a_w1 at h
    dsimp only at h
    rcases hsh : a_shp k with _ | ⟨ci, fl⟩ | ⟨bb, n⟩
    · rw [hsh] at h; exact False.elim h
    · rw [hsh] at h
      dsimp only at h
      have hlv := a_shp_lv hoS2.1 hsh
      cases hy : Nat.beq ci y with
      | false => rw [hy] at h; exact False.elim h
      | true =>
        rw [hy] at h
        simp only [cond_true] at h
        cases Nat.eq_of_beq_eq_true hy
        obtain ⟨q0, hq0, hq1⟩ := a_ws_at (cA := cA) (cL := cL) (ad := ad) (M := M) hlv
        have hce : a_cell cA cL ad M k j = .inr (y, a_fs ad (M.1 k j) j fl) := by unfold a_cell; rw [hsh]
        rw [show a_cell cA cL ad M (k, j).1 (k, j).2 = a_cell cA cL ad M k j from rfl, hce] at hq1
        rcases hfl : fl[x]? with _ | _ | ⟨k', o⟩
        · rw [hfl] at h; exact False.elim h
        · rw [hfl] at h
          have h : (a_KW p l e R s m args below meth c D cA cL ad lv nS xs nL kc ks Q) (pc + 3) L (.inl (M.1 k j x) :: S) M := h
          refine va_get (ref := (T x).1) (v := .int (M.1 k j x)) hx hb hts (a_cls_ok hcl).1 hown hK hP q0 hq1 hcl x hxN (hts _ hlk) (fun _ z => z) (by rw [a_fs_at hfl]; rfl) hd ?_
          exact h H locs ls hP hS hLR hoL (List.forall_mem_cons.mpr ⟨trivial, hoS2.2⟩) hsc
        · rw [hfl] at h
          have hcl9 := hclo _ hlv y fl hsh x k' o hfl
          cases o with
          | none =>
            have h : (a_KW p l e R s m args below meth c D cA cL ad lv nS xs nL kc ks Q) (pc + 3) L (vR k' j :: S) M := h
            refine va_get (ref := (T x).1) (v := .ref (ad k' j)) hx hb hts (a_cls_ok hcl).1 hown hK hP q0 hq1 hcl x hxN (hts _ hlk) (fun _ z => z) (by rw [a_fs_at hfl]; rfl) hd ?_
            exact h H locs ls hP hS hLR hoL (List.forall_mem_cons.mpr ⟨Or.inl hcl9, hoS2.2⟩) hsc
          | some j' =>
            have h : (a_KW p l e R s m args below meth c D cA cL ad lv nS xs nL kc ks Q) (pc + 3) L (vR k' j' :: S) M := h
            refine va_get (ref := (T x).1) (v := .ref (ad k' j')) hx hb hts (a_cls_ok hcl).1 hown hK hP q0 hq1 hcl x hxN (hts _ hlk) (fun _ z => z) (by rw [a_fs_at hfl]; rfl) hd ?_
            exact h H locs ls hP hS hLR hoL (List.forall_mem_cons.mpr ⟨Or.inl hcl9, hoS2.2⟩) hsc
    · rw [hsh] at h
      cases bb <;> exact False.elim h
  | putfield ix =>
    have hc : (((Nat.beq len 3 && Nat.beq nx (pc + 3)) && a_flT.any (fun q => Nat.beq q.1 own && (Nat.beq q.2.1 ix && (Nat.beq q.2.2.1 y && Nat.beq q.2.2.2.1 x)))) && a_pfB y x t) = true := hc
    rw [Bool.and_eq_true, Bool.and_eq_true] at hc
    obtain ⟨⟨h12, h3⟩, h4⟩ := hc
    obtain ⟨rfl, rfl⟩ := a_len3 h12
    obtain ⟨C, T, N, hcl, hxN, hlk⟩ := a_flk h3
    unfold a_pfB at h4
    rw [hcl] at h4
    dsimp only at h4
    rw [Bool.and_eq_true] at h4
    obtain ⟨h5, h6⟩ := h4
    have hfin : (T x).2.2.2 = false := by simpa using h5
    obtain ⟨hin, hty, hnm⟩ := a_cls_ok hcl
    rcases S with _ | ⟨v, S⟩
    · exact False.elim h
    have hoS2 := List.forall_mem_cons.mp hoS
    rcases v with v | v | v
    · rcases S with _ | ⟨w, S⟩
      · exact False.elim h
      have hoS3 := List.forall_mem_cons.mp hoS2.2
      rcases w with w | w | w
      · exact False.elim h
      · exact False.elim h
      obtain ⟨k, j⟩ := w
      unfold a_w1 at h
      dsimp only at h
      rcases hsh : a_shp k with _ | ⟨ci, fl⟩ | ⟨bb, n⟩
      · rw [hsh] at h; exact False.elim h
      · rw [hsh] at h
        dsimp only at h
        have hlv := a_shp_lv hoS3.1 hsh
        have hk99 : k ≠ 99 := fun z => by rw [z, a_shp_big (by decide) (by decide)] at hsh; cases hsh
        cases hy : Nat.beq ci y with
        | false => rw [hy] at h; exact False.elim h
        | true =>
          rw [hy] at h
          simp only [cond_true] at h
          cases Nat.eq_of_beq_eq_true hy
          obtain ⟨q0, hq0, hq1⟩ := a_ws_at (cA := cA) (cL := cL) (ad := ad) (M := M) hlv
          have hce : a_cell cA cL ad M k j = .inr (y, a_fs ad (M.1 k j) j fl) := by unfold a_cell; rw [hsh]
          rw [show a_cell cA cL ad M (k, j).1 (k, j).2 = a_cell cA cL ad M k j from rfl, hce] at hq1
          rcases hfl : fl[x]? with _ | _ | z
          · rw [hfl] at h; exact False.elim h
          · rw [hfl] at h
            have hxl : x < (a_fs ad (M.1 k j) j fl).length := by
              have := (List.getElem?_eq_some_iff.mp hfl).1
              simpa [a_fs] using this
            have hce2 : a_cell cA cL ad (a_pI M k j x v) k j = .inr (y, (a_fs ad (M.1 k j) j fl).set x (.int v)) := by
              unfold a_cell; rw [hsh]
              show (Sum.inr (y, a_fs ad ((a_pI M k j x v).1 k j) j fl) : va_E) = _
              rw [a_pI_eq, a_fs_set hfl]
            have hset := a_ws_set (cA := cA) (cL := cL) (ad := ad) (M := M) (M' := a_pI M k j x v) hinj hq0 hce2 (fun r hr => a_cell_congr (a_pI_ne hr) rfl)
            have hsc2 : ∀ n : Nat, n < nS → (a_pI M k j x v).1 99 0 n = xs n := fun n hn => by
              show (if 99 = k ∧ 0 = j ∧ n = x then v else M.1 99 0 n) = xs n
              rw [if_neg (fun z => hk99 z.1.symm)]; exact hsc n hn
            have hgo : (a_KW p l e R s m args below meth c D cA cL ad lv nS xs nL kc ks Q) (pc + 3) L S (a_pI M k j x v) → ∀ (ty : FieldType), parseFieldDescriptor (T x).2.2.1 = some ty → narrow ty (.int v) = .int v → fits ty (.int v) = true → W p l e R s m args below meth c H locs kc ks Q (F0 m pc ls (.int v :: .ref (ad k j) :: S.map (a_tr ad))) := fun h ty hd1 hd2 hd3 => by
              refine va_put (ref := (T x).1) hx hb hts hin (fun k => (parseFieldDescriptor (T k).2.2.1).getD .int) (fun k hk => by obtain ⟨z, hz⟩ := hty k hk; rw [hz]; rfl) hnm hown hK hP hD hS q0 hq1 hcl x hxN (hts _ hlk) (fun _ z => z) hfin hd1 hd2 hd3 hxl hd (fun H1 locs1 hP1 hD1 hS1 => ?_)
              rw [hset] at hP1
              exact h H1 locs1 ls hP1 hS1 hLR hoL hoS3.2 hsc2
            cases t with
            | nil =>
              have h : (a_KW p l e R s m args below meth c D cA cL ad lv nS xs nL kc ks Q) (pc + 3) L S (a_pI M k j x v) := h
              have h6 : (T x).2.2.1 = "I" := by simpa using h6
              exact hgo h .int (by rw [h6]; decide +kernel) rfl rfl
            | cons t0 tr =>
              have h : (v = 0 ∨ v = 1) ∧ (a_KW p l e R s m args below meth c D cA cL ad lv nS xs nL kc ks Q) (pc + 3) L S (a_pI M k j x v) := h
              have h6 : (T x).2.2.1 = "Z" := by simpa using h6
              refine hgo h.2 .boolean (by rw [h6]; decide +kernel) ?_ ?_
              · rcases h.1 with e0 | e0 <;> rw [e0] <;> rfl
              · rcases h.1 with e0 | e0 <;> rw [e0] <;> rfl
          · rw [hfl] at h; exact False.elim h
      · rw [hsh] at h
        cases bb <;> exact False.elim h
    · exact False.elim h
    · exact False.elim h
  | iaload =>
    obtain ⟨rfl, rfl⟩ := a_len3 (show (Nat.beq len 1 && Nat.beq nx (pc + 1)) = true from hc)
    rcases S with _ | ⟨v, S⟩
    · exact False.elim h
    have hoS2 := List.forall_mem_cons.mp hoS
    rcases v with v | v | v
    · rcases S with _ | ⟨w, S⟩
      · exact False.elim h
      have hoS3 := List.forall_mem_cons.mp hoS2.2
      rcases w with w | w | w
      · exact False.elim h
      · exact False.elim h
      obtain ⟨k, j⟩ := w
      unfold a_w1 at h
      dsimp only at h
      rcases hsh : a_shp k with _ | ⟨ci, fl⟩ | ⟨bb, n⟩
      · rw [hsh] at h
        dsimp only at h
        cases hy : Nat.beq k 99 with
        | false => rw [hy] at h; exact False.elim h
        | true =>
          rw [hy] at h
          simp only [cond_true] at h
          cases Nat.eq_of_beq_eq_true hy
          obtain ⟨h1, h2⟩ := h
          have h2 : (a_KW p l e R s m args below meth c D cA cL ad lv nS xs nL kc ks Q) (pc + 1) L (.inl (M.1 99 0 v.toNatClampNeg) :: S) M := h2
          have hlt : v.toNatClampNeg < nS := Nat.not_le.mp fun q => h1 (Or.inr q)
          show W p l e R s m args below meth c H locs kc ks Q (F0 m pc ls (.int v :: .ref (ad 99 j) :: S.map (a_tr ad)))
          rw [hsci j]
          refine va_sld hx hb hscr hscl hscA hS h1 hd ?_
          rw [← hsc _ hlt]
          exact h2 H locs ls hP hS hLR hoL (List.forall_mem_cons.mpr ⟨trivial, hoS3.2⟩) hsc
      · rw [hsh] at h; exact False.elim h
      · rw [hsh] at h
        cases bb with
        | true => exact False.elim h
        | false =>
          have h : vp_in v n ∧ (a_KW p l e R s m args below meth c D cA cL ad lv nS xs nL kc ks Q) (pc + 1) L (.inl (M.1 k j v.toNatClampNeg) :: S) M := h
          have hlv := a_shp_lv hoS3.1 hsh
          obtain ⟨q0, hq0, hq1⟩ := a_ws_at (cA := cA) (cL := cL) (ad := ad) (M := M) hlv
          have hce : a_cell cA cL ad M k j = .inl (cA, n, .inl (M.1 k j)) := by unfold a_cell; rw [hsh]
          rw [show a_cell cA cL ad M (k, j).1 (k, j).2 = a_cell cA cL ad M k j from rfl, hce] at hq1
          refine va_iald hx hb hK hP q0 0 hq1 rfl h.1 hd ?_
          exact h.2 H locs ls hP hS hLR hoL (List.forall_mem_cons.mpr ⟨trivial, hoS3.2⟩) hsc
    · exact False.elim h
    · exact False.elim h
  | laload =>
    obtain ⟨rfl, rfl⟩ := a_len3 (show (Nat.beq len 1 && Nat.beq nx (pc + 1)) = true from hc)
    rcases S with _ | ⟨v, S⟩
    · exact False.elim h
    have hoS2 := List.forall_mem_cons.mp hoS
    rcases v with v | v | v
    · rcases S with _ | ⟨w, S⟩
      · exact False.elim h
      have hoS3 := List.forall_mem_cons.mp hoS2.2
      rcases w with w | w | w
      · exact False.elim h
      · exact False.elim h
      obtain ⟨k, j⟩ := w
      unfold a_w1 at h
      dsimp only at h
      rcases hsh : a_shp k with _ | ⟨ci, fl⟩ | ⟨bb, n⟩
      · rw [hsh] at h; exact False.elim h
      · rw [hsh] at h; exact False.elim h
      · rw [hsh] at h
        cases bb with
        | false => exact False.elim h
        | true =>
          have h : vp_in v n ∧ (a_KW p l e R s m args below meth c D cA cL ad lv nS xs nL kc ks Q) (pc + 1) L (vL (M.2 k j v.toNatClampNeg) :: S) M := h
          have hlv := a_shp_lv hoS3.1 hsh
          obtain ⟨q0, hq0, hq1⟩ := a_ws_at (cA := cA) (cL := cL) (ad := ad) (M := M) hlv
          have hce : a_cell cA cL ad M k j = .inl (cL, n, .inr (.inl (M.2 k j))) := by unfold a_cell; rw [hsh]
          rw [show a_cell cA cL ad M (k, j).1 (k, j).2 = a_cell cA cL ad M k j from rfl, hce] at hq1
          refine va_lald hx hb hK hP q0 1 hq1 rfl h.1 hd ?_
          exact h.2 H locs ls hP hS hLR hoL (List.forall_mem_cons.mpr ⟨trivial, hoS3.2⟩) hsc
    · exact False.elim h
    · exact False.elim h
  | iastore =>
    obtain ⟨rfl, rfl⟩ := a_len3 (show (Nat.beq len 1 && Nat.beq nx (pc + 1)) = true from hc)
    rcases S with _ | ⟨v, S⟩
    · exact False.elim h
    rcases v with v | v | v
    · have hoS2 := List.forall_mem_cons.mp hoS
      rcases S with _ | ⟨w, S⟩
      · exact False.elim h
      have hoS3 := List.forall_mem_cons.mp hoS2.2
      rcases w with w | w | w
      · rcases S with _ | ⟨z, S⟩
        · exact False.elim h
        have hoS4 := List.forall_mem_cons.mp hoS3.2
        rcases z with z | z | z
        · exact False.elim h
        · exact False.elim h
        obtain ⟨k, j⟩ := z
        unfold a_w1 at h
        dsimp only at h
        rcases hsh : a_shp k with _ | ⟨ci, fl⟩ | ⟨bb, n⟩
        · rw [hsh] at h; exact False.elim h
        · rw [hsh] at h; exact False.elim h
        · rw [hsh] at h
          cases bb with
          | true => exact False.elim h
          | false =>
            have h : vp_in w n ∧ (a_KW p l e R s m args below meth c D cA cL ad lv nS xs nL kc ks Q) (pc + 1) L S (a_pI M k j w.toNatClampNeg v) := h
            have hlv := a_shp_lv hoS4.1 hsh
            have hk99 : k ≠ 99 := fun z => by rw [z, a_shp_big (by decide) (by decide)] at hsh; cases hsh
            obtain ⟨q0, hq0, hq1⟩ := a_ws_at (cA := cA) (cL := cL) (ad := ad) (M := M) hlv
            have hce : a_cell cA cL ad M k j = .inl (cA, n, .inl (M.1 k j)) := by unfold a_cell; rw [hsh]
            rw [show a_cell cA cL ad M (k, j).1 (k, j).2 = a_cell cA cL ad M k j from rfl, hce] at hq1
            have hce2 : a_cell cA cL ad (a_pI M k j w.toNatClampNeg v) k j = .inl (cA, n, .inl (upd (M.1 k j) w.toNatClampNeg v)) := by
              unfold a_cell; rw [hsh]
              dsimp only
              rw [a_pI_eq]
            have hset := a_ws_set (cA := cA) (cL := cL) (ad := ad) (M := M) (M' := a_pI M k j w.toNatClampNeg v) hinj hq0 hce2 (fun r hr => a_cell_congr (a_pI_ne hr) rfl)
            refine va_iast hx hb hK hP hD hS q0 0 hq1 rfl h.1 hd (fun H1 locs1 hP1 hD1 hS1 => ?_)
            rw [hset] at hP1
            exact h.2 H1 locs1 ls hP1 hS1 hLR hoL hoS4.2 (fun n9 hn9 => by show (if 99 = k ∧ 0 = j ∧ n9 = w.toNatClampNeg then v else M.1 99 0 n9) = xs n9; rw [if_neg (fun z => hk99 z.1.symm)]; exact hsc n9 hn9)
      · exact False.elim h
      · exact False.elim h
    · exact False.elim h
    · exact False.elim h
  | lastore =>
    obtain ⟨rfl, rfl⟩ := a_len3 (show (Nat.beq len 1 && Nat.beq nx (pc + 1)) = true from hc)
    rcases S with _ | ⟨v, S⟩
    · exact False.elim h
    rcases v with v | v | v
    · exact False.elim h
    · have hoS2 := List.forall_mem_cons.mp hoS
      rcases S with _ | ⟨w, S⟩
      · exact False.elim h
      have hoS3 := List.forall_mem_cons.mp hoS2.2
      rcases w with w | w | w
      · rcases S with _ | ⟨z, S⟩
        · exact False.elim h
        have hoS4 := List.forall_mem_cons.mp hoS3.2
        rcases z with z | z | z
        · exact False.elim h
        · exact False.elim h
        obtain ⟨k, j⟩ := z
        unfold a_w1 at h
        dsimp only at h
        rcases hsh : a_shp k with _ | ⟨ci, fl⟩ | ⟨bb, n⟩
        · rw [hsh] at h; exact False.elim h
        · rw [hsh] at h; exact False.elim h
        · rw [hsh] at h
          cases bb with
          | false => exact False.elim h
          | true =>
            have h : vp_in w n ∧ (a_KW p l e R s m args below meth c D cA cL ad lv nS xs nL kc ks Q) (pc + 1) L S (a_pL M k j w.toNatClampNeg v) := h
            have hlv := a_shp_lv hoS4.1 hsh
            have hk99 : k ≠ 99 := fun z => by rw [z, a_shp_big (by decide) (by decide)] at hsh; cases hsh
            obtain ⟨q0, hq0, hq1⟩ := a_ws_at (cA := cA) (cL := cL) (ad := ad) (M := M) hlv
            have hce : a_cell cA cL ad M k j = .inl (cL, n, .inr (.inl (M.2 k j))) := by unfold a_cell; rw [hsh]
            rw [show a_cell cA cL ad M (k, j).1 (k, j).2 = a_cell cA cL ad M k j from rfl, hce] at hq1
            have hce2 : a_cell cA cL ad (a_pL M k j w.toNatClampNeg v) k j = .inl (cL, n, .inr (.inl (vp_updL (M.2 k j) w.toNatClampNeg v))) := by
              unfold a_cell; rw [hsh]
              dsimp only
              rw [a_pL_eq]
            have hset := a_ws_set (cA := cA) (cL := cL) (ad := ad) (M := M) (M' := a_pL M k j w.toNatClampNeg v) hinj hq0 hce2 (fun r hr => a_cell_congr rfl (a_pL_ne hr))
            refine va_last hx hb hK hP hD hS q0 1 hq1 rfl h.1 hd (fun H1 locs1 hP1 hD1 hS1 => ?_)
            rw [hset] at hP1
            exact h.2 H1 locs1 ls hP1 hS1 hLR hoL hoS4.2 hsc
      · exact False.elim h
      · exact False.elim h
    · exact False.elim h
  | arraylength =>
    obtain ⟨rfl, rfl⟩ := a_len3 (show (Nat.beq len 1 && Nat.beq nx (pc + 1)) = true from hc)
    rcases S with _ | ⟨v, S⟩
    · exact False.elim h
    have hoS2 := List.forall_mem_cons.mp hoS
    rcases v with v | v | v
    · exact False.elim h
    · exact False.elim h
    obtain ⟨k, j⟩ := v
    unfold a_w1 at h
    dsimp only at h
    rcases hsh : a_shp k with _ | ⟨ci, fl⟩ | ⟨bb, n⟩
    · rw [hsh] at h
      dsimp only at h
      cases hy : Nat.beq k 99 with
      | false => rw [hy] at h; exact False.elim h
      | true =>
        rw [hy] at h
        simp only [cond_true] at h
        cases Nat.eq_of_beq_eq_true hy
        have h : (a_KW p l e R s m args below meth c D cA cL ad lv nS xs nL kc ks Q) (pc + 1) L (.inl (Int32.ofNat nS) :: S) M := h
        show W p l e R s m args below meth c H locs kc ks Q (F0 m pc ls (.ref (ad 99 j) :: S.map (a_tr ad)))
        rw [hsci j]
        refine va_slen hx hb hscr hscl hscA hS hd ?_
        exact h H locs ls hP hS hLR hoL (List.forall_mem_cons.mpr ⟨trivial, hoS2.2⟩) hsc
    · rw [hsh] at h; exact False.elim h
    · rw [hsh] at h
      have h : (a_KW p l e R s m args below meth c D cA cL ad lv nS xs nL kc ks Q) (pc + 1) L (.inl (Int32.ofNat n) :: S) M := h
      have hlv := a_shp_lv hoS2.1 hsh
      obtain ⟨q0, hq0, hq1⟩ := a_ws_at (cA := cA) (cL := cL) (ad := ad) (M := M) hlv
      cases bb with
      | false =>
        have hce : a_cell cA cL ad M k j = .inl (cA, n, .inl (M.1 k j)) := by unfold a_cell; rw [hsh]
        rw [show a_cell cA cL ad M (k, j).1 (k, j).2 = a_cell cA cL ad M k j from rfl, hce] at hq1
        refine va_alen hx hb hK hP q0 0 hq1 rfl rfl hd ?_
        exact h H locs ls hP hS hLR hoL (List.forall_mem_cons.mpr ⟨trivial, hoS2.2⟩) hsc
      | true =>
        have hce : a_cell cA cL ad M k j = .inl (cL, n, .inr (.inl (M.2 k j))) := by unfold a_cell; rw [hsh]
        rw [show a_cell cA cL ad M (k, j).1 (k, j).2 = a_cell cA cL ad M k j from rfl, hce] at hq1
        refine va_alen hx hb hK hP q0 1 hq1 rfl rfl hd ?_
        exact h H locs ls hP hS hLR hoL (List.forall_mem_cons.mpr ⟨trivial, hoS2.2⟩) hsc
  | invokevirtual ix =>
    have hc : ((Nat.beq len 3 && Nat.beq nx (pc + 3)) && (bif Nat.beq x 900 || Nat.beq x 901 then a_slT.any (fun q => Nat.beq q.1 own && (Nat.beq q.2.1 ix && Nat.beq q.2.2.1 x)) else (a_mlT.any (fun q => Nat.beq q.1 own && (Nat.beq q.2.1 ix && Nat.beq q.2.2.1 x)) && (match a_mt[x]? with
        | some (_, _, _, _, st, _) => !st
        | none => false)))) = true := hc
    rw [Bool.and_eq_true] at hc
    obtain ⟨h12, h3⟩ := hc
    obtain ⟨rfl, rfl⟩ := a_len3 h12
    unfold a_w1 at h
    dsimp only at h
    cases h900 : Nat.beq x 900 with
    | true =>
      rw [h900] at h h3
      simp only [cond_true, Bool.true_or] at h h3
      cases Nat.eq_of_beq_eq_true h900
      have hlk := a_slk h3
      rcases S with _ | ⟨v, S⟩
      · exact False.elim h
      have hoS2 := List.forall_mem_cons.mp hoS
      rcases v with v | v | v
      · exact False.elim h
      · exact False.elim h
      obtain ⟨k, j⟩ := v
      dsimp only at h
      rcases hst : a_stx k with _ | bs
      · rw [hst] at h; exact False.elim h
      · rw [hst] at h
        have h : (Nat.ble 6 d && Nat.ble (a_wid S) 8) = true ∧ (a_KW p l e R s m args below meth c D cA cL ad lv nS xs nL kc ks Q) (pc + 3) L (.inl (Int32.ofNat bs.length) :: S) M := h
        have h1 := h.1
        rw [Bool.and_eq_true] at h1
        refine hsl pc ix k j bs H locs ls (S.map (a_tr ad)) hst hd hlk (Nat.le_of_ble_eq_true h1.1) hS hLR.2.1 (by rw [a_wid_eq]; exact Nat.le_of_ble_eq_true h1.2) ?_
        exact h.2 H locs ls hP hS hLR hoL (List.forall_mem_cons.mpr ⟨trivial, hoS2.2⟩) hsc
    | false =>
    rw [h900] at h h3
    simp only [cond_false, Bool.false_or] at h h3
    cases h901 : Nat.beq x 901 with
    | true =>
      rw [h901] at h h3
      simp only [cond_true] at h h3
      cases Nat.eq_of_beq_eq_true h901
      have hlk := a_slk h3
      rcases S with _ | ⟨v, S⟩
      · exact False.elim h
      have hoS2 := List.forall_mem_cons.mp hoS
      rcases v with v | v | v
      · rcases S with _ | ⟨w, S⟩
        · exact False.elim h
        have hoS3 := List.forall_mem_cons.mp hoS2.2
        rcases w with w | w | w
        · exact False.elim h
        · exact False.elim h
        obtain ⟨k, j⟩ := w
        dsimp only at h
        rcases hst : a_stx k with _ | bs
        · rw [hst] at h; exact False.elim h
        · rw [hst] at h
          have h : (Nat.ble 6 d && Nat.ble (a_wid S) 8) = true ∧ vp_in v bs.length ∧ (a_KW p l e R s m args below meth c D cA cL ad lv nS xs nL kc ks Q) (pc + 3) L (.inl (Int32.ofNat (bs.getD v.toNatClampNeg 0)) :: S) M := h
          have h1 := h.1
          rw [Bool.and_eq_true] at h1
          refine hca pc ix k j v bs H locs ls (S.map (a_tr ad)) hst hd hlk (Nat.le_of_ble_eq_true h1.1) hS hLR.2.1 (by rw [a_wid_eq]; exact Nat.le_of_ble_eq_true h1.2) h.2.1 ?_
          exact h.2.2 H locs ls hP hS hLR hoL (List.forall_mem_cons.mpr ⟨trivial, hoS3.2⟩) hsc
      · exact False.elim h
      · exact False.elim h
    | false =>
    rw [h901] at h h3
    simp only [cond_false] at h h3
    rw [Bool.and_eq_true] at h3
    obtain ⟨⟨nm, b', nL', rt', st', ci', na', own', ps', cd'⟩, hmx, hlk⟩ := a_mlk h3.1
    have hst : st' = false := by
      have := h3.2
      rw [hmx] at this
      simpa using this
    subst hst
    exact a_callV Cx' hX hmt hR hC hcal hmx hlk hd h hP hS hLR hoL hoS hsc
  | invokestatic ix =>
    cases h902 : Nat.beq x 902 with
    | true =>
      have e902 := Nat.eq_of_beq_eq_true h902
      subst e902
      have hc : ((Nat.beq len 3 && Nat.beq nx (pc + 3)) && a_slT.any (fun q => Nat.beq q.1 own && (Nat.beq q.2.1 ix && Nat.beq q.2.2.1 902))) = true := hc
      rw [Bool.and_eq_true] at hc
      obtain ⟨rfl, rfl⟩ := a_len3 hc.1
      have hlk := a_slk hc.2
      rcases S with _ | ⟨v, S⟩
      · exact False.elim h
      rcases v with v | v | v
      · rcases S with _ | ⟨w, S⟩
        · exact False.elim h
        rcases w with w | w | w
        · have h : Nat.ble (a_wid S) 8 = true ∧ (a_KW p l e R s m args below meth c D cA cL ad lv nS xs nL kc ks Q) (pc + 3) L (vI (if w < v then v else w) :: S) M := h
          refine va_mmax hx hb (hml.trans hLR.2.1.symm) hown (hts _ hlk) (hts _ a_mxS) (hts _ a_mxI) (hts _ a_mxC) (by omega) (by rw [a_wid_eq]; have := Nat.le_of_ble_eq_true h.1; omega) hC.1 hC.2 hd ?_
          exact h.2 H locs ls hP hS hLR hoL (List.forall_mem_cons.mpr ⟨trivial, (List.forall_mem_cons.mp (List.forall_mem_cons.mp hoS).2).2⟩) hsc
        · exact False.elim h
        · exact False.elim h
      · exact False.elim h
      · exact False.elim h
    | false =>
    have h : (∃ P, cal x (S.take y).reverse M P ∧ (Nat.ble (a_wid (S.drop y)) 8 && a_rok x y S) = true ∧ ∀ v M', P v M' → (a_KW p l e R s m args below meth c D cA cL ad lv nS xs nL kc ks Q) nx L (a_res v (S.drop y)) M') := by
      have h9 := h
      unfold a_w1 at h9
      dsimp only at h9
      rw [h902] at h9
      exact h9
    have hc : (bif Nat.beq x 902 then (Nat.beq len 3 && Nat.beq nx (pc + 3)) && a_slT.any (fun q => Nat.beq q.1 own && (Nat.beq q.2.1 ix && Nat.beq q.2.2.1 x)) else (((Nat.beq len 3 && Nat.beq nx (pc + 3)) && a_mlT.any (fun q => Nat.beq q.1 own && (Nat.beq q.2.1 ix && Nat.beq q.2.2.1 x))) && (match a_mt[x]? with
        | some (_, _, _, _, st, _) => st
        | none => false))) = true := hc
    rw [h902, cond_false] at hc
    have hc : (((Nat.beq len 3 && Nat.beq nx (pc + 3)) && a_mlT.any (fun q => Nat.beq q.1 own && (Nat.beq q.2.1 ix && Nat.beq q.2.2.1 x))) && (match a_mt[x]? with
        | some (_, _, _, _, st, _) => st
        | none => false)) = true := hc
    rw [Bool.and_eq_true, Bool.and_eq_true] at hc
    obtain ⟨⟨h12, h3⟩, h4⟩ := hc
    obtain ⟨rfl, rfl⟩ := a_len3 h12
    obtain ⟨⟨nm, b', nL', rt', st', ci', na', own', ps', cd'⟩, hmx, hlk⟩ := a_mlk h3
    have hst : st' = true := by
      rw [hmx] at h4
      exact h4
    subst hst
    exact a_callS Cx' hX hmt hR hC hcal hmx hlk hd h hP hS hLR hoL hoS hsc
  | ireturn =>
    obtain ⟨rfl, rfl⟩ := a_len3 (show (Nat.beq len 1 && Nat.beq nx (pc + 1)) = true from hc)
    rcases S with _ | ⟨v, S⟩
    · exact False.elim h
    have hoS2 := List.forall_mem_cons.mp hoS
    rcases S with _ | ⟨w, S⟩
    · rcases v with v | v | v
      · rcases rt with _ | rt
        · exact False.elim h
        cases rt with
        | int =>
          have h : post (some (.inl v)) M := h
          exact hQ _ _ _ (W.iret (v := v) hx hb hr (fun t ht hW => ⟨⟨some (.inl v), M, rfl, h, fun w hw => by cases hw; exact hoS2.1, by rw [ht]; exact hP, hsc⟩, hS.F ht⟩) hS.2.2 hd)
        | boolean =>
          have h : (v = 0 ∨ v = 1) ∧ post (some (.inl v)) M := h
          exact hQ _ _ _ (W.zret (v := v) hx hb hr (by rcases h.1 with e0 | e0 <;> rw [e0] <;> rfl) (fun t ht hW => ⟨⟨some (.inl v), M, rfl, h.2, fun w hw => by cases hw; exact hoS2.1, by rw [ht]; exact hP, hsc⟩, hS.F ht⟩) hS.2.2 hd)
        | _ => exact False.elim h
      · exact False.elim h
      · exact False.elim h
    · rcases v with v | v | v <;> exact False.elim h
  | lreturn =>
    obtain ⟨rfl, rfl⟩ := a_len3 (show (Nat.beq len 1 && Nat.beq nx (pc + 1)) = true from hc)
    rcases S with _ | ⟨v, S⟩
    · exact False.elim h
    have hoS2 := List.forall_mem_cons.mp hoS
    rcases S with _ | ⟨w, S⟩
    · rcases v with v | v | v
      · exact False.elim h
      · rcases rt with _ | rt
        · exact False.elim h
        cases rt with
        | long =>
          have h : post (some (.inr (.inl v))) M := h
          exact hQ _ _ _ (W.lret (v := v) hx hb hr (fun t ht hW => ⟨⟨some (.inr (.inl v)), M, rfl, h, fun w hw => by cases hw; exact hoS2.1, by rw [ht]; exact hP, hsc⟩, hS.F ht⟩) hS.2.2 hd)
        | _ => exact False.elim h
      · exact False.elim h
    · rcases v with v | v | v <;> exact False.elim h
  | areturn =>
    obtain ⟨rfl, rfl⟩ := a_len3 (show (Nat.beq len 1 && Nat.beq nx (pc + 1)) = true from hc)
    rcases S with _ | ⟨v, S⟩
    · exact False.elim h
    have hoS2 := List.forall_mem_cons.mp hoS
    rcases S with _ | ⟨w, S⟩
    · rcases v with v | v | v
      · exact False.elim h
      · exact False.elim h
      · rcases rt with _ | rt
        · exact False.elim h
        cases rt with
        | object n =>
          have h : post (some (.inr (.inr v))) M := h
          exact hQ _ _ _ (W.aret (v := .ref (ad v.1 v.2)) hx hb hr (Or.inl ⟨n, rfl⟩) (Or.inr ⟨_, rfl⟩) (fun t ht hW => ⟨⟨some (.inr (.inr v)), M, rfl, h, fun w hw => by cases hw; exact hoS2.1, by rw [ht]; exact hP, hsc⟩, hS.F ht⟩) hS.2.2 hd)
        | _ => exact False.elim h
    · rcases v with v | v | v <;> exact False.elim h
  | return_ =>
    obtain ⟨rfl, rfl⟩ := a_len3 (show (Nat.beq len 1 && Nat.beq nx (pc + 1)) = true from hc)
    rcases S with _ | ⟨v, S⟩
    · rcases rt with _ | rt
      · have h : post none M := h
        exact hQ _ _ _ (W.vret hx hb hr (fun t ht hW => ⟨⟨none, M, rfl, h, fun w hw => (by cases hw), by rw [ht]; exact hP, hsc⟩, hS.F ht⟩) hS.2.2 hd)
      · exact False.elim h
    · exact False.elim h
  | new ik =>
    rcases t with _ | ⟨ic, _ | ⟨t2, tr⟩⟩
    · exact absurd hc (by simp [a_ckI])
    · have hc : ((((Nat.beq len 3 && Nat.beq nx (pc + 3)) && decide (decode b (pc + 3) = .ok (.dup, 1))) && a_thD b pc y ic x) && a_thT.any (fun q => Nat.beq q.1 own && (Nat.beq q.2.1 ik && (Nat.beq q.2.2.1 y && (Nat.beq q.2.2.2.1 ic && Nat.beq q.2.2.2.2 x))))) = true := hc
      simp only [Bool.and_eq_true, decide_eq_true_eq] at hc
      obtain ⟨⟨⟨⟨hl1, hl2⟩, g3⟩, g4⟩, g5⟩ := hc
      cases Nat.eq_of_beq_eq_true hl1
      rcases S with _ | ⟨v, S⟩
      · have h : Nat.ble 6 d = true ∧ px x M := h
        exact hth pc ik y ic x H locs ls M g5 hd g3 g4 (Nat.le_of_ble_eq_true h.1) h.2 hP hS hLR.2.1 hsc
      · exact False.elim h
    · exact absurd hc (by simp [a_ckI])
  | _ => exact False.elim h
