/-! the small machine's states, seen in the real one's -/
def a_tr (ad : Nat → Nat → Nat) : aV → Value
  | .inl x => .int x
  | .inr (.inl y) => .long y
  | .inr (.inr q) => .ref (ad q.1 q.2)
def a_fv (ad : Nat → Nat → Nat) (f : Nat → Int32) (i j : Nat) : Option (Nat × Option Nat) → Value
  | none => .int (f j)
  | some (k', none) => .ref (ad k' i)
  | some (k', some c) => .ref (ad k' c)
def a_fs (ad : Nat → Nat → Nat) (f : Nat → Int32) (i : Nat) (fl : List (Option (Nat × Option Nat))) : List Value := fl.mapIdx (fun j o => a_fv ad f i j o)
def a_cell (cA cL : ClassId) (ad : Nat → Nat → Nat) (M : aM) (k i : Nat) : va_E := match a_shp k with
  | some (.inl (ci, fl)) => .inr (ci, a_fs ad (M.1 k i) i fl)
  | some (.inr (false, n)) => .inl (cA, n, .inl (M.1 k i))
  | some (.inr (true, n)) => .inl (cL, n, .inr (.inl (M.2 k i)))
  | none => .inr (0, [])
def a_ws (cA cL : ClassId) (ad : Nat → Nat → Nat) (lv : List (Nat × Nat)) (M : aM) : va_W := lv.map (fun q => (ad q.1 q.2, a_cell cA cL ad M q.1 q.2))
def a_A (ad : Nat → Nat → Nat) (lv : List (Nat × Nat)) (sz : Nat) : Nat → Prop := fun q => (∃ r, r ∈ lv ∧ q = ad r.1 r.2) ∨ sz ≤ q
def a_okv (lv : List (Nat × Nat)) : aV → Prop
  | .inr (.inr q) => q ∈ lv ∨ (97 ≤ q.1 ∧ q.1 ≠ 98)
  | _ => True
def a_inj (lv : List (Nat × Nat)) : Prop := ∀ (i j : Nat) (q : Nat × Nat), lv[i]? = some q → lv[j]? = some q → i = j
def a_clo (lv : List (Nat × Nat)) : Prop := ∀ q ∈ lv, ∀ ci fl, a_shp q.1 = some (.inl (ci, fl)) → ∀ (x k' : Nat) (o : Option Nat), fl[x]? = some (some (k', o)) → (k', o.getD q.2) ∈ lv
theorem a_shp_big {k : Nat} (h : 97 ≤ k) (h2 : k ≠ 98) : a_shp k = none := by
  unfold a_shp
  have hb : Nat.beq k 98 = false := by
    cases hb : Nat.beq k 98 with
    | false => rfl
    | true => exact absurd (Nat.eq_of_beq_eq_true hb) h2
  rw [hb]
  have h3 : a_shL.length = 47 := rfl
  rw [List.getElem?_eq_none (by omega)]
  rfl
theorem a_tr_cat (ad : Nat → Nat → Nat) (v : aV) : (a_tr ad v).category = a_cat v := by
  rcases v with x | y | q <;> rfl
theorem a_ws_at {cA cL : ClassId} {ad : Nat → Nat → Nat} {lv : List (Nat × Nat)} {M : aM} {q : Nat × Nat} (h : q ∈ lv) : ∃ i : Nat, lv[i]? = some q ∧ (a_ws cA cL ad lv M)[i]? = some (ad q.1 q.2, a_cell cA cL ad M q.1 q.2) := by
  obtain ⟨i, hi⟩ := List.getElem?_of_mem h
  exact ⟨i, hi, by simp [a_ws, hi]⟩
theorem a_ws_set {cA cL : ClassId} {ad : Nat → Nat → Nat} {lv : List (Nat × Nat)} {M M' : aM} {q : Nat × Nat} {i : Nat} {e : va_E} (hn : a_inj lv) (hi : lv[i]? = some q) (he : a_cell cA cL ad M' q.1 q.2 = e)
    (ho : ∀ r : Nat × Nat, r ≠ q → a_cell cA cL ad M' r.1 r.2 = a_cell cA cL ad M r.1 r.2) : (a_ws cA cL ad lv M).set i (ad q.1 q.2, e) = a_ws cA cL ad lv M' := by
  apply List.ext_getElem?
  intro j
  have hl : i < lv.length := (List.getElem?_eq_some_iff.mp hi).1
  by_cases h : i = j
  · subst h
    rw [List.getElem?_set_self (by simpa [a_ws] using hl)]
    simp [a_ws, hi, he]
  · rw [List.getElem?_set_ne h]
    simp only [a_ws, List.getElem?_map]
    cases hj : lv[j]? with
    | none => rfl
    | some r =>
      have hr : r ≠ q := fun z => h (hn i j q hi (by rw [hj, z]))
      simp only [Option.map_some]
      rw [ho r hr]
theorem a_cell_congr {cA cL : ClassId} {ad : Nat → Nat → Nat} {M M' : aM} {k i : Nat} (h1 : M'.1 k i = M.1 k i) (h2 : M'.2 k i = M.2 k i) : a_cell cA cL ad M' k i = a_cell cA cL ad M k i := by
  unfold a_cell
  rw [h1, h2]
theorem a_pI_ne {M : aM} {k i j : Nat} {x : Int32} {r : Nat × Nat} (h : r ≠ (k, i)) : (a_pI M k i j x).1 r.1 r.2 = M.1 r.1 r.2 := by
  funext n
  show (if r.1 = k ∧ r.2 = i ∧ n = j then x else M.1 r.1 r.2 n) = M.1 r.1 r.2 n
  rw [if_neg]
  rintro ⟨h1, h2, -⟩
  exact h (Prod.ext h1 h2)
theorem a_pL_ne {M : aM} {k i j : Nat} {x : Int64} {r : Nat × Nat} (h : r ≠ (k, i)) : (a_pL M k i j x).2 r.1 r.2 = M.2 r.1 r.2 := by
  funext n
  show (if r.1 = k ∧ r.2 = i ∧ n = j then x else M.2 r.1 r.2 n) = M.2 r.1 r.2 n
  rw [if_neg]
  rintro ⟨h1, h2, -⟩
  exact h (Prod.ext h1 h2)
theorem a_pI_eq (M : aM) (k i j : Nat) (x : Int32) : (a_pI M k i j x).1 k i = upd (M.1 k i) j x := by
  funext n
  show (if k = k ∧ i = i ∧ n = j then x else M.1 k i n) = if n = j then x else M.1 k i n
  by_cases h : n = j
  · rw [if_pos ⟨rfl, rfl, h⟩, if_pos h]
  · rw [if_neg (fun z => h z.2.2), if_neg h]
theorem a_pL_eq (M : aM) (k i j : Nat) (x : Int64) : (a_pL M k i j x).2 k i = vp_updL (M.2 k i) j x := by
  funext n
  show (if k = k ∧ i = i ∧ n = j then x else M.2 k i n) = if n = j then x else M.2 k i n
  by_cases h : n = j
  · rw [if_pos ⟨rfl, rfl, h⟩, if_pos h]
  · rw [if_neg (fun z => h z.2.2), if_neg h]
theorem a_fs_at {ad : Nat → Nat → Nat} {f : Nat → Int32} {i x : Nat} {fl : List (Option (Nat × Option Nat))} {o : Option (Nat × Option Nat)} (h : fl[x]? = some o) : (a_fs ad f i fl)[x]? = some (a_fv ad f i x o) := by
  simp [a_fs, h]
theorem a_fs_set {ad : Nat → Nat → Nat} {f : Nat → Int32} {i x : Nat} {v : Int32} {fl : List (Option (Nat × Option Nat))} (h : fl[x]? = some none) : (a_fs ad f i fl).set x (.int v) = a_fs ad (upd f x v) i fl := by
  apply List.ext_getElem?
  intro j
  have hl : x < fl.length := (List.getElem?_eq_some_iff.mp h).1
  by_cases hj : x = j
  · subst hj
    rw [List.getElem?_set_self (by simpa [a_fs] using hl), a_fs_at h]
    simp [a_fv, upd]
  · rw [List.getElem?_set_ne hj]
    simp only [a_fs, List.getElem?_mapIdx]
    cases fl[j]? with
    | none => rfl
    | some o =>
      simp only [Option.map_some]
      rcases o with _ | ⟨k', _ | c⟩
      · simp only [a_fv, upd]
        rw [if_neg (fun z => hj z.symm)]
      · rfl
      · rfl
/-! locals -/
def a_LR (ad : Nat → Nat → Nat) (ls : Array Slot) (nL : Nat) (L : aL) : Prop := lv_wf ls ∧ ls.size = nL ∧ L.length = nL ∧ ∀ (j : Nat) (v : aV), L[j]? = some (some v) → ls[j]? = some (.val (a_tr ad v))
def a_prs (ad : Nat → Nat → Nat) (L : aL) : List (Nat × Value) := (List.range L.length).filterMap (fun j => match L[j]? with
  | some (some v) => some (j, a_tr ad v)
  | _ => none)
theorem a_prs_mem {ad : Nat → Nat → Nat} {L : aL} {j : Nat} {v : aV} (h : L[j]? = some (some v)) : (j, a_tr ad v) ∈ a_prs ad L := by
  refine List.mem_filterMap.mpr ⟨j, List.mem_range.mpr (List.getElem?_eq_some_iff.mp h).1, ?_⟩
  rw [h]
theorem a_prs_of {ad : Nat → Nat → Nat} {L : aL} {q : Nat × Value} (h : q ∈ a_prs ad L) : ∃ v, L[q.1]? = some (some v) ∧ q.2 = a_tr ad v := by
  obtain ⟨j, -, hj⟩ := List.mem_filterMap.mp h
  split at hj
  · rename_i v hv
    cases hj
    exact ⟨v, hv, rfl⟩
  · cases hj
theorem a_LR.has {ad : Nat → Nat → Nat} {ls : Array Slot} {nL : Nat} {L : aL} (h : a_LR ad ls nL L) : lv_has ls nL (a_prs ad L) := ⟨h.2.1, h.1, fun q hq => by
  obtain ⟨v, h1, h2⟩ := a_prs_of hq
  rw [h2]
  exact h.2.2.2 _ _ h1⟩
theorem a_brk_len (L : aL) (n : Nat) : (a_brk L n).length = L.length := by
  cases n with
  | zero => rfl
  | succ n => simp only [a_brk]; cases a_lng L[n]? <;> simp
theorem a_brk_at {L : aL} {n j : Nat} {w : aV} (h : (a_brk L n)[j]? = some (some w)) : L[j]? = some (some w) ∧ ¬ (j + 1 = n ∧ a_cat w = 2) := by
  cases n with
  | zero => exact ⟨h, fun z => by omega⟩
  | succ n =>
    simp only [a_brk] at h
    cases hg : a_lng L[n]? with
    | true =>
      rw [hg] at h
      simp only [cond_true] at h
      by_cases hj : n = j
      · subst hj
        rw [List.getElem?_set] at h
        simp at h
      · rw [List.getElem?_set_ne hj] at h
        exact ⟨h, fun z => hj (by omega)⟩
    | false =>
      rw [hg] at h
      simp only [cond_false] at h
      refine ⟨h, fun z => ?_⟩
      have hj : j = n := by omega
      subst hj
      rw [h] at hg
      rcases w with x | y | q
      · have := z.2; simp [a_cat] at this
      · simp [a_lng] at hg
      · have := z.2; simp [a_cat] at this
theorem a_s1_len (L : aL) (n : Nat) (v : aV) : (a_s1 L n v).length = L.length := by simp [a_s1, a_brk_len]
theorem a_s2_len (L : aL) (n : Nat) (v : aV) : (a_s2 L n v).length = L.length := by simp [a_s2, a_brk_len]
theorem a_s1_at {L : aL} {n j : Nat} {v w : aV} (h : (a_s1 L n v)[j]? = some (some w)) : (j = n ∧ w = v) ∨ (j ≠ n ∧ L[j]? = some (some w) ∧ ¬ (j + 1 = n ∧ a_cat w = 2)) := by
  unfold a_s1 at h
  by_cases hj : n = j
  · subst hj
    rw [List.getElem?_set] at h
    split at h
    · split at h
      · cases h; exact Or.inl ⟨rfl, rfl⟩
      · cases h
    · exact absurd rfl ‹_›
  · rw [List.getElem?_set_ne hj] at h
    exact Or.inr ⟨fun z => hj z.symm, a_brk_at h⟩
theorem a_s2_at {L : aL} {n j : Nat} {v w : aV} (h : (a_s2 L n v)[j]? = some (some w)) : (j = n ∧ w = v) ∨ (j ≠ n ∧ j ≠ n + 1 ∧ L[j]? = some (some w) ∧ ¬ (j + 1 = n ∧ a_cat w = 2)) := by
  unfold a_s2 at h
  by_cases hj : n + 1 = j
  · subst hj
    rw [List.getElem?_set] at h
    simp at h
  · rw [List.getElem?_set_ne hj] at h
    rcases a_s1_at (v := v) (w := w) (L := L) (n := n) (j := j) h with z | z
    · exact Or.inl z
    · exact Or.inr ⟨z.1, fun q => hj q.symm, z.2⟩
theorem a_LR.s1 {ad : Nat → Nat → Nat} {ls ls' : Array Slot} {nL : Nat} {L : aL} {n : Nat} {v : aV} {u : Value} (hu : u = a_tr ad v) (h : a_LR ad ls nL L) (h' : lv_has ls' nL ((n, u) :: (a_prs ad L).filter (fun q => !(q.1 == n) && !(q.1 + 1 == n && q.2.category == 2)))) : a_LR ad ls' nL (a_s1 L n v) := by
  subst hu
  refine ⟨h'.2.1, h'.1, (a_s1_len L n v).trans h.2.2.1, fun j w hj => ?_⟩
  rcases a_s1_at hj with ⟨rfl, rfl⟩ | ⟨h1, h2, h3⟩
  · exact h'.2.2 _ List.mem_cons_self
  · refine h'.2.2 (j, a_tr ad w) (List.mem_cons_of_mem _ (List.mem_filter.mpr ⟨a_prs_mem h2, ?_⟩))
    have e1 : (j == n) = false := by simpa using h1
    have e2 : (j + 1 == n && (a_tr ad w).category == 2) = false := by
      rw [a_tr_cat]
      by_cases q : j + 1 = n
      · have : ¬ a_cat w = 2 := fun z => h3 ⟨q, z⟩
        simp [this]
      · simp [q]
    show (!(j == n) && !(j + 1 == n && (a_tr ad w).category == 2)) = true
    rw [e1, e2]
    rfl
theorem a_LR.s2 {ad : Nat → Nat → Nat} {ls ls' : Array Slot} {nL : Nat} {L : aL} {n : Nat} {v : aV} {u : Value} (hu : u = a_tr ad v) (h : a_LR ad ls nL L) (h' : lv_has ls' nL ((n, u) :: (a_prs ad L).filter (fun q => !(q.1 == n) && (!(q.1 == n + 1) && !(q.1 + 1 == n && q.2.category == 2))))) : a_LR ad ls' nL (a_s2 L n v) := by
  subst hu
  refine ⟨h'.2.1, h'.1, (a_s2_len L n v).trans h.2.2.1, fun j w hj => ?_⟩
  rcases a_s2_at hj with ⟨rfl, rfl⟩ | ⟨h1, h1', h2, h3⟩
  · exact h'.2.2 _ List.mem_cons_self
  · refine h'.2.2 (j, a_tr ad w) (List.mem_cons_of_mem _ (List.mem_filter.mpr ⟨a_prs_mem h2, ?_⟩))
    have e1 : (j == n) = false := by simpa using h1
    have e1' : (j == n + 1) = false := by simpa using h1'
    have e2 : (j + 1 == n && (a_tr ad w).category == 2) = false := by
      rw [a_tr_cat]
      by_cases q : j + 1 = n
      · have : ¬ a_cat w = 2 := fun z => h3 ⟨q, z⟩
        simp [this]
      · simp [q]
    show (!(j == n) && (!(j == n + 1) && !(j + 1 == n && (a_tr ad w).category == 2))) = true
    rw [e1, e1', e2]
    rfl
theorem a_ent_at (ad : Nat → Nat → Nat) : ∀ (as : List aV) (i j : Nat) (v : aV), (a_ent as)[j]? = some (some v) → (i + j, a_tr ad v) ∈ lv_args i (as.map (a_tr ad))
  | [], i, j, v, h => by simp [a_ent] at h
  | a :: r, i, j, v, h => by
    rcases a with x | y | q
    · simp only [a_ent] at h
      cases j with
      | zero => simp at h; subst h; exact List.mem_cons_self
      | succ j =>
        rw [List.getElem?_cons_succ] at h
        have := a_ent_at ad r (i + 1) j v h
        refine List.mem_cons_of_mem _ ?_
        rw [show i + (j + 1) = i + 1 + j by omega]
        exact this
    · simp only [a_ent] at h
      cases j with
      | zero => simp at h; subst h; exact List.mem_cons_self
      | succ j =>
        rw [List.getElem?_cons_succ] at h
        cases j with
        | zero => simp at h
        | succ j =>
          rw [List.getElem?_cons_succ] at h
          have := a_ent_at ad r (i + 2) j v h
          refine List.mem_cons_of_mem _ ?_
          rw [show i + (j + 1 + 1) = i + 2 + j by omega]
          exact this
    · simp only [a_ent] at h
      cases j with
      | zero => simp at h; subst h; exact List.mem_cons_self
      | succ j =>
        rw [List.getElem?_cons_succ] at h
        have := a_ent_at ad r (i + 1) j v h
        refine List.mem_cons_of_mem _ ?_
        rw [show i + (j + 1) = i + 1 + j by omega]
        exact this
theorem a_ent_len (ad : Nat → Nat → Nat) : ∀ as : List aV, (lg_sl (as.map (a_tr ad))).length = (a_ent as).length
  | [] => rfl
  | a :: r => by
    have ih := a_ent_len ad r
    rcases a with x | y | q
    · have : lg_sl ((Sum.inl x :: r).map (a_tr ad)) = .val (.int x) :: lg_sl (r.map (a_tr ad)) := rfl
      rw [this, List.length_cons, ih]; rfl
    · have : lg_sl ((Sum.inr (Sum.inl y) :: r).map (a_tr ad)) = .val (.long y) :: .second :: lg_sl (r.map (a_tr ad)) := rfl
      rw [this, List.length_cons, List.length_cons, ih]; rfl
    · have : lg_sl ((Sum.inr (Sum.inr q) :: r).map (a_tr ad)) = .val (.ref (ad q.1 q.2)) :: lg_sl (r.map (a_tr ad)) := rfl
      rw [this, List.length_cons, ih]; rfl
theorem a_pad_at {n : Nat} {l : aL} {j : Nat} {v : aV} (h : (a_pad n l)[j]? = some (some v)) : l[j]? = some (some v) := by
  unfold a_pad at h
  by_cases hj : j < l.length
  · rwa [List.getElem?_append_left hj] at h
  · rw [List.getElem?_append_right (by omega)] at h
    have := List.eq_of_mem_replicate (List.mem_of_getElem? h)
    cases this
theorem a_pad_len {n : Nat} {l : aL} (h : l.length ≤ n) : (a_pad n l).length = n := by
  unfold a_pad
  rw [List.length_append, List.length_replicate]
  omega
theorem a_LR_entry {ad : Nat → Nat → Nat} {as : List aV} {nL : Nat} (h : (a_ent as).length ≤ nL) : a_LR ad ((lg_sl (as.map (a_tr ad)) ++ List.replicate (nL - (lg_sl (as.map (a_tr ad))).length) Slot.unset).toArray) nL (a_pad nL (a_ent as)) := by
  have h0 := lv_entry (as.map (a_tr ad)) (n := nL) (by rw [a_ent_len]; exact h)
  refine ⟨h0.2.1, h0.1, a_pad_len h, fun j v hj => ?_⟩
  have h1 := a_ent_at ad as 0 j v (a_pad_at hj)
  rw [Nat.zero_add] at h1
  exact h0.2.2 _ h1
theorem a_ent_of : ∀ (as : List aV) (j : Nat) (v : aV), (a_ent as)[j]? = some (some v) → v ∈ as
  | [], j, v, h => by simp [a_ent] at h
  | a :: r, j, v, h => by
    rcases a with x | y | q
    · simp only [a_ent] at h
      cases j with
      | zero => simp at h; subst h; exact List.mem_cons_self
      | succ j => rw [List.getElem?_cons_succ] at h; exact List.mem_cons_of_mem _ (a_ent_of r j v h)
    · simp only [a_ent] at h
      cases j with
      | zero => simp at h; subst h; exact List.mem_cons_self
      | succ j =>
        rw [List.getElem?_cons_succ] at h
        cases j with
        | zero => simp at h
        | succ j => rw [List.getElem?_cons_succ] at h; exact List.mem_cons_of_mem _ (a_ent_of r j v h)
    · simp only [a_ent] at h
      cases j with
      | zero => simp at h; subst h; exact List.mem_cons_self
      | succ j => rw [List.getElem?_cons_succ] at h; exact List.mem_cons_of_mem _ (a_ent_of r j v h)
