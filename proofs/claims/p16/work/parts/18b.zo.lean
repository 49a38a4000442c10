/-! runs of methods -/
def z_sfx : List aE → Nat → List aE
  | [], _ => []
  | e :: es, pc => bif Nat.beq e.1 pc then e :: es else z_sfx es pc
def z_get (cd rest : List aE) (pc : Nat) : List aE := match rest with
  | [] => z_sfx cd pc
  | e :: es => bif Nat.beq e.1 pc then e :: es else z_sfx cd pc
def z_end (cd rest : List aE) : Prop := ∃ pre, cd = pre ++ rest
theorem z_srt_fnd {e : aE} {es : List aE} : ∀ {pre : List aE} {n : Nat}, z_srt n (pre ++ e :: es) = true → n ≤ e.1 ∧ a_fnd (pre ++ e :: es) e.1 = some e.2
  | [], n, h => by
    simp only [List.nil_append, z_srt, Bool.and_eq_true] at h
    refine ⟨z_ble h.1, ?_⟩
    show (bif Nat.beq e.1 e.1 then some e.2 else a_fnd es e.1) = _
    rw [Nat.beq_refl]
    rfl
  | p :: pre, n, h => by
    simp only [List.cons_append, z_srt, Bool.and_eq_true] at h
    obtain ⟨h1, h2⟩ := z_srt_fnd h.2
    have := z_ble h.1
    refine ⟨by omega, ?_⟩
    show (bif Nat.beq p.1 e.1 then some p.2 else a_fnd (pre ++ e :: es) e.1) = _
    rw [show Nat.beq p.1 e.1 = false from by
      cases hb : Nat.beq p.1 e.1 with
      | false => rfl
      | true => have := Nat.eq_of_beq_eq_true hb; omega]
    exact h2
theorem z_sfx_ok {e : aE} {es : List aE} {pc : Nat} : ∀ {cd : List aE}, z_sfx cd pc = e :: es → a_fnd cd pc = some e.2 ∧ z_end cd (e :: es)
  | [], h => by cases h
  | p :: cd, h => by
    unfold z_sfx at h
    unfold a_fnd
    cases hb : Nat.beq p.1 pc with
    | true =>
      rw [hb, cond_true] at h
      cases h
      exact ⟨rfl, [], rfl⟩
    | false =>
      rw [hb, cond_false] at h
      obtain ⟨h1, pre, h2⟩ := z_sfx_ok h
      exact ⟨h1, p :: pre, by rw [h2]; rfl⟩
theorem z_get_ok {cd rest : List aE} {pc : Nat} {e : aE} {es : List aE} (hs : z_srt 0 cd = true) (hr : z_end cd rest) (h : z_get cd rest pc = e :: es) : a_fnd cd pc = some e.2 ∧ z_end cd es := by
  have key : ∀ q, z_end cd (q :: es) → z_end cd es := fun q ⟨pre, hp⟩ => ⟨pre ++ [q], by rw [hp]; simp⟩
  unfold z_get at h
  cases rest with
  | nil =>
    obtain ⟨h1, h2⟩ := z_sfx_ok h
    exact ⟨h1, key _ h2⟩
  | cons p r =>
    dsimp only at h
    cases hb : Nat.beq p.1 pc with
    | true =>
      rw [hb, cond_true] at h
      cases h
      obtain ⟨pre, hp⟩ := hr
      have h1 := Nat.eq_of_beq_eq_true hb
      rw [hp] at hs
      have h2 := (z_srt_fnd hs).2
      rw [← hp, h1] at h2
      exact ⟨h2, key _ ⟨pre, hp⟩⟩
    | false =>
      rw [hb, cond_false] at h
      obtain ⟨h1, h2⟩ := z_sfx_ok h
      exact ⟨h1, key _ h2⟩
def z_sfxE : List zEn → Nat → List zEn
  | [], _ => []
  | e :: es, pc => bif Nat.beq e.1 pc then e :: es else z_sfxE es pc
def z_getE (cd rest : List zEn) (pc : Nat) : List zEn := match rest with
  | [] => z_sfxE cd pc
  | e :: es => bif Nat.beq e.1 pc then e :: es else z_sfxE cd pc
theorem z_sfxE_map : ∀ (cd : List aE) (pc : Nat), z_sfxE (cd.map z_cmpl) pc = (z_sfx cd pc).map z_cmpl
  | [], _ => rfl
  | e :: cd, pc => by
    show (bif Nat.beq e.1 pc then z_cmpl e :: cd.map z_cmpl else z_sfxE (cd.map z_cmpl) pc) = (bif Nat.beq e.1 pc then e :: cd else z_sfx cd pc).map z_cmpl
    cases Nat.beq e.1 pc with
    | true => rfl
    | false => exact z_sfxE_map cd pc
theorem z_getE_map (cd rest : List aE) (pc : Nat) : z_getE (cd.map z_cmpl) (rest.map z_cmpl) pc = (z_get cd rest pc).map z_cmpl := by
  cases rest with
  | nil => exact z_sfxE_map cd pc
  | cons e r =>
    show (bif Nat.beq e.1 pc then z_cmpl e :: r.map z_cmpl else z_sfxE (cd.map z_cmpl) pc) = (bif Nat.beq e.1 pc then e :: r else z_sfx cd pc).map z_cmpl
    cases Nat.beq e.1 pc with
    | true => rfl
    | false => exact z_sfxE_map cd pc
def z_ent : List zV → zL
  | [] => []
  | v :: r => match v with
    | .inr (.inl _) => some v :: none :: z_ent r
    | _ => some v :: z_ent r
def z_pad (n : Nat) (l : zL) : zL := l ++ List.replicate (n - l.length) none
theorem z_ent_ok : ∀ {as : List zV} {as' : List aV}, z_S as as' → (a_ent as').length = (z_ent as).length ∧ ∀ (j : Nat) (v : zV), (z_ent as)[j]? = some (some v) → ∃ x, (a_ent as')[j]? = some (some x) ∧ z_v v x
  | [], [], _ => ⟨rfl, fun j v h => by simp [z_ent] at h⟩
  | [], _ :: _, h => False.elim h
  | _ :: _, [], h => False.elim h
  | v :: r, x :: s, h => by
    obtain ⟨h1, h2⟩ := z_ent_ok h.2
    rcases v with v | v | v
    · rcases x with x | x | x
      · refine ⟨by simp [z_ent, a_ent, h1], fun j w hj => ?_⟩
        cases j with
        | zero => simp [z_ent] at hj; subst hj; exact ⟨_, rfl, h.1⟩
        | succ j => simp [z_ent] at hj; simp only [a_ent, List.getElem?_cons_succ]; exact h2 j w hj
      · exact False.elim h.1
      · exact False.elim h.1
    · rcases x with x | x | x
      · cases v <;> exact False.elim h.1
      · refine ⟨by simp [z_ent, a_ent, h1], fun j w hj => ?_⟩
        cases j with
        | zero => simp [z_ent] at hj; subst hj; exact ⟨_, rfl, h.1⟩
        | succ j =>
          cases j with
          | zero => simp [z_ent] at hj
          | succ j => simp [z_ent] at hj; simp only [a_ent, List.getElem?_cons_succ]; exact h2 j w hj
      · cases v <;> exact False.elim h.1
    · rcases x with x | x | x
      · exact False.elim h.1
      · exact False.elim h.1
      · refine ⟨by simp [z_ent, a_ent, h1], fun j w hj => ?_⟩
        cases j with
        | zero => simp [z_ent] at hj; subst hj; exact ⟨_, rfl, h.1⟩
        | succ j => simp [z_ent] at hj; simp only [a_ent, List.getElem?_cons_succ]; exact h2 j w hj
theorem z_pad_ok {n : Nat} {as : List zV} {as' : List aV} (h : z_S as as') : z_L (z_pad n (z_ent as)) (a_pad n (a_ent as')) := by
  obtain ⟨h1, h2⟩ := z_ent_ok h
  refine ⟨by simp [z_pad, a_pad, h1], fun j v hj => ?_⟩
  unfold z_pad at hj
  unfold a_pad
  by_cases hl : j < (z_ent as).length
  · rw [List.getElem?_append_left hl] at hj
    rw [List.getElem?_append_left (by rw [h1]; exact hl)]
    exact h2 j v hj
  · rw [List.getElem?_append_right (Nat.le_of_not_lt hl), List.getElem?_replicate] at hj
    split at hj <;> cases hj
theorem a_w1_up {d nS : Nat} {cal cal' : Nat → List aV → aM → (Option aV → aM → Prop) → Prop} (hc : ∀ y as M P, cal y as M P → cal' y as M P) {rt : Option FieldType} {post : Option aV → aM → Prop} {px : Nat → aM → Prop} {K : aK} {i : Instr} {x y : Nat} {c : Int32} {t : List Nat} {nx : Nat} {L : aL} {S : List aV} {M : aM} (h : a_w1 d nS cal rt post px K i x y c t nx L S M) : a_w1 (d + 1) nS cal' rt post px K i x y c t nx L S M := by
  have hd : Nat.ble 6 d = true → Nat.ble 6 (d + 1) = true := fun z => Nat.ble_eq_true_of_le (Nat.le_succ_of_le (Nat.le_of_ble_eq_true z))
  cases i with
  | invokevirtual n =>
    unfold a_w1 at h ⊢
    dsimp only at h ⊢
    cases h900 : Nat.beq x 900 with
    | true =>
      rw [h900] at h
      simp only [cond_true] at h ⊢
      split at h
      · split at h
        · rw [Bool.and_eq_true] at h ⊢
          exact ⟨⟨hd h.1.1, h.1.2⟩, h.2⟩
        · exact False.elim h
      · exact False.elim h
    | false =>
    rw [h900] at h
    simp only [cond_false] at h ⊢
    cases h901 : Nat.beq x 901 with
    | true =>
      rw [h901] at h
      simp only [cond_true] at h ⊢
      split at h
      · split at h
        · rw [Bool.and_eq_true] at h ⊢
          exact ⟨⟨hd h.1.1, h.1.2⟩, h.2⟩
        · exact False.elim h
      · exact False.elim h
    | false =>
    rw [h901] at h
    simp only [cond_false] at h ⊢
    obtain ⟨P, g1, g2, g3⟩ := h
    exact ⟨P, hc _ _ _ _ g1, g2, g3⟩
  | invokestatic n =>
    unfold a_w1 at h ⊢
    dsimp only at h ⊢
    cases h902 : Nat.beq x 902 with
    | true =>
      rw [h902] at h
      simp only [cond_true] at h ⊢
      exact h
    | false =>
    rw [h902] at h
    simp only [cond_false] at h ⊢
    obtain ⟨P, g1, g2, g3⟩ := h
    exact ⟨P, hc _ _ _ _ g1, g2, g3⟩
  | new n =>
    unfold a_w1 at h ⊢
    dsimp only at h ⊢
    split at h
    · exact ⟨hd h.1, h.2⟩
    · exact False.elim h
  | _ => exact h
theorem aC_up {nS : Nat} : ∀ {d y : Nat} {as : List aV} {M : aM} {post : Option aV → aM → Prop} {px : Nat → aM → Prop}, aC nS d y as M post px → aC nS (d + 1) y as M post px := by
  intro d
  induction d with
  | zero => intro y as M post px h; exact False.elim h
  | succ d ih =>
    intro y as M post px h
    unfold aC at h ⊢
    cases hm : a_mt[y]? with
    | none => rw [hm] at h; exact False.elim h
    | some mm =>
      obtain ⟨nm, b, nL, rt, st, ci, na, own, ps, cd⟩ := mm
      rw [hm] at h
      refine ⟨h.1, fun K hK hF => h.2 K (fun pc L S M z => hK pc L S M ?_) hF⟩
      unfold a_wp at z ⊢
      cases hf : a_fnd cd pc with
      | none => rw [hf] at z; exact False.elim z
      | some ee =>
        obtain ⟨i, x, y, c0, t, nx⟩ := ee
        rw [hf] at z
        exact a_w1_up (fun y as M P q => ih q) z
theorem aC_le {nS d d' y : Nat} {as : List aV} {M : aM} {post : Option aV → aM → Prop} {px : Nat → aM → Prop} (hd : d ≤ d') (h : aC nS d y as M post px) : aC nS d' y as M post px := by
  induction hd with
  | refl => exact h
  | step _ ih => exact aC_up ih

theorem a_w1_post {d nS : Nat} {cal : Nat → List aV → aM → (Option aV → aM → Prop) → Prop} {rt : Option FieldType} {post post' : Option aV → aM → Prop} {px px' : Nat → aM → Prop} {K : aK} (hp : ∀ v M, post v M → post' v M) (hx : ∀ e M, px e M → px' e M) {i : Instr} {x y : Nat} {c : Int32} {t : List Nat} {nx : Nat} {L : aL} {S : List aV} {M : aM} (h : a_w1 d nS cal rt post px K i x y c t nx L S M) : a_w1 d nS cal rt post' px' K i x y c t nx L S M := by
  cases i with
  | ireturn =>
    unfold a_w1 at h ⊢
    dsimp only at h ⊢
    split at h
    · split at h
      · exact hp _ _ h
      · exact ⟨h.1, hp _ _ h.2⟩
      · exact False.elim h
    · exact False.elim h
  | lreturn =>
    unfold a_w1 at h ⊢
    dsimp only at h ⊢
    split at h
    · split at h
      · exact hp _ _ h
      · exact False.elim h
    · exact False.elim h
  | areturn =>
    unfold a_w1 at h ⊢
    dsimp only at h ⊢
    split at h
    · split at h
      · exact hp _ _ h
      · exact False.elim h
    · exact False.elim h
  | return_ =>
    unfold a_w1 at h ⊢
    dsimp only at h ⊢
    split at h
    · split at h
      · exact hp _ _ h
      · exact False.elim h
    · exact False.elim h
  | new n =>
    unfold a_w1 at h ⊢
    dsimp only at h ⊢
    split at h
    · exact ⟨h.1, hx _ _ h.2⟩
    · exact False.elim h
  | _ => exact h
theorem a_wp_post {d nS : Nat} {cal : Nat → List aV → aM → (Option aV → aM → Prop) → Prop} {rt : Option FieldType} {cd : List aE} {post post' : Option aV → aM → Prop} {px px' : Nat → aM → Prop} {K : aK} (hp : ∀ v M, post v M → post' v M) (hx : ∀ e M, px e M → px' e M) {pc : Nat} {L : aL} {S : List aV} {M : aM} (h : a_wp d nS cal rt cd post px K pc L S M) : a_wp d nS cal rt cd post' px' K pc L S M := by
  unfold a_wp at h ⊢
  cases hf : a_fnd cd pc with
  | none => rw [hf] at h; exact False.elim h
  | some ee =>
    obtain ⟨i, x, y, c0, t, nx⟩ := ee
    rw [hf] at h
    exact a_w1_post hp hx h
theorem aC_post {nS d y : Nat} {as : List aV} {M : aM} {post post' : Option aV → aM → Prop} {px px' : Nat → aM → Prop} (h : aC nS d y as M post px) (hp : ∀ v M, post v M → post' v M) (hx : ∀ e M, px e M → px' e M) : aC nS d y as M post' px' := by
  cases d with
  | zero => exact False.elim h
  | succ d =>
    unfold aC at h ⊢
    cases hm : a_mt[y]? with
    | none => rw [hm] at h; exact False.elim h
    | some mm =>
      obtain ⟨nm, b, nL, rt, st, ci, na, own, ps, cd⟩ := mm
      rw [hm] at h
      exact ⟨h.1, fun K hK hF => h.2 K (fun pc L S M z => hK pc L S M (a_wp_post hp hx z)) hF⟩
theorem aC_imp {nS d y : Nat} {as : List aV} {M : aM} {post post' : Option aV → aM → Prop} (h : aC nS d y as M post (fun _ _ => False)) (hp : ∀ v M, post v M → post' v M) : aC nS d y as M post' (fun _ _ => False) := aC_post h hp (fun _ _ z => z)
/-! joining -/
def z_lo (a b : Nat) : Nat := bif Nat.ble a b then a else b
def z_hi (a b : Nat) : Nat := bif Nat.ble a b then b else a
theorem z_lo_le (a b : Nat) : z_lo a b ≤ a ∧ z_lo a b ≤ b := by
  unfold z_lo
  cases h : Nat.ble a b with
  | true => rw [cond_true]; have := z_ble h; omega
  | false =>
    rw [cond_false]
    by_cases h2 : a ≤ b
    · rw [Nat.ble_eq_true_of_le h2] at h; cases h
    · omega
theorem z_hi_le (a b : Nat) : a ≤ z_hi a b ∧ b ≤ z_hi a b := by
  unfold z_hi
  cases h : Nat.ble a b with
  | true => rw [cond_true]; have := z_ble h; omega
  | false =>
    rw [cond_false]
    by_cases h2 : a ≤ b
    · rw [Nat.ble_eq_true_of_le h2] at h; cases h
    · omega
def z_jI {α : Type} (a b : zI) (k : zI → α) : α := z_f (z_lo a.1 b.1) (z_hi a.2 b.2) k
theorem z_jI_eq {α : Type} (a b : zI) (k : zI → α) : z_jI a b k = k (z_lo a.1 b.1, z_hi a.2 b.2) := z_f_eq _ _ _
theorem z_jI_l {a b : zI} {x : Int32} (h : z_i a x) : z_i (z_lo a.1 b.1, z_hi a.2 b.2) x := ⟨Nat.le_trans (z_lo_le _ _).1 h.1, Nat.le_trans h.2 (z_hi_le _ _).1⟩
theorem z_jI_r {a b : zI} {x : Int32} (h : z_i b x) : z_i (z_lo a.1 b.1, z_hi a.2 b.2) x := ⟨Nat.le_trans (z_lo_le _ _).2 h.1, Nat.le_trans h.2 (z_hi_le _ _).2⟩
/-- of two values one that covers both, if there is one -/
def z_jV {α : Type} (a b : Option zV) (k : Option zV → α) : α := match a with
  | none => k none
  | some a => match b with
    | none => k none
    | some b => match a with
      | .inl u => match b with
        | .inl v => z_jI u v (fun w => k (some (.inl w)))
        | .inr _ => k none
      | .inr (.inl _) => match b with
        | .inr (.inl _) => k (some (.inr (.inl none)))
        | _ => k none
      | .inr (.inr (p, i)) => match b with
        | .inr (.inr (q, j)) => bif Nat.beq p q && Nat.beq i j then k (some (.inr (.inr (p, i)))) else k none
        | _ => k none
theorem z_jV_ok (a b : Option zV) : ∃ c : Option zV, (∀ {α : Type} (k : Option zV → α), z_jV a b k = k c) ∧ (∀ w x, c = some w → (∀ u, a = some u → z_v u x) → a ≠ none → z_v w x) ∧ (∀ w x, c = some w → (∀ u, b = some u → z_v u x) → b ≠ none → z_v w x) := by
  cases a with
  | none => exact ⟨none, fun k => rfl, fun w x h => (by cases h), fun w x h => (by cases h)⟩
  | some a =>
  cases b with
  | none =>
    refine ⟨none, fun k => ?_, fun w x h => (by cases h), fun w x h => (by cases h)⟩
    rcases a with u | u | ⟨p, i⟩ <;> rfl
  | some b =>
  rcases a with u | u | ⟨p, i⟩
  · rcases b with v | v
    · refine ⟨some (.inl (z_lo u.1 v.1, z_hi u.2 v.2)), fun k => ?_, fun w x h h2 _ => ?_, fun w x h h2 _ => ?_⟩
      · show z_jI u v (fun w => k (some (.inl w))) = _
        rw [z_jI_eq]
      · cases h
        have := h2 _ rfl
        rcases x with x | x | x
        · exact z_jI_l this
        · exact False.elim this
        · exact False.elim this
      · cases h
        have := h2 _ rfl
        rcases x with x | x | x
        · exact z_jI_r this
        · exact False.elim this
        · exact False.elim this
    · exact ⟨none, fun k => rfl, fun w x h => (by cases h), fun w x h => (by cases h)⟩
  · rcases b with v | v | v
    · exact ⟨none, fun k => rfl, fun w x h => (by cases h), fun w x h => (by cases h)⟩
    · refine ⟨some (.inr (.inl none)), fun k => rfl, fun w x h h2 _ => ?_, fun w x h h2 _ => ?_⟩
      · cases h
        have := h2 _ rfl
        rcases x with x | x | x
        · cases u <;> exact False.elim this
        · trivial
        · cases u <;> exact False.elim this
      · cases h
        have := h2 _ rfl
        rcases x with x | x | x
        · cases v <;> exact False.elim this
        · trivial
        · cases v <;> exact False.elim this
    · exact ⟨none, fun k => rfl, fun w x h => (by cases h), fun w x h => (by cases h)⟩
  · rcases b with v | v | ⟨q, j⟩
    · exact ⟨none, fun k => rfl, fun w x h => (by cases h), fun w x h => (by cases h)⟩
    · exact ⟨none, fun k => rfl, fun w x h => (by cases h), fun w x h => (by cases h)⟩
    · cases hb : (Nat.beq p q && Nat.beq i j) with
      | false =>
        refine ⟨none, fun k => ?_, fun w x h => (by cases h), fun w x h => (by cases h)⟩
        show (bif Nat.beq p q && Nat.beq i j then _ else _) = _
        rw [hb]
        rfl
      | true =>
        refine ⟨some (.inr (.inr (p, i))), fun k => ?_, fun w x h h2 _ => ?_, fun w x h h2 _ => ?_⟩
        · show (bif Nat.beq p q && Nat.beq i j then _ else _) = _
          rw [hb]
          rfl
        · cases h
          exact h2 _ rfl
        · cases h
          rw [Bool.and_eq_true] at hb
          have e1 := Nat.eq_of_beq_eq_true hb.1
          have e2 := Nat.eq_of_beq_eq_true hb.2
          subst e1
          subst e2
          exact h2 _ rfl
def z_jL {α : Type} : zL → zL → (zL → α) → α
  | [], _, k => k []
  | a :: r, l, k => match l with
    | [] => z_jL r [] (fun q => k (none :: q))
    | b :: s => z_jV a b (fun c => z_jL r s (fun q => k (c :: q)))
theorem z_jL_ok : ∀ (l m : zL), ∃ n : zL, (∀ {α : Type} (k : zL → α), z_jL l m k = k n) ∧ n.length = l.length ∧ (∀ (j : Nat) (v : zV) (x : aV), n[j]? = some (some v) → (∀ u, l[j]? = some (some u) → z_v u x) → (∃ u, l[j]? = some (some u)) ∧ z_v v x) ∧ (∀ (j : Nat) (v : zV) (x : aV), n[j]? = some (some v) → (∀ u, m[j]? = some (some u) → z_v u x) → (∃ u, m[j]? = some (some u)) ∧ z_v v x)
  | [], m => ⟨[], fun k => rfl, rfl, fun j v x h => by simp at h, fun j v x h => by simp at h⟩
  | a :: r, [] => by
    obtain ⟨n, h1, h2, h3, h4⟩ := z_jL_ok r []
    refine ⟨none :: n, fun k => ?_, by simp [h2], fun j v x h g => ?_, fun j v x h g => ?_⟩
    · show z_jL r [] (fun q => k (none :: q)) = _
      rw [h1]
    · cases j with
      | zero => simp at h
      | succ j =>
        simp only [List.getElem?_cons_succ] at h g ⊢
        exact h3 j v x h g
    · cases j with
      | zero => simp at h
      | succ j =>
        simp only [List.getElem?_cons_succ] at h
        have := (h4 j v x h (fun u hu => by simp at hu)).1
        obtain ⟨u, hu⟩ := this
        simp at hu
  | a :: r, b :: s => by
    obtain ⟨n, h1, h2, h3, h4⟩ := z_jL_ok r s
    obtain ⟨c, g1, g2, g3⟩ := z_jV_ok a b
    refine ⟨c :: n, fun k => ?_, by simp [h2], fun j v x h g => ?_, fun j v x h g => ?_⟩
    · show z_jV a b (fun c => z_jL r s (fun q => k (c :: q))) = _
      rw [g1, h1]
    · cases j with
      | zero =>
        simp at h
        subst h
        cases a with
        | none =>
          exfalso
          have e := g1 (fun o => match o with
            | none => true
            | some _ => false)
          have e2 : z_jV none b (fun o => match o with
            | none => true
            | some _ => false) = true := rfl
          rw [e2] at e
          cases e
        | some u =>
          refine ⟨⟨u, rfl⟩, g2 v x rfl (fun u' hu => ?_) (fun z => (by cases z))⟩
          cases hu
          exact g _ rfl
      | succ j =>
        simp only [List.getElem?_cons_succ] at h g ⊢
        exact h3 j v x h g
    · cases j with
      | zero =>
        simp at h
        subst h
        cases b with
        | none =>
          exfalso
          have e := g1 (fun o => match o with
            | none => true
            | some _ => false)
          have e2 : z_jV a none (fun o => match o with
            | none => true
            | some _ => false) = true := by
            cases a with
            | none => rfl
            | some u => rcases u with u | u | ⟨p, i⟩ <;> rfl
          rw [e2] at e
          cases e
        | some u =>
          refine ⟨⟨u, rfl⟩, g3 v x rfl (fun u' hu => ?_) (fun z => (by cases z))⟩
          cases hu
          exact g _ rfl
      | succ j =>
        simp only [List.getElem?_cons_succ] at h g ⊢
        exact h4 j v x h g
theorem z_jL_l {l m n : zL} {L : aL} (h2 : n.length = l.length) (h3 : ∀ (j : Nat) (v : zV) (x : aV), n[j]? = some (some v) → (∀ u, l[j]? = some (some u) → z_v u x) → (∃ u, l[j]? = some (some u)) ∧ z_v v x) (hL : z_L l L) : z_L n L := by
  refine ⟨by rw [h2]; exact hL.1, fun j v hj => ?_⟩
  cases hx : L[j]? with
  | none =>
    have hlt : j < n.length := by
      obtain ⟨h, -⟩ := List.getElem?_eq_some_iff.mp hj
      exact h
    have := List.getElem?_eq_none_iff.mp hx
    rw [hL.1] at this
    omega
  | some o =>
    cases o with
    | none =>
      exfalso
      obtain ⟨⟨u, hu⟩, -⟩ := h3 j v (vI 0) hj (fun u hu => by
        obtain ⟨x, hx2, -⟩ := hL.2 j u hu
        rw [hx] at hx2
        cases hx2)
      obtain ⟨x, hx2, -⟩ := hL.2 j u hu
      rw [hx] at hx2
      cases hx2
    | some x =>
      refine ⟨x, rfl, (h3 j v x hj (fun u hu => ?_)).2⟩
      obtain ⟨y, hy, hv⟩ := hL.2 j u hu
      rw [hx] at hy
      cases hy
      exact hv
def z_jO {α : Type} : zG → zG → (zG → α) → α
  | [], _, k => k []
  | e :: r, o, k => match z_oR o e.1 with
    | none => z_jO r o k
    | some v => z_jI e.2 v (fun w => z_jO r o (fun q => k ((e.1, w) :: q)))
theorem z_jO_ok : ∀ (g h : zG), ∃ n : zG, (∀ {α : Type} (k : zG → α), z_jO g h k = k n) ∧ (∀ M, z_MG g M → z_MG n M) ∧ (∀ M, z_MG h M → z_MG n M)
  | [], h => ⟨[], fun k => rfl, fun M _ e he => (by cases he), fun M _ e he => (by cases he)⟩
  | e :: r, h => by
    obtain ⟨n, h1, h2, h3⟩ := z_jO_ok r h
    cases ho : z_oR h e.1 with
    | none =>
      refine ⟨n, fun k => ?_, fun M hM => h2 M (fun f hf => hM f (List.mem_cons_of_mem _ hf)), h3⟩
      show (match z_oR h e.1 with
        | none => z_jO r h k
        | some v => z_jI e.2 v (fun w => z_jO r h (fun q => k ((e.1, w) :: q)))) = _
      rw [ho]
      exact h1 k
    | some v =>
      refine ⟨(e.1, (z_lo e.2.1 v.1, z_hi e.2.2 v.2)) :: n, fun k => ?_, fun M hM f hf => ?_, fun M hM f hf => ?_⟩
      · show (match z_oR h e.1 with
          | none => z_jO r h k
          | some v => z_jI e.2 v (fun w => z_jO r h (fun q => k ((e.1, w) :: q)))) = _
        rw [ho]
        dsimp only
        rw [z_jI_eq, h1]
      · rcases List.mem_cons.mp hf with rfl | hf
        · exact fun k i j g1 g2 g3 => z_jI_l (hM e List.mem_cons_self k i j g1 g2 g3)
        · exact h2 M (fun f hf => hM f (List.mem_cons_of_mem _ hf)) f hf
      · rcases List.mem_cons.mp hf with rfl | hf
        · exact fun k i j g1 g2 g3 => z_jI_r (hM _ (z_oR_ok ho) k i j g1 g2 g3)
        · exact h3 M hM f hf
theorem z_M_g {C : zC} {M0 M : aM} {g g' : zG} (h : z_M C M0 g M) (hg : z_MG g M → z_MG g' M) : z_M C M0 g' M := ⟨h.1, h.2.1, hg h.2.2⟩
/-! outcomes -/
abbrev zE : Type := (Option zV × zG) ⊕ ((Nat × zG) ⊕ (Nat × zL × zG))
abbrev zO : Type := Option (List zE)
/-- what an outcome asks -/
def z_ok (C : zC) (M0 : aM) (post : Option aV → aM → Prop) (px : Nat → aM → Prop) (ps : Nat → aL → aM → Prop) : zE → Prop
  | .inl (v, g) => ∀ v1 M1, z_ov v v1 → z_M C M0 g M1 → post v1 M1
  | .inr (.inl (x, g)) => ∀ M1, z_M C M0 g M1 → px x M1
  | .inr (.inr (p, L, g)) => ∀ L1 M1, z_L L L1 → z_M C M0 g M1 → ps p L1 M1
def z_beq (a b : Bool) : Bool := bif a then b else !b
def z_eqO (a b : Option zV) : Bool := match a with
  | none => match b with
    | none => true
    | some _ => false
  | some a => match b with
    | none => false
    | some b => match a with
      | .inl u => match b with
        | .inl v => Nat.beq u.1 v.1 && Nat.beq u.2 v.2
        | .inr _ => false
      | .inr (.inl o) => match o with
        | some _ => false
        | none => match b with
          | .inr (.inl none) => true
          | _ => false
      | .inr (.inr (p, i)) => match b with
        | .inr (.inr (q, j)) => Nat.beq p q && Nat.beq i j
        | _ => false
theorem z_eqO_ok {a b : Option zV} (h : z_eqO a b = true) : a = b := by
  cases a with
  | none => cases b with
    | none => rfl
    | some b => cases h
  | some a => cases b with
    | none => cases h
    | some b =>
      rcases a with u | u | ⟨p, i⟩
      · rcases b with v | v
        · have h : (Nat.beq u.1 v.1 && Nat.beq u.2 v.2) = true := h
          rw [Bool.and_eq_true] at h
          have e : u = v := Prod.ext (Nat.eq_of_beq_eq_true h.1) (Nat.eq_of_beq_eq_true h.2)
          rw [e]
        · cases h
      · cases u with
        | some u => cases h
        | none =>
          rcases b with v | v | v
          · cases h
          · cases v with
            | none => rfl
            | some v => cases h
          · cases h
      · rcases b with v | v | ⟨q, j⟩
        · cases h
        · cases h
        · have h : (Nat.beq p q && Nat.beq i j) = true := h
          rw [Bool.and_eq_true] at h
          rw [Nat.eq_of_beq_eq_true h.1, Nat.eq_of_beq_eq_true h.2]
/-- states are told apart by whether the first wrong byte is known -/
def z_sgk (g : zG) (n : Nat) : Bool := match z_oR g n with
  | some v => Nat.beq v.1 v.2
  | none => false
def z_eqk (g h : zG) (n : Nat) : Bool := match z_oR g n with
  | none => (match z_oR h n with
    | none => true
    | some _ => false)
  | some u => (match z_oR h n with
    | none => false
    | some v => Nat.beq u.1 v.1 && Nat.beq u.2 v.2)
def z_par (g h : zG) : Bool := (z_beq (z_sgk g 589833) (z_sgk h 589833) && z_beq (z_sgk g 49157) (z_sgk h 49157)) && ((z_eqk g h 606209 && z_eqk g h 606210) && (z_eqk g h 606215 && z_eqk g h 606216))
def z_mrg {α : Type} (e f : zE) (yes : zE → α) (no : α) : α := match e with
  | .inl (v, g) => match f with
    | .inl (w, h) => bif z_eqO v w && z_par g h then z_jO g h (fun q => yes (.inl (v, q))) else no
    | .inr _ => no
  | .inr (.inl (x, g)) => match f with
    | .inr (.inl (y, h)) => bif Nat.beq x y && z_par g h then z_jO g h (fun q => yes (.inr (.inl (x, q)))) else no
    | _ => no
  | .inr (.inr (p, L, g)) => match f with
    | .inr (.inr (q, L', h)) => bif Nat.beq p q && (Nat.beq L.length L'.length && z_par g h) then z_jL L L' (fun l => z_jO g h (fun o => yes (.inr (.inr (p, l, o))))) else no
    | _ => no
theorem z_mrg_ok {α : Type} (e f : zE) (yes : zE → α) (no : α) : z_mrg e f yes no = no ∨ ∃ q, z_mrg e f yes no = yes q ∧ ∀ {C M0 post px ps}, z_ok C M0 post px ps q → z_ok C M0 post px ps e ∧ z_ok C M0 post px ps f := by
  rcases e with ⟨v, g⟩ | ⟨x, g⟩ | ⟨p, L, g⟩
  · rcases f with ⟨w, h⟩ | f
    · cases hb : (z_eqO v w && z_par g h) with
      | false =>
        refine Or.inl ?_
        show (bif z_eqO v w && z_par g h then _ else no) = no
        rw [hb]
        rfl
      | true =>
        refine Or.inr ?_
        obtain ⟨n, h1, h2, h3⟩ := z_jO_ok g h
        rw [Bool.and_eq_true] at hb
        refine ⟨.inl (v, n), ?_, fun hq => ⟨fun v1 M1 a b => hq v1 M1 a (z_M_g b (h2 M1)), fun v1 M1 a b => hq v1 M1 (by rw [z_eqO_ok hb.1]; exact a) (z_M_g b (h3 M1))⟩⟩
        show (bif z_eqO v w && z_par g h then z_jO g h (fun q => yes (.inl (v, q))) else no) = _
        rw [hb.1, hb.2, Bool.and_true, cond_true, h1]
    · exact Or.inl rfl
  · rcases f with f | ⟨y, h⟩ | f
    · exact Or.inl rfl
    · cases hb : (Nat.beq x y && z_par g h) with
      | false =>
        refine Or.inl ?_
        show (bif Nat.beq x y && z_par g h then _ else no) = no
        rw [hb]
        rfl
      | true =>
        refine Or.inr ?_
        obtain ⟨n, h1, h2, h3⟩ := z_jO_ok g h
        rw [Bool.and_eq_true] at hb
        have e := Nat.eq_of_beq_eq_true hb.1
        refine ⟨.inr (.inl (x, n)), ?_, fun hq => ⟨fun M1 b => hq M1 (z_M_g b (h2 M1)), fun M1 b => by rw [← e]; exact hq M1 (z_M_g b (h3 M1))⟩⟩
        show (bif Nat.beq x y && z_par g h then z_jO g h (fun q => yes (.inr (.inl (x, q)))) else no) = _
        rw [hb.1, hb.2, Bool.and_true, cond_true, h1]
    · exact Or.inl rfl
  · rcases f with f | f | ⟨q, L', h⟩
    · exact Or.inl rfl
    · exact Or.inl rfl
    · cases hb : (Nat.beq p q && (Nat.beq L.length L'.length && z_par g h)) with
      | false =>
        refine Or.inl ?_
        show (bif Nat.beq p q && (Nat.beq L.length L'.length && z_par g h) then _ else no) = no
        rw [hb]
        rfl
      | true =>
        refine Or.inr ?_
        obtain ⟨n, h1, h2, h3⟩ := z_jO_ok g h
        obtain ⟨l, g1, g2, g3, g4⟩ := z_jL_ok L L'
        rw [Bool.and_eq_true, Bool.and_eq_true] at hb
        have e := Nat.eq_of_beq_eq_true hb.1
        have e2 := Nat.eq_of_beq_eq_true hb.2.1
        refine ⟨.inr (.inr (p, l, n)), ?_, fun hq => ⟨fun L1 M1 a b => hq L1 M1 (z_jL_l (m := L') g2 g3 a) (z_M_g b (h2 M1)), fun L1 M1 a b => by rw [← e]; exact hq L1 M1 (z_jL_l (m := L) (by rw [g2, e2]) g4 a) (z_M_g b (h3 M1))⟩⟩
        show (bif Nat.beq p q && (Nat.beq L.length L'.length && z_par g h) then z_jL L L' (fun l => z_jO g h (fun o => yes (.inr (.inr (p, l, o))))) else no) = _
        rw [hb.1, hb.2.1, hb.2.2, Bool.and_true, Bool.and_true, cond_true, g1, h1]
def z_insK {α : Type} (e : zE) : List zE → (List zE → α) → α
  | [], k => k [e]
  | f :: r, k => z_mrg e f (fun q => k (q :: r)) (z_insK e r (fun q => k (f :: q)))
/-- all are good -/
def z_all (C : zC) (M0 : aM) (post : Option aV → aM → Prop) (px : Nat → aM → Prop) (ps : Nat → aL → aM → Prop) (l : List zE) : Prop := ∀ e ∈ l, z_ok C M0 post px ps e
theorem z_insK_ok {α : Type} {e : zE} : ∀ {l : List zE} {k : List zE → α}, ∃ m, z_insK e l k = k m ∧ ∀ {C M0 post px ps}, z_all C M0 post px ps m → z_ok C M0 post px ps e ∧ z_all C M0 post px ps l
  | [], k => ⟨[e], rfl, fun h => ⟨h e (List.mem_singleton.mpr rfl), fun f hf => (by cases hf)⟩⟩
  | f :: r, k => by
    obtain ⟨m, h1, h2⟩ := z_insK_ok (e := e) (l := r) (k := fun q => k (f :: q))
    rcases z_mrg_ok e f (fun q => k (q :: r)) (z_insK e r (fun q => k (f :: q))) with h | ⟨q, h, h3⟩
    · refine ⟨f :: m, ?_, fun hm => ?_⟩
      · show z_mrg e f (fun q => k (q :: r)) (z_insK e r (fun q => k (f :: q))) = _
        rw [h, h1]
      · obtain ⟨a, b⟩ := h2 (fun x hx => hm x (List.mem_cons_of_mem _ hx))
        exact ⟨a, List.forall_mem_cons.mpr ⟨hm f List.mem_cons_self, b⟩⟩
    · refine ⟨q :: r, h, fun hm => ?_⟩
      obtain ⟨a, b⟩ := h3 (hm q List.mem_cons_self)
      exact ⟨a, List.forall_mem_cons.mpr ⟨b, fun x hx => hm x (List.mem_cons_of_mem _ hx)⟩⟩
def z_appK {α : Type} : List zE → List zE → (List zE → α) → α
  | [], l, k => k l
  | e :: r, l, k => z_insK e l (fun q => z_appK r q k)
theorem z_appK_ok {α : Type} : ∀ {r l : List zE} {k : List zE → α}, ∃ m, z_appK r l k = k m ∧ ∀ {C M0 post px ps}, z_all C M0 post px ps m → z_all C M0 post px ps r ∧ z_all C M0 post px ps l
  | [], l, k => ⟨l, rfl, fun h => ⟨fun e he => (by cases he), h⟩⟩
  | e :: r, l, k => by
    obtain ⟨m, h1, h2⟩ := z_insK_ok (e := e) (l := l) (k := fun q => z_appK r q k)
    obtain ⟨n, h3, h4⟩ := z_appK_ok (r := r) (l := m) (k := k)
    refine ⟨n, ?_, fun h => ?_⟩
    · show z_insK e l (fun q => z_appK r q k) = _
      rw [h1, h3]
    · obtain ⟨a, b⟩ := h4 h
      obtain ⟨c, d⟩ := h2 b
      exact ⟨List.forall_mem_cons.mpr ⟨c, a⟩, d⟩
/-! runs -/
def z_cat {β : Type} (f : β → zO) : List β → zO
  | [] => some []
  | p :: ps => match ps with
    | [] => f p
    | _ :: _ => match f p with
      | none => none
      | some o => match z_cat f ps with
        | none => none
        | some o' => z_appK o o' some
theorem z_cat_ok {β : Type} {f : β → zO} {C : zC} {M0 : aM} {post : Option aV → aM → Prop} {px : Nat → aM → Prop} {sp : Nat → aL → aM → Prop} : ∀ {ps : List β} {os : List zE}, z_cat f ps = some os → z_all C M0 post px sp os → ∀ p ∈ ps, ∃ o, f p = some o ∧ z_all C M0 post px sp o
  | [], _, _, _, p, hp => by cases hp
  | [q], os, h, ha, p, hp => by
    rw [List.mem_singleton.mp hp]
    exact ⟨os, h, ha⟩
  | q :: q2 :: ps, os, h, ha, p, hp => by
    unfold z_cat at h
    dsimp only at h
    cases h1 : f q with
    | none => rw [h1] at h; cases h
    | some o =>
      rw [h1] at h
      dsimp only at h
      cases h2 : z_cat f (q2 :: ps) with
      | none => rw [h2] at h; cases h
      | some o' =>
        rw [h2] at h
        dsimp only at h
        obtain ⟨m, h3, h4⟩ := z_appK_ok (r := o) (l := o') (k := some)
        rw [h3] at h
        cases h
        obtain ⟨a, b⟩ := h4 ha
        rcases List.mem_cons.mp hp with rfl | hp
        · exact ⟨o, h1, a⟩
        · exact z_cat_ok h2 b p hp
/-- the outcomes of a call: its answers go on, it throws nothing -/
def z_cal (f : Option zV → zG → zO) : List zE → zO
  | [] => some []
  | e :: es => match e with
    | .inl (v, g) => match es with
      | [] => f v g
      | _ :: _ => match f v g with
        | none => none
        | some o => match z_cal f es with
          | none => none
          | some o' => z_appK o o' some
    | .inr _ => none
theorem z_cal_ok {f : Option zV → zG → zO} {C : zC} {M0 : aM} {post : Option aV → aM → Prop} {px : Nat → aM → Prop} {sp : Nat → aL → aM → Prop} : ∀ {es : List zE} {os : List zE}, z_cal f es = some os → z_all C M0 post px sp os → ∀ e ∈ es, ∃ v g o, e = .inl (v, g) ∧ f v g = some o ∧ z_all C M0 post px sp o
  | [], _, _, _, p, hp => by cases hp
  | .inr q :: es, os, h, ha, p, hp => by cases h
  | [.inl (v, g)], os, h, ha, p, hp => by
    rw [List.mem_singleton.mp hp]
    exact ⟨v, g, os, rfl, h, ha⟩
  | .inl (v, g) :: q2 :: es, os, h, ha, p, hp => by
    unfold z_cal at h
    dsimp only at h
    cases h1 : f v g with
    | none => rw [h1] at h; cases h
    | some o =>
      rw [h1] at h
      dsimp only at h
      cases h2 : z_cal f (q2 :: es) with
      | none => rw [h2] at h; cases h
      | some o' =>
        rw [h2] at h
        dsimp only at h
        obtain ⟨m, h3, h4⟩ := z_appK_ok (r := o) (l := o') (k := some)
        rw [h3] at h
        cases h
        obtain ⟨a, b⟩ := h4 ha
        rcases List.mem_cons.mp hp with rfl | hp
        · exact ⟨v, g, o, rfl, h1, a⟩
        · exact z_cal_ok h2 b p hp
def z_ext (p : Nat) : List zE → Option ((zL × zG) × List zE)
  | [] => none
  | e :: r => match e with
    | .inr (.inr (q, L, g)) => bif Nat.beq p q then some ((L, g), r) else (match z_ext p r with
      | none => none
      | some (x, r') => some (x, e :: r'))
    | .inl _ => (match z_ext p r with
      | none => none
      | some (x, r') => some (x, e :: r'))
    | .inr (.inl _) => (match z_ext p r with
      | none => none
      | some (x, r') => some (x, e :: r'))
theorem z_ext_ok {p : Nat} {C : zC} {M0 : aM} {post : Option aV → aM → Prop} {px : Nat → aM → Prop} {sp : Nat → aL → aM → Prop} : ∀ {l : List zE} {L : zL} {g : zG} {r : List zE}, z_ext p l = some ((L, g), r) → z_ok C M0 post px sp (.inr (.inr (p, L, g))) → z_all C M0 post px sp r → z_all C M0 post px sp l
  | [], _, _, _, h, _, _ => by cases h
  | e :: t, L, g, r, h, h1, h2 => by
    have key : ∀ {r : List zE}, (match z_ext p t with
      | none => none
      | some (x, r') => some (x, e :: r')) = some ((L, g), r) → z_all C M0 post px sp r → z_all C M0 post px sp (e :: t) := by
      intro r h h2
      cases he : z_ext p t with
      | none => rw [he] at h; cases h
      | some xr =>
        obtain ⟨⟨L1, g1⟩, r'⟩ := xr
        rw [he] at h
        cases h
        exact List.forall_mem_cons.mpr ⟨h2 e List.mem_cons_self, z_ext_ok he h1 (fun x hx => h2 x (List.mem_cons_of_mem _ hx))⟩
    rcases e with e | e | ⟨q, L2, g2⟩
    · exact key h h2
    · exact key h h2
    · cases hb : Nat.beq p q with
      | false =>
        have h : (bif Nat.beq p q then some ((L2, g2), t) else (match z_ext p t with
          | none => none
          | some (x, r') => some (x, .inr (.inr (q, L2, g2)) :: r'))) = some ((L, g), r) := h
        rw [hb, cond_false] at h
        exact key h h2
      | true =>
        have h : (bif Nat.beq p q then some ((L2, g2), t) else (match z_ext p t with
          | none => none
          | some (x, r') => some (x, .inr (.inr (q, L2, g2)) :: r'))) = some ((L, g), r) := h
        rw [hb, cond_true] at h
        cases h
        rw [← Nat.eq_of_beq_eq_true hb]
        exact List.forall_mem_cons.mpr ⟨h1, h2⟩
def z_iter (body : zL → zG → zO) (p : Nat) : Nat → zL → zG → List zE → zO
  | 0, _, _, _ => none
  | n + 1, L, g, acc => match body L g with
    | none => none
    | some os => match z_ext p os with
      | none => z_appK os acc some
      | some ((L', g'), r) => z_appK r acc (fun a => z_iter body p n L' g' a)
theorem z_iter_ok {body : zL → zG → zO} {p : Nat} {C : zC} {M0 : aM} {post : Option aV → aM → Prop} {px : Nat → aM → Prop} {sp : Nat → aL → aM → Prop} {K : aL → aM → Prop} (hb : ∀ L g os, body L g = some os → z_all C M0 post px sp os → ∀ L1 M1, z_L L L1 → z_M C M0 g M1 → K L1 M1) (hsp : ∀ L M, K L M → sp p L M) : ∀ (n : Nat) (L : zL) (g : zG) (acc os : List zE), z_iter body p n L g acc = some os → z_all C M0 post px sp os → z_all C M0 post px sp acc ∧ ∀ L1 M1, z_L L L1 → z_M C M0 g M1 → K L1 M1
  | 0, _, _, _, _, h, _ => by cases h
  | n + 1, L, g, acc, os, h, ha => by
    unfold z_iter at h
    cases h1 : body L g with
    | none => rw [h1] at h; cases h
    | some o =>
      rw [h1] at h
      dsimp only at h
      cases h2 : z_ext p o with
      | none =>
        rw [h2] at h
        dsimp only at h
        obtain ⟨m, h3, h4⟩ := z_appK_ok (r := o) (l := acc) (k := some)
        rw [h3] at h
        cases h
        obtain ⟨a, b⟩ := h4 ha
        exact ⟨b, hb _ _ _ h1 a⟩
      | some x =>
        obtain ⟨⟨L', g'⟩, r⟩ := x
        rw [h2] at h
        dsimp only at h
        obtain ⟨m, h3, h4⟩ := z_appK_ok (r := r) (l := acc) (k := fun a => z_iter body p n L' g' a)
        rw [h3] at h
        obtain ⟨a, b⟩ := z_iter_ok hb hsp n L' g' m os h ha
        obtain ⟨c, d⟩ := h4 a
        exact ⟨d, hb _ _ _ h1 (z_ext_ok h2 (fun L1 M1 q1 q2 => hsp _ _ (b L1 M1 q1 q2)) c)⟩
def z_con (f : Nat → zL → zG → zO) : List zE → List zE → zO
  | [], acc => some acc
  | e :: r, acc => match e with
    | .inr (.inr (q, L, g)) => match f q L g with
      | none => none
      | some os => z_appK os acc (fun a => z_con f r a)
    | .inl x => z_insK (.inl x) acc (fun a => z_con f r a)
    | .inr (.inl x) => z_insK (.inr (.inl x)) acc (fun a => z_con f r a)
theorem z_con_ok {f : Nat → zL → zG → zO} {C : zC} {M0 : aM} {post : Option aV → aM → Prop} {px : Nat → aM → Prop} {sp sp' : Nat → aL → aM → Prop} (hf : ∀ q L g os, f q L g = some os → z_all C M0 post px sp os → ∀ L1 M1, z_L L L1 → z_M C M0 g M1 → sp' q L1 M1) : ∀ (l acc os : List zE), z_con f l acc = some os → z_all C M0 post px sp os → z_all C M0 post px sp acc ∧ z_all C M0 post px sp' l
  | [], acc, os, h, ha => by
    cases h
    exact ⟨ha, fun e he => (by cases he)⟩
  | e :: r, acc, os, h, ha => by
    rcases e with ⟨v, g⟩ | ⟨x, g⟩ | ⟨q, L, g⟩
    · obtain ⟨m, h1, h2⟩ := z_insK_ok (e := .inl (v, g)) (l := acc) (k := fun a => z_con f r a)
      have h : z_insK (.inl (v, g)) acc (fun a => z_con f r a) = some os := h
      rw [h1] at h
      obtain ⟨a, b⟩ := z_con_ok hf r m os h ha
      obtain ⟨c, d⟩ := h2 a
      exact ⟨d, List.forall_mem_cons.mpr ⟨c, b⟩⟩
    · obtain ⟨m, h1, h2⟩ := z_insK_ok (e := .inr (.inl (x, g))) (l := acc) (k := fun a => z_con f r a)
      have h : z_insK (.inr (.inl (x, g))) acc (fun a => z_con f r a) = some os := h
      rw [h1] at h
      obtain ⟨a, b⟩ := z_con_ok hf r m os h ha
      obtain ⟨c, d⟩ := h2 a
      exact ⟨d, List.forall_mem_cons.mpr ⟨c, b⟩⟩
    · have h : (match f q L g with
        | none => none
        | some os => z_appK os acc (fun a => z_con f r a)) = some os := h
      cases h1 : f q L g with
      | none => rw [h1] at h; cases h
      | some o =>
        rw [h1] at h
        dsimp only at h
        obtain ⟨m, h3, h4⟩ := z_appK_ok (r := o) (l := acc) (k := fun a => z_con f r a)
        rw [h3] at h
        obtain ⟨a, b⟩ := z_con_ok hf r m os h ha
        obtain ⟨c, d⟩ := h4 a
        exact ⟨d, List.forall_mem_cons.mpr ⟨hf _ _ _ _ h1 c, b⟩⟩
def z_nil (S : List zV) : Bool := match S with
  | [] => true
  | _ :: _ => false
/-- a local whose bounds are cut at a place -/
def z_sp (pc : Nat) : List (Nat × Nat × List zI) → Option (Nat × List zI)
  | [] => none
  | e :: r => bif Nat.beq e.1 pc then some e.2 else z_sp pc r
def z_cvI (n : Nat) (hi : Nat) : List zI → Bool
  | [] => Nat.blt hi n
  | v :: r => Nat.ble v.1 n && z_cvI (z_hi n (v.2 + 1)) hi r
theorem z_cvI_ok {x : Int32} : ∀ {n hi : Nat} {l : List zI}, z_cvI n hi l = true → n ≤ z_b x → z_b x ≤ hi → ∃ v ∈ l, z_i v x
  | n, hi, [], h, h1, h2 => by
    have := z_blt h
    omega
  | n, hi, v :: r, h, h1, h2 => by
    have h : (Nat.ble v.1 n && z_cvI (z_hi n (v.2 + 1)) hi r) = true := h
    rw [Bool.and_eq_true] at h
    have h3 := z_ble h.1
    by_cases hv : z_b x ≤ v.2
    · exact ⟨v, List.mem_cons_self, by omega, hv⟩
    · have h4 : z_hi n (v.2 + 1) ≤ z_b x := by
        unfold z_hi
        cases hq : Nat.ble n (v.2 + 1) with
        | true => rw [cond_true]; omega
        | false => rw [cond_false]; omega
      obtain ⟨w, hw, hi⟩ := z_cvI_ok (x := x) h.2 h4 h2
      exact ⟨w, List.mem_cons_of_mem _ hw, hi⟩
theorem z_L_pc {Lz : zL} {L : aL} {n : Nat} {v : zI} {ps : List zI} (hL : z_L Lz L) (h : Lz[n]? = some (some (.inl v))) (hc : z_cvI v.1 v.2 ps = true) : ∃ p ∈ ps, z_L (Lz.set n (some (.inl p))) L := by
  obtain ⟨x, hx, hv⟩ := hL.2 n _ h
  rcases x with x | x | x
  · obtain ⟨p, hp, hi⟩ := z_cvI_ok (x := x) hc hv.1 hv.2
    refine ⟨p, hp, ?_⟩
    have h2 := z_set_ok hL n (v := .inl p) (x := .inl x) hi
    have e : L.set n (some (.inl x)) = L := by
      apply List.ext_getElem?
      intro j
      rw [List.getElem?_set]
      by_cases hj : n = j
      · subst hj
        obtain ⟨hlt, -⟩ := List.getElem?_eq_some_iff.mp hx
        rw [if_pos rfl, if_pos hlt, hx]
      · rw [if_neg hj]
    rw [e] at h2
    exact h2
  · exact False.elim hv
  · exact False.elim hv
/-- the loops of a method: begin, last place -/
def z_hd (pc : Nat) : List (Nat × Nat) → Option Nat
  | [] => none
  | e :: r => bif Nat.beq e.1 pc then some e.2 else z_hd pc r
/-! a comparison of what was just loaded: both ways go on with narrower bounds -/
/-- a local; a field of a local's object (local, field, class); a number; how long the array in a field is -/
abbrev zOp : Type := Nat ⊕ ((Nat × Nat × Nat) ⊕ (Nat ⊕ (Nat × Nat × Nat)))
/-- what is compared, with what (nothing: 0), how, where it goes, where it goes else -/
abbrev zMc : Type := zOp × Option zOp × Nat × Nat × Nat
def z_isC : Instr → Bool
  | .iconst _ => true
  | .bipush _ => true
  | .sipush _ => true
  | _ => false
def z_opC (cd : List aE) (pc : Nat) (o : zOp) : Option Nat := match o with
  | .inl n => (match a_fnd cd pc with
    | some (.iload_n _, x, _, _, _, nx) => bif Nat.beq x n then some nx else none
    | some (.iload _, x, _, _, _, nx) => bif Nat.beq x n then some nx else none
    | _ => none)
  | .inr (.inl (n, f, q)) => (match a_fnd cd pc with
    | some (.aload_n _, x, _, _, _, nx) => bif Nat.beq x n then (match a_fnd cd nx with
      | some (.getfield _, x2, y2, _, _, nx2) => bif Nat.beq x2 f && Nat.beq y2 q then some nx2 else none
      | _ => none) else none
    | some (.aload _, x, _, _, _, nx) => bif Nat.beq x n then (match a_fnd cd nx with
      | some (.getfield _, x2, y2, _, _, nx2) => bif Nat.beq x2 f && Nat.beq y2 q then some nx2 else none
      | _ => none) else none
    | _ => none)
  | .inr (.inr (.inr (n, f, q))) => (match a_fnd cd pc with
    | some (.aload_n _, x, _, _, _, nx) => bif Nat.beq x n then (match a_fnd cd nx with
      | some (.getfield _, x2, y2, _, _, nx2) => bif Nat.beq x2 f && Nat.beq y2 q then (match a_fnd cd nx2 with
        | some (.arraylength, _, _, _, _, nx3) => some nx3
        | _ => none) else none
      | _ => none) else none
    | _ => none)
  | .inr (.inr (.inl cb)) => (match a_fnd cd pc with
    | some (i, _, _, c, _, nx) => bif z_isC i && Nat.beq (z_b c) cb then some nx else none
    | none => none)
def z_oE (C : zC) (L : zL) (g : zG) (o : zOp) : Option zI := match o with
  | .inl n => (match L[n]? with
    | some (some (.inl v)) => some v
    | _ => none)
  | .inr (.inl (n, f, q)) => (match L[n]? with
    | some (some (.inr (.inr (k, i)))) => (match z_shp k with
      | some (.inl (ci, fl)) => bif Nat.beq ci q then (match fl[f]? with
        | some none => some (z_rd C g k i f f)
        | _ => none) else none
      | _ => none)
    | _ => none)
  | .inr (.inr (.inr (n, f, q))) => (match L[n]? with
    | some (some (.inr (.inr (k, _)))) => (match z_shp k with
      | some (.inl (ci, fl)) => bif Nat.beq ci q then (match fl[f]? with
        | some (some (k', _)) => (match z_shp k' with
          | some (.inr (_, m)) => z_f1 (z_b (Int32.ofNat m)) (fun v => some v)
          | _ => none)
        | _ => none) else none
      | _ => none)
    | _ => none)
  | .inr (.inr (.inl cb)) => some (cb, cb)
/-- where a number came from -/
def z_src (L : aL) (M : aM) (o : zOp) (x : Int32) : Prop := match o with
  | .inl n => L[n]? = some (some (.inl x))
  | .inr (.inl (n, f, _)) => ∃ k i, L[n]? = some (some (.inr (.inr (k, i)))) ∧ x = M.1 k i f
  | .inr (.inr _) => True
theorem z_opd_ok {C : zC} {nS d : Nat} {cal : Nat → List aV → aM → (Option aV → aM → Prop) → Prop} {rt : Option FieldType} {cd : List aE} {post : Option aV → aM → Prop} {px : Nat → aM → Prop} {K : aK} {M0 : aM}
    (hK : ∀ pc L S M, a_wp d nS cal rt cd post px K pc L S M → K pc L S M) {pc pc' : Nat} {o : zOp} {Lz : zL} {g : zG} {v : zI} {L : aL} {S : List aV} {M : aM}
    (hc : z_opC cd pc o = some pc') (hE : z_oE C Lz g o = some v) (hL : z_L Lz L) (hM : z_M C M0 g M) : ∃ x, z_i v x ∧ z_src L M o x ∧ (K pc' L (.inl x :: S) M → K pc L S M) := by
  rcases o with n | ⟨n, f, q⟩ | cb | ⟨n, f, q⟩
  · unfold z_oE at hE
    dsimp only at hE
    split at hE
    · rename_i w hw
      cases hE
      obtain ⟨x, hx, hv⟩ := hL.2 n _ hw
      rcases x with x | x | x
      · refine ⟨x, hv, hx, fun z => hK _ _ _ _ ?_⟩
        unfold z_opC at hc
        unfold a_wp
        cases hf : a_fnd cd pc with
        | none => rw [hf] at hc; cases hc
        | some e =>
          obtain ⟨i, x1, y1, c1, t1, nx⟩ := e
          rw [hf] at hc
          dsimp only
          cases i <;> first | (cases hc; done) | skip
          all_goals
            obtain ⟨h1, h2⟩ := z_q hc
            have e1 := Nat.eq_of_beq_eq_true h1
            subst e1
            subst h2
            unfold a_w1
            dsimp only
            rw [hx]
            exact z
      · exact False.elim hv
      · exact False.elim hv
    · cases hE
  · unfold z_oE at hE
    dsimp only at hE
    split at hE
    · rename_i k i hw
      obtain ⟨x, hx, hv⟩ := hL.2 n _ hw
      rcases x with x | x | ⟨k', i'⟩
      · exact False.elim hv
      · exact False.elim hv
      · obtain ⟨rfl, hi⟩ := hv
        split at hE
        · rename_i ci fl hsh
          rw [z_shp_eq] at hsh
          have hi' := z_shp7 hsh hi
          subst hi'
          cases hq : Nat.beq ci q with
          | false => rw [hq] at hE; cases hE
          | true =>
          rw [hq, cond_true] at hE
          split at hE
          · rename_i hfl
            cases hE
            refine ⟨M.1 k' i' f, z_rd_ok hM (Nat.le_refl _) (Nat.le_refl _), ⟨k', i', hx, rfl⟩, fun z => hK _ _ _ _ ?_⟩
            unfold z_opC at hc
            unfold a_wp
            cases hf : a_fnd cd pc with
            | none => rw [hf] at hc; cases hc
            | some e =>
              obtain ⟨ii, x1, y1, c1, t1, nx⟩ := e
              rw [hf] at hc
              dsimp only
              cases ii <;> first | (cases hc; done) | skip
              all_goals
                dsimp only at hc
                cases hb : Nat.beq x1 n with
                | false => rw [hb] at hc; cases hc
                | true =>
                rw [hb, cond_true] at hc
                have e1 := Nat.eq_of_beq_eq_true hb
                subst e1
                unfold a_w1
                dsimp only
                rw [hx]
                refine hK _ _ _ _ ?_
                unfold a_wp
                cases hf2 : a_fnd cd nx with
                | none => rw [hf2] at hc; cases hc
                | some e2 =>
                  obtain ⟨i2, x2, y2, c2, t2, nx2⟩ := e2
                  rw [hf2] at hc
                  dsimp only
                  cases i2 <;> first | (cases hc; done) | skip
                  obtain ⟨h1, h2⟩ := z_q hc
                  rw [Bool.and_eq_true] at h1
                  have e2 := Nat.eq_of_beq_eq_true h1.1
                  have e3 := Nat.eq_of_beq_eq_true h1.2
                  subst e2
                  subst e3
                  subst h2
                  unfold a_w1
                  dsimp only
                  rw [hsh]
                  dsimp only
                  rw [hq, cond_true, hfl]
                  exact z
          · cases hE
        · cases hE
    · cases hE
  · cases hE
    unfold z_opC at hc
    cases hf : a_fnd cd pc with
    | none => rw [hf] at hc; cases hc
    | some e =>
      obtain ⟨i, x1, y1, c1, t1, nx⟩ := e
      rw [hf] at hc
      obtain ⟨h1, h2⟩ := z_q hc
      rw [Bool.and_eq_true] at h1
      refine ⟨c1, ?_, trivial, fun z => hK _ _ _ _ ?_⟩
      · rw [← Nat.eq_of_beq_eq_true h1.2]
        exact z_i_self c1
      · unfold a_wp
        rw [hf]
        dsimp only
        subst h2
        have h3 := h1.1
        cases i <;> first | (cases h3; done) | exact z
  · unfold z_oE at hE
    dsimp only at hE
    split at hE
    · rename_i k i hw
      obtain ⟨x, hx, hv⟩ := hL.2 n _ hw
      rcases x with x | x | ⟨k', i'⟩
      · exact False.elim hv
      · exact False.elim hv
      · obtain ⟨rfl, hi⟩ := hv
        split at hE
        · rename_i ci fl hsh
          rw [z_shp_eq] at hsh
          have hi' := z_shp7 hsh hi
          subst hi'
          cases hq : Nat.beq ci q with
          | false => rw [hq] at hE; cases hE
          | true =>
          rw [hq, cond_true] at hE
          split at hE
          · rename_i k2 o2 hfl
            split at hE
            · rename_i bb m hsh2
              rw [z_shp_eq] at hsh2
              rw [z_f1_eq] at hE
              have hE := Option.some.inj hE
              subst hE
              refine ⟨Int32.ofNat m, z_i_self _, trivial, fun z => hK _ _ _ _ ?_⟩
              unfold z_opC at hc
              unfold a_wp
              cases hf : a_fnd cd pc with
              | none => rw [hf] at hc; cases hc
              | some e =>
                obtain ⟨ii, x1, y1, c1, t1, nx⟩ := e
                rw [hf] at hc
                dsimp only
                cases ii <;> first | (cases hc; done) | skip
                dsimp only at hc
                cases hb : Nat.beq x1 n with
                | false => rw [hb] at hc; cases hc
                | true =>
                rw [hb, cond_true] at hc
                have e1 := Nat.eq_of_beq_eq_true hb
                subst e1
                unfold a_w1
                dsimp only
                rw [hx]
                refine hK _ _ _ _ ?_
                unfold a_wp
                cases hf2 : a_fnd cd nx with
                | none => rw [hf2] at hc; cases hc
                | some e2 =>
                  obtain ⟨i2, x2, y2, c2, t2, nx2⟩ := e2
                  rw [hf2] at hc
                  dsimp only
                  cases i2 <;> first | (cases hc; done) | skip
                  dsimp only at hc
                  cases hb2 : (Nat.beq x2 f && Nat.beq y2 q) with
                  | false => rw [hb2] at hc; cases hc
                  | true =>
                  rw [hb2, cond_true] at hc
                  rw [Bool.and_eq_true] at hb2
                  have e2 := Nat.eq_of_beq_eq_true hb2.1
                  have e3 := Nat.eq_of_beq_eq_true hb2.2
                  subst e2
                  subst e3
                  cases hf3 : a_fnd cd nx2 with
                  | none => rw [hf3] at hc; cases hc
                  | some e4 =>
                    obtain ⟨i3, x3, y3, c3, t3, nx3⟩ := e4
                    rw [hf3] at hc
                    cases i3 <;> first | (cases hc; done) | skip
                    cases hc
                    unfold a_w1
                    dsimp only
                    rw [hsh]
                    dsimp only
                    rw [hq, cond_true, hfl]
                    cases o2 with
                    | none =>
                      dsimp only
                      refine hK _ _ _ _ ?_
                      unfold a_wp
                      rw [hf3]
                      dsimp only
                      unfold a_w1
                      dsimp only
                      rw [hsh2]
                      exact z
                    | some j2 =>
                      dsimp only
                      refine hK _ _ _ _ ?_
                      unfold a_wp
                      rw [hf3]
                      dsimp only
                      unfold a_w1
                      dsimp only
                      rw [hsh2]
                      exact z
            · cases hE
          · cases hE
        · cases hE
    · cases hE
/-- bounds of two numbers, where they compare so -/
def z_rT (cnd : Nat) (a b : zI) : Option (zI × zI) := match cnd with
  | 0 => bif Nat.ble (z_hi a.1 b.1) (z_lo a.2 b.2) then some ((z_hi a.1 b.1, z_lo a.2 b.2), (z_hi a.1 b.1, z_lo a.2 b.2)) else none
  | 1 => bif Nat.beq a.1 a.2 && (Nat.beq b.1 b.2 && Nat.beq a.1 b.1) then none else some ((bif Nat.beq b.1 b.2 && Nat.beq a.1 b.1 then a.1 + 1 else a.1, bif Nat.beq b.1 b.2 && Nat.beq a.2 b.1 then a.2 - 1 else a.2), (bif Nat.beq a.1 a.2 && Nat.beq b.1 a.1 then b.1 + 1 else b.1, bif Nat.beq a.1 a.2 && Nat.beq b.2 a.1 then b.2 - 1 else b.2))
  | 2 => bif Nat.blt a.1 b.2 then some ((a.1, z_lo a.2 (b.2 - 1)), (z_hi b.1 (a.1 + 1), b.2)) else none
  | 3 => bif Nat.ble b.1 a.2 then some ((z_hi a.1 b.1, a.2), (b.1, z_lo b.2 a.2)) else none
  | 4 => bif Nat.blt b.1 a.2 then some ((z_hi a.1 (b.1 + 1), a.2), (b.1, z_lo b.2 (a.2 - 1))) else none
  | _ => bif Nat.ble a.1 b.2 then some ((a.1, z_lo a.2 b.2), (z_hi b.1 a.1, b.2)) else none
def z_cP (cnd : Nat) (x y : Int32) : Prop := match cnd with
  | 0 => x = y
  | 1 => ¬ x = y
  | 2 => x < y
  | 3 => y ≤ x
  | 4 => y < x
  | _ => x ≤ y
theorem z_hi_lt {a b c : Nat} (h1 : a ≤ c) (h2 : b ≤ c) : z_hi a b ≤ c := by
  unfold z_hi
  cases Nat.ble a b with
  | true => exact h2
  | false => exact h1
theorem z_lo_gt {a b c : Nat} (h1 : c ≤ a) (h2 : c ≤ b) : c ≤ z_lo a b := by
  unfold z_lo
  cases Nat.ble a b with
  | true => exact h1
  | false => exact h2
theorem z_rT_ok {cnd : Nat} {a b : zI} {x y : Int32} (ha : z_i a x) (hb : z_i b y) (hc : z_cP cnd x y) : ∃ p, z_rT cnd a b = some p ∧ z_i p.1 x ∧ z_i p.2 y := by
  obtain ⟨a1, a2⟩ := ha
  obtain ⟨b1, b2⟩ := hb
  have key : ∀ {c : Bool} {p : zI × zI}, c = true → z_i p.1 x → z_i p.2 y → ∃ q, (bif c then some p else none) = some q ∧ z_i q.1 x ∧ z_i q.2 y := fun h1 h2 h3 => ⟨_, by rw [h1]; rfl, h2, h3⟩
  match cnd, hc with
  | 0, hc =>
    have e : z_b x = z_b y := by rw [show x = y from hc]
    have q1 : z_hi a.1 b.1 ≤ z_b x := z_hi_lt a1 (by omega)
    have q2 : z_b x ≤ z_lo a.2 b.2 := z_lo_gt a2 (by omega)
    exact key (Nat.ble_eq_true_of_le (by omega)) ⟨q1, q2⟩ ⟨by show z_hi a.1 b.1 ≤ z_b y; omega, by show z_b y ≤ z_lo a.2 b.2; omega⟩
  | 1, hc =>
    have hne : z_b x ≠ z_b y := fun z => hc (z_b_inj z)
    unfold z_rT
    cases h0 : (Nat.beq a.1 a.2 && (Nat.beq b.1 b.2 && Nat.beq a.1 b.1)) with
    | true =>
      simp only [Bool.and_eq_true] at h0
      have := Nat.eq_of_beq_eq_true h0.1
      have := Nat.eq_of_beq_eq_true h0.2.1
      have := Nat.eq_of_beq_eq_true h0.2.2
      omega
    | false =>
      refine ⟨_, rfl, ⟨?_, ?_⟩, ⟨?_, ?_⟩⟩
      · cases hq : (Nat.beq b.1 b.2 && Nat.beq a.1 b.1) with
        | false => exact a1
        | true =>
          rw [Bool.and_eq_true] at hq
          have := Nat.eq_of_beq_eq_true hq.1
          have := Nat.eq_of_beq_eq_true hq.2
          show a.1 + 1 ≤ z_b x
          omega
      · cases hq : (Nat.beq b.1 b.2 && Nat.beq a.2 b.1) with
        | false => exact a2
        | true =>
          rw [Bool.and_eq_true] at hq
          have := Nat.eq_of_beq_eq_true hq.1
          have := Nat.eq_of_beq_eq_true hq.2
          show z_b x ≤ a.2 - 1
          omega
      · cases hq : (Nat.beq a.1 a.2 && Nat.beq b.1 a.1) with
        | false => exact b1
        | true =>
          rw [Bool.and_eq_true] at hq
          have := Nat.eq_of_beq_eq_true hq.1
          have := Nat.eq_of_beq_eq_true hq.2
          show b.1 + 1 ≤ z_b y
          omega
      · cases hq : (Nat.beq a.1 a.2 && Nat.beq b.2 a.1) with
        | false => exact b2
        | true =>
          rw [Bool.and_eq_true] at hq
          have := Nat.eq_of_beq_eq_true hq.1
          have := Nat.eq_of_beq_eq_true hq.2
          show z_b y ≤ b.2 - 1
          omega
  | 2, hc =>
    have h := z_b_ltt.mp (show x < y from hc)
    exact key (Nat.ble_eq_true_of_le (by omega)) ⟨a1, z_lo_gt a2 (by omega)⟩ ⟨z_hi_lt b1 (by omega), b2⟩
  | 3, hc =>
    have h := z_b_le.mp (show y ≤ x from hc)
    exact key (Nat.ble_eq_true_of_le (by omega)) ⟨z_hi_lt a1 (by omega), a2⟩ ⟨b1, z_lo_gt b2 (by omega)⟩
  | 4, hc =>
    have h := z_b_ltt.mp (show y < x from hc)
    exact key (Nat.ble_eq_true_of_le (by omega)) ⟨z_hi_lt a1 (by omega), a2⟩ ⟨b1, z_lo_gt b2 (by omega)⟩
  | n + 5, hc =>
    have h := z_b_le.mp (show x ≤ y from hc)
    exact key (Nat.ble_eq_true_of_le (by omega)) ⟨a1, z_lo_gt a2 (by omega)⟩ ⟨z_hi_lt b1 (by omega), b2⟩
def z_ng (cnd : Nat) : Nat := match cnd with
  | 0 => 1
  | 1 => 0
  | 2 => 3
  | 3 => 2
  | 4 => 5
  | _ => 4
theorem z_ng_ok {cnd : Nat} {x y : Int32} (h : ¬ z_cP cnd x y) : z_cP (z_ng cnd) x y := by
  match cnd, h with
  | 0, h => exact h
  | 1, h => exact Classical.not_not.mp h
  | 2, h => exact Int32.not_lt.mp h
  | 3, h => exact Int32.not_le.mp h
  | 4, h => exact Int32.not_lt.mp h
  | n + 5, h => exact Int32.not_le.mp h
/-- what is known is written where the number came from -/
def z_asg {α : Type} (L : zL) (g : zG) (o : zOp) (v : zI) (k : zL → zG → α) : α := match o with
  | .inl n => z_fz v (fun v => a_fL (L.set n (some (.inl v))) (fun L => k L g))
  | .inr (.inl (n, f, _)) => (match L[n]? with
    | some (some (.inr (.inr (q, i)))) => bif Nat.beq q 97 || !(Nat.blt i 4 && Nat.blt f 4096) then k L g else a_fn (z_ky q i f) (fun y => z_fz v (fun v => a_fL ((y, v) :: z_oD g y y) (fun g => k L g)))
    | _ => k L g)
  | .inr (.inr _) => k L g
theorem z_asg_ok {α : Type} {C : zC} {M0 M : aM} {Lz : zL} {g : zG} {L : aL} {o : zOp} {v : zI} {x : Int32} {k : zL → zG → α} (hL : z_L Lz L) (hM : z_M C M0 g M) (hs : z_src L M o x) (hv : z_i v x) : ∃ L' g', z_asg Lz g o v k = k L' g' ∧ z_L L' L ∧ z_M C M0 g' M := by
  rcases o with n | ⟨n, f, q⟩ | cb
  · refine ⟨Lz.set n (some (.inl v)), g, ?_, ?_, hM⟩
    · show z_fz v (fun v => a_fL (Lz.set n (some (.inl v))) (fun L => k L g)) = _
      rw [z_fz_eq, a_fL_eq]
    · have hs : L[n]? = some (some (.inl x)) := hs
      have h2 := z_set_ok hL n (v := .inl v) (x := .inl x) hv
      have e : L.set n (some (.inl x)) = L := by
        apply List.ext_getElem?
        intro j
        rw [List.getElem?_set]
        by_cases hj : n = j
        · subst hj
          obtain ⟨hlt, -⟩ := List.getElem?_eq_some_iff.mp hs
          rw [if_pos rfl, if_pos hlt, hs]
        · rw [if_neg hj]
      rw [e] at h2
      exact h2
  · obtain ⟨k1, i1, h1, h2⟩ := hs
    cases hz : Lz[n]? with
    | none => exact ⟨Lz, g, by unfold z_asg; dsimp only; rw [hz], hL, hM⟩
    | some w =>
      cases w with
      | none => exact ⟨Lz, g, by unfold z_asg; dsimp only; rw [hz], hL, hM⟩
      | some w =>
        rcases w with w | w | ⟨k2, i2⟩
        · exact ⟨Lz, g, by unfold z_asg; dsimp only; rw [hz], hL, hM⟩
        · exact ⟨Lz, g, by unfold z_asg; dsimp only; rw [hz], hL, hM⟩
        · obtain ⟨y, hy, hyv⟩ := hL.2 n _ hz
          rw [h1] at hy
          cases hy
          obtain ⟨rfl, hi⟩ := hyv
          cases h97 : (Nat.beq k1 97 || !(Nat.blt i2 4 && Nat.blt f 4096)) with
          | true =>
            refine ⟨Lz, g, ?_, hL, hM⟩
            unfold z_asg
            dsimp only
            rw [hz]
            dsimp only
            rw [h97]
            rfl
          | false =>
            rw [Bool.or_eq_false_iff, Bool.not_eq_false', Bool.and_eq_true] at h97
            obtain ⟨h971, h972, h973⟩ := h97
            have w1 : i2 < 4 := z_blt h972
            have w2 : f < 4096 := z_blt h973
            have hi2 : i1 = i2 := by
              rcases hi with hi | hi
              · subst hi; cases h971
              · exact hi
            subst hi2
            refine ⟨Lz, (z_ky k1 i1 f, v) :: z_oD g (z_ky k1 i1 f) (z_ky k1 i1 f), ?_, hL, hM.1, hM.2.1, ?_⟩
            · unfold z_asg
              dsimp only
              rw [hz]
              dsimp only
              rw [h971, h972, h973]
              simp only [Bool.and_true, Bool.not_true, Bool.or_false, cond_false]
              rw [a_fn_eq, z_fz_eq, a_fL_eq]
            · refine List.forall_mem_cons.mpr ⟨fun k' i' j' q1 q2 q3 => ?_, fun e he => hM.2.2 e (z_oD_ok he).1⟩
              obtain ⟨e1, e2, e3⟩ := z_ky_lt q1 q2 w1 w2 q3
              subst e1
              subst e2
              subst e3
              rw [← h2]
              exact hv
  · exact ⟨Lz, g, rfl, hL, hM⟩
def z_cN : Instr → Option (Bool × Nat)
  | .ifCond cn _ => (match cn with
    | .eq => some (false, 0)
    | .ne => some (false, 1)
    | .lt => some (false, 2)
    | .ge => some (false, 3)
    | .gt => some (false, 4)
    | .le => some (false, 5))
  | .if_icmp cn _ => (match cn with
    | .eq => some (true, 0)
    | .ne => some (true, 1)
    | .lt => some (true, 2)
    | .ge => some (true, 3)
    | .gt => some (true, 4)
    | .le => some (true, 5))
  | _ => none
def z_mcJ (cd : List aE) (p : Nat) (b : Bool) (cnd tgt nx : Nat) : Bool := match a_fnd cd p with
  | some (i, x, _, _, _, nx') => (match z_cN i with
    | some (b', c') => z_beq b b' && (Nat.beq cnd c' && (Nat.beq x tgt && Nat.beq nx' nx))
    | none => false)
  | none => false
def z_mcC (cd : List aE) (pc : Nat) (m : zMc) : Bool := match z_opC cd pc m.1 with
  | none => false
  | some p => (match m.2.1 with
    | none => z_mcJ cd p false m.2.2.1 m.2.2.2.1 m.2.2.2.2
    | some o => (match z_opC cd p o with
      | none => false
      | some p2 => z_mcJ cd p2 true m.2.2.1 m.2.2.2.1 m.2.2.2.2))
def z_two1 (os : zO) (k : List zE → zO) : zO := match os with
  | none => none
  | some o => k o
def z_as2 (L : zL) (g : zG) (o : Option zOp) (v : zI) (k : zL → zG → zO) : zO := match o with
  | none => k L g
  | some o => z_asg L g o v k
def z_as12 (L : zL) (g : zG) (o1 : zOp) (o2 : Option zOp) (p : zI × zI) (k : zL → zG → zO) : zO := z_asg L g o1 p.1 (fun L g => z_as2 L g o2 p.2 k)
def z_br (C : zC) (L : zL) (g : zG) (o1 : zOp) (o2 : Option zOp) (cnd tgt nx : Nat) (a b : zI) (go : Nat → zL → zG → zO) : zO :=
  match z_rT cnd a b with
  | none => (match z_rT (z_ng cnd) a b with
    | none => none
    | some q => z_as12 L g o1 o2 q (fun L g => go nx L g))
  | some p => (match z_rT (z_ng cnd) a b with
    | none => z_as12 L g o1 o2 p (fun L g => go tgt L g)
    | some q => z_two1 (z_as12 L g o1 o2 p (fun L g => go tgt L g)) (fun os => z_two1 (z_as12 L g o1 o2 q (fun L g => go nx L g)) (fun os' => z_appK os os' some)))
def z_mc (C : zC) (L : zL) (g : zG) (m : zMc) (go : Nat → zL → zG → zO) : zO := match z_oE C L g m.1 with
  | none => none
  | some a => z_fz a (fun a => match m.2.1 with
    | none => z_br C L g m.1 none m.2.2.1 m.2.2.2.1 m.2.2.2.2 a (2147483648, 2147483648) go
    | some o => (match z_oE C L g o with
      | none => none
      | some b => z_fz b (fun b => z_br C L g m.1 (some o) m.2.2.1 m.2.2.2.1 m.2.2.2.2 a b go)))
theorem z_beq_ok {a b : Bool} (h : z_beq a b = true) : a = b := by
  cases a <;> cases b <;> first | rfl | cases h
theorem z_cN_ok {nS d : Nat} {cal : Nat → List aV → aM → (Option aV → aM → Prop) → Prop} {rt : Option FieldType} {post : Option aV → aM → Prop} {px : Nat → aM → Prop} {K : aK} {i : Instr} {b : Bool} {cnd : Nat} (hz : z_cN i = some (b, cnd)) {x1 y1 : Nat} {c1 : Int32} {t1 : List Nat} {nx : Nat} {L : aL} {S : List aV} {M : aM} {x y : Int32}
    (h1 : z_cP cnd x y → K x1 L S M) (h2 : ¬ z_cP cnd x y → K nx L S M) : (b = true → a_w1 d nS cal rt post px K i x1 y1 c1 t1 nx L (.inl y :: .inl x :: S) M) ∧ (b = false → y = 0 → a_w1 d nS cal rt post px K i x1 y1 c1 t1 nx L (.inl x :: S) M) := by
  cases i <;> first | (cases hz; done) | skip
  all_goals
    rename_i cn off
    cases cn
  all_goals
    cases hz
  all_goals
    first
      | (refine ⟨fun z => (by cases z), fun _ hy => ?_⟩; subst hy; first | exact ⟨h1, h2⟩ | exact ⟨h1, fun z => h2 (fun q => q z)⟩)
      | (refine ⟨fun _ => ?_, fun z => (by cases z)⟩; first | exact ⟨h1, h2⟩ | exact ⟨h1, fun z => h2 (fun q => q z)⟩)
/-- both ways of a comparison -/
theorem z_mcJ_ok {nS d : Nat} {cal : Nat → List aV → aM → (Option aV → aM → Prop) → Prop} {rt : Option FieldType} {cd : List aE} {post : Option aV → aM → Prop} {px : Nat → aM → Prop} {K : aK} 
    (hK : ∀ pc L S M, a_wp d nS cal rt cd post px K pc L S M → K pc L S M) {p : Nat} {b : Bool} {cnd tgt nx : Nat} {L : aL} {S : List aV} {M : aM} {x y : Int32} (h : z_mcJ cd p b cnd tgt nx = true)
    (h1 : z_cP cnd x y → K tgt L S M) (h2 : ¬ z_cP cnd x y → K nx L S M) : (b = true → K p L (.inl y :: .inl x :: S) M) ∧ (b = false → y = 0 → K p L (.inl x :: S) M) := by
  unfold z_mcJ at h
  cases hf : a_fnd cd p with
  | none => rw [hf] at h; cases h
  | some e =>
    obtain ⟨i, x1, y1, c1, t1, nx'⟩ := e
    rw [hf] at h
    dsimp only at h
    have hw : ∀ S', a_w1 d nS cal rt post px K i x1 y1 c1 t1 nx' L S' M → K p L S' M := fun S' z => hK _ _ _ _ (by unfold a_wp; rw [hf]; exact z)
    cases hz : z_cN i with
    | none => rw [hz] at h; cases h
    | some q =>
      obtain ⟨b', c'⟩ := q
      rw [hz] at h
      dsimp only at h
      simp only [Bool.and_eq_true] at h
      have e1 := z_beq_ok h.1
      have e2 := Nat.eq_of_beq_eq_true h.2.1
      have e3 := Nat.eq_of_beq_eq_true h.2.2.1
      have e4 := Nat.eq_of_beq_eq_true h.2.2.2
      subst e1
      subst e2
      subst e3
      subst e4
      obtain ⟨k1, k2⟩ := z_cN_ok (d := d) (nS := nS) (cal := cal) (rt := rt) (post := post) (px := px) (K := K) hz (y1 := y1) (c1 := c1) (t1 := t1) h1 h2
      exact ⟨fun z => hw _ (k1 z), fun z z2 => hw _ (k2 z z2)⟩
theorem z_two1_ok {os : zO} {k : List zE → zO} {r : List zE} (h : z_two1 os k = some r) : ∃ o, os = some o ∧ k o = some r := by
  cases os with
  | none => cases h
  | some o => exact ⟨o, rfl, h⟩
theorem z_br_ok {C : zC} {M0 : aM} {post : Option aV → aM → Prop} {px : Nat → aM → Prop} {sp : Nat → aL → aM → Prop} {Lz : zL} {g : zG} {o1 : zOp} {o2 : Option zOp} {cnd tgt nx : Nat} {a b : zI} {go : Nat → zL → zG → zO} {os : List zE} (h : z_br C Lz g o1 o2 cnd tgt nx a b go = some os) (ha : z_all C M0 post px sp os) {Q : Nat → Prop} {L : aL} {M : aM}
    (hgo : ∀ q L' g' os, go q L' g' = some os → z_all C M0 post px sp os → z_L L' L → z_M C M0 g' M → Q q) (hL : z_L Lz L) (hM : z_M C M0 g M) {x y : Int32} (hx : z_i a x) (hy : z_i b y) (s1 : z_src L M o1 x) (s2 : ∀ o, o2 = some o → z_src L M o y) : (z_cP cnd x y → Q tgt) ∧ (¬ z_cP cnd x y → Q nx) := by
  have key : ∀ (p : zI × zI) (q : Nat) (os : List zE), z_i p.1 x → z_i p.2 y → z_as12 Lz g o1 o2 p (fun L g => go q L g) = some os → z_all C M0 post px sp os → Q q := by
    intro p q os h1 h2 h3 h4
    unfold z_as12 at h3
    obtain ⟨L', g', e1, e2, e3⟩ := z_asg_ok (k := fun L g => z_as2 L g o2 p.2 (fun L g => go q L g)) hL hM s1 h1
    rw [e1] at h3
    clear h
    cases o2 with
    | none => exact hgo q L' g' os h3 h4 e2 e3
    | some o2 =>
      obtain ⟨L2, g2, f1, f2, f3⟩ := z_asg_ok (k := fun L g => go q L g) e2 e3 (s2 o2 rfl) h2
      have h3 : z_asg L' g' o2 p.2 (fun L g => go q L g) = some os := h3
      rw [f1] at h3
      exact hgo q L2 g2 os h3 h4 f2 f3
  unfold z_br at h
  refine ⟨fun hc => ?_, fun hc => ?_⟩
  · obtain ⟨p, hp, h1, h2⟩ := z_rT_ok hx hy hc
    rw [hp] at h
    dsimp only at h
    cases hn : z_rT (z_ng cnd) a b with
    | none => rw [hn] at h; dsimp only at h; exact key p tgt os h1 h2 h ha
    | some q =>
      rw [hn] at h
      dsimp only at h
      obtain ⟨o, e1, h⟩ := z_two1_ok h
      obtain ⟨o', e2, h⟩ := z_two1_ok h
      obtain ⟨m, e3, e4⟩ := z_appK_ok (r := o) (l := o') (k := some)
      rw [e3] at h
      cases h
      exact key p tgt o h1 h2 e1 (e4 ha).1
  · obtain ⟨p, hp, h1, h2⟩ := z_rT_ok hx hy (z_ng_ok hc)
    cases hn : z_rT cnd a b with
    | none =>
      rw [hn, hp] at h
      dsimp only at h
      exact key p nx os h1 h2 h ha
    | some q =>
      rw [hn, hp] at h
      dsimp only at h
      obtain ⟨o, e1, h⟩ := z_two1_ok h
      obtain ⟨o', e2, h⟩ := z_two1_ok h
      obtain ⟨m, e3, e4⟩ := z_appK_ok (r := o) (l := o') (k := some)
      rw [e3] at h
      cases h
      exact key p nx o' h1 h2 e2 (e4 ha).2
theorem z_mc_ok {C : zC} {M0 : aM} {nS d : Nat} {cal : Nat → List aV → aM → (Option aV → aM → Prop) → Prop} {rt : Option FieldType} {cd : List aE} {post post' : Option aV → aM → Prop} {px px' : Nat → aM → Prop} {sp : Nat → aL → aM → Prop} {K : aK}
    (hK : ∀ pc L S M, a_wp d nS cal rt cd post px K pc L S M → K pc L S M) {pc : Nat} {m : zMc} {Lz : zL} {g : zG} {go : Nat → zL → zG → zO} {os : List zE} (hc : z_mcC cd pc m = true) (h : z_mc C Lz g m go = some os) (ha : z_all C M0 post' px' sp os) {L : aL} {S : List aV} {M : aM}
    (hgo : ∀ q L' g' os, go q L' g' = some os → z_all C M0 post' px' sp os → z_L L' L → z_M C M0 g' M → K q L S M) (hL : z_L Lz L) (hM : z_M C M0 g M) : K pc L S M := by
  unfold z_mcC at hc
  unfold z_mc at h
  cases h1 : z_opC cd pc m.1 with
  | none => rw [h1] at hc; cases hc
  | some p =>
  rw [h1] at hc
  cases h2 : z_oE C Lz g m.1 with
  | none => rw [h2] at h; cases h
  | some a =>
  rw [h2] at h
  dsimp only at h hc
  rw [z_fz_eq] at h
  obtain ⟨x, hx, s1, k1⟩ := z_opd_ok (S := S) hK h1 h2 hL hM
  refine k1 ?_
  cases h3 : m.2.1 with
  | none =>
    rw [h3] at h hc
    dsimp only at h hc
    obtain ⟨q1, q2⟩ := z_br_ok (Q := fun q => K q L S M) h ha hgo hL hM hx z_i0 s1 (fun o z => (by cases z))
    exact (z_mcJ_ok hK hc q1 q2).2 rfl rfl
  | some o =>
    rw [h3] at h hc
    dsimp only at h hc
    cases h4 : z_opC cd p o with
    | none => rw [h4] at hc; cases hc
    | some p2 =>
    rw [h4] at hc
    cases h5 : z_oE C Lz g o with
    | none => rw [h5] at h; cases h
    | some b =>
    rw [h5] at h
    dsimp only at h hc
    rw [z_fz_eq] at h
    obtain ⟨y, hy, s2, k2⟩ := z_opd_ok (S := .inl x :: S) hK h4 h5 hL hM
    refine k2 ?_
    obtain ⟨q1, q2⟩ := z_br_ok (Q := fun q => K q L S M) h ha hgo hL hM hx hy s1 (fun o z => by cases z; exact s2)
    exact (z_mcJ_ok hK hc q1 q2).1 rfl
def z_mf (pc : Nat) : List (Nat × zMc) → Option zMc
  | [] => none
  | e :: r => bif Nat.beq e.1 pc then some e.2 else z_mf pc r
theorem z_mf_ok {pc : Nat} {m : zMc} : ∀ {l : List (Nat × zMc)}, z_mf pc l = some m → (pc, m) ∈ l
  | [], h => by cases h
  | e :: r, h => by
    unfold z_mf at h
    cases hb : Nat.beq e.1 pc with
    | true =>
      rw [hb, cond_true] at h
      have e1 := Nat.eq_of_beq_eq_true hb
      have e2 := Option.some.inj h
      subst e1
      subst e2
      exact List.mem_cons_self
    | false =>
      rw [hb, cond_false] at h
      exact List.mem_cons_of_mem _ (z_mf_ok h)
abbrev zHd : Type := List (Nat × Nat) × List (Nat × zMc) × List (Nat × Nat × List zI)
def z_hdOK (hds : Nat → zHd) : Prop := ∀ y nm b nL rt st ci na own ps cd, a_mt[y]? = some (nm, b, nL, rt, st, ci, na, own, ps, cd) → ∀ e ∈ (hds y).2.1, z_mcC cd e.1 e.2 = true
def z_hdF (y : Nat) : List (Nat × zHd) → zHd
  | [] => ([], [], [])
  | e :: r => bif Nat.beq e.1 y then e.2 else z_hdF y r
def z_hdK (e : Nat × zHd) : Bool := match a_mt[e.1]? with
  | some (_, _, _, _, _, _, _, _, _, cd) => e.2.2.1.all (fun m => z_mcC cd m.1 m.2)
  | none => true
theorem z_hdF_ok : ∀ {l : List (Nat × zHd)}, l.all z_hdK = true → z_hdOK (fun y => z_hdF y l)
  | [], _ => fun y nm b nL rt st ci na own ps cd _ e he => by cases he
  | t :: r, h => fun y nm b nL rt st ci na own ps cd hm e he => by
    rw [List.all_cons, Bool.and_eq_true] at h
    have he2 : e ∈ (bif Nat.beq t.1 y then t.2 else z_hdF y r).2.1 := he
    cases hb : Nat.beq t.1 y with
    | false =>
      rw [hb, cond_false] at he2
      exact z_hdF_ok h.2 y nm b nL rt st ci na own ps cd hm e he2
    | true =>
      rw [hb, cond_true] at he2
      have h1 := h.1
      unfold z_hdK at h1
      rw [Nat.eq_of_beq_eq_true hb, hm] at h1
      exact List.all_eq_true.mp h1 e he2
def z_lp (C : zC) (cal : Nat → List zV → zG → zO) (d : Nat) (oS : Option Nat) (rt : Option FieldType) (cd : List zEn) (hd : zHd) : Nat → Nat → Nat → Bool → List zEn → Nat → zL → List zV → zG → zO
  | 0, _, _, _, _, _, _, _, _ => none
  | f + 1, lo, hi, fst, rest, pc, L, S, g => bif !fst && (Nat.blt pc lo || Nat.blt hi pc) && z_nil S then some [.inr (.inr (pc, L, g))] else
    (match (bif fst then none else z_hd pc hd.1) with
    | some e => bif z_nil S then (match z_iter (fun L g => z_lp C cal d oS rt cd hd f (pc + 1) e true rest pc L [] g) pc 5000 L g [] with
      | none => none
      | some os => z_con (fun q L g => z_lp C cal d oS rt cd hd f lo hi false rest q L [] g) os []) else none
    | none => match (bif fst then none else z_sp pc hd.2.2) with
    | some (n, ps) => (match L[n]? with
      | some (some (.inl v)) => bif z_cvI v.1 v.2 ps then z_cat (fun p => a_fL (L.set n (some (.inl p))) (fun L => z_lp C cal d oS rt cd hd f lo hi true rest pc L S g)) ps else none
      | _ => none)
    | none => match z_mf pc hd.2.1 with
      | some m => z_mc C L g m (fun q L g => z_lp C cal d oS rt cd hd f lo hi false rest q L S g)
      | none => match z_getE cd rest pc with
      | [] => none
      | e :: es => match e with
        | (_, fn, x, y, cb, t, nx) => match fn C d oS rt x y cb t nx L S g with
          | none => none
          | some (.inl (pcs, L', S', g')) => z_cat (fun q => z_lp C cal d oS rt cd hd f lo hi false es q L' S' g') pcs
          | some (.inr (.inl (v, g'))) => some [.inl (v, g')]
          | some (.inr (.inr (.inl (x, g')))) => some [.inr (.inl (x, g'))]
          | some (.inr (.inr (.inr (x, y, nx)))) => bif z_rok x y S then (match cal x (S.take y).reverse g with
            | some os => z_cal (fun v g' => a_fL (z_res v (S.drop y)) (fun S' => z_lp C cal d oS rt cd hd f lo hi false es nx L S' g')) os
            | none => none) else none)
/-- what a run of a method tells, holds of the method -/
def z_sd (C : zC) (nS d : Nat) (M0 : aM) (cal : Nat → List zV → zG → zO) : Prop := ∀ (y : Nat) (as : List zV) (g : zG) (os : List zE) (as' : List aV) (M : aM) (post : Option aV → aM → Prop) (px : Nat → aM → Prop), cal y as g = some os → z_S as as' → z_M C M0 g M → z_all C M0 post px (fun _ _ _ => False) os → aC nS d y as' M post px
theorem z_lp_ok {C : zC} {nS d : Nat} {oS : Option Nat} {M0 : aM} {cal : Nat → List zV → zG → zO} (hcal : z_sd C nS d M0 cal) {rt : Option FieldType} {cd : List aE} {hd : zHd} {post : Option aV → aM → Prop} {px : Nat → aM → Prop} {K : aK}
    (hK : ∀ pc L S M, a_wp d nS (fun y as M P => aC nS d y as M P (fun _ _ => False)) rt cd post px K pc L S M → K pc L S M) (hmc : ∀ e ∈ hd.2.1, z_mcC cd e.1 e.2 = true) : z_srt 0 cd = true → ∀ (f lo hi : Nat) (fst : Bool) (rest : List aE) (pc : Nat) (Lz : zL) (Sz : List zV) (g : zG) (os : List zE), z_end cd rest → z_lp C cal d oS rt (cd.map z_cmpl) hd f lo hi fst (rest.map z_cmpl) pc Lz Sz g = some os → z_all C M0 post px (fun q L M => K q L [] M) os → ∀ (L : aL) (S : List aV) (M : aM), z_L Lz L → z_S Sz S → z_M C M0 g M → K pc L S M := by
  intro hsrt f
  induction f with
  | zero => intro lo hi fst rest pc Lz Sz g os _ h; cases h
  | succ f ih =>
    intro lo hi fst rest pc Lz Sz g os hend h ha L S M hL hS hM
    unfold z_lp at h
    cases hc1 : (!fst && (Nat.blt pc lo || Nat.blt hi pc) && z_nil Sz) with
    | true =>
      rw [hc1, cond_true] at h
      cases h
      rw [Bool.and_eq_true] at hc1
      cases Sz with
      | cons v r => cases hc1.2
      | nil =>
        have := z_S_N hS
        subst this
        exact ha _ (List.mem_singleton.mpr rfl) L M hL hM
    | false =>
    rw [hc1, cond_false] at h
    cases hc2 : (bif fst then none else z_hd pc hd.1) with
    | some e =>
      rw [hc2] at h
      dsimp only at h
      cases Sz with
      | cons v r =>
        have h : (bif false then (match z_iter (fun L g => z_lp C cal d oS rt (cd.map z_cmpl) hd f (pc + 1) e true (rest.map z_cmpl) pc L [] g) pc 5000 Lz g [] with
          | none => none
          | some os => z_con (fun q L g => z_lp C cal d oS rt (cd.map z_cmpl) hd f lo hi false (rest.map z_cmpl) q L [] g) os []) else none) = some os := h
        cases h
      | nil =>
        have := z_S_N hS
        subst this
        have h : (match z_iter (fun L g => z_lp C cal d oS rt (cd.map z_cmpl) hd f (pc + 1) e true (rest.map z_cmpl) pc L [] g) pc 5000 Lz g [] with
          | none => none
          | some os => z_con (fun q L g => z_lp C cal d oS rt (cd.map z_cmpl) hd f lo hi false (rest.map z_cmpl) q L [] g) os []) = some os := h
        cases hi9 : z_iter (fun L g => z_lp C cal d oS rt (cd.map z_cmpl) hd f (pc + 1) e true (rest.map z_cmpl) pc L [] g) pc 5000 Lz g [] with
        | none => rw [hi9] at h; cases h
        | some o =>
          rw [hi9] at h
          dsimp only at h
          obtain ⟨-, h2⟩ := z_con_ok (sp' := fun q L M => K q L [] M) (fun q L g os hq hos L1 M1 q1 q2 => ih lo hi false rest q L [] g os hend hq hos L1 [] M1 q1 trivial q2) o [] os h ha
          obtain ⟨-, h4⟩ := z_iter_ok (K := fun L M => K pc L [] M) (sp := fun q L M => K q L [] M) (fun L g os hq hos L1 M1 q1 q2 => ih (pc + 1) e true rest pc L [] g os hend hq hos L1 [] M1 q1 trivial q2) (fun _ _ z => z) 5000 Lz g [] o hi9 h2
          exact h4 L M hL hM
    | none =>
    rw [hc2] at h
    dsimp only at h
    cases hc4 : (bif fst then none else z_sp pc hd.2.2) with
    | some e =>
      obtain ⟨n, ps⟩ := e
      rw [hc4] at h
      dsimp only at h
      split at h
      · rename_i v hv
        cases hcv : z_cvI v.1 v.2 ps with
        | false => rw [hcv] at h; cases h
        | true =>
          rw [hcv, cond_true] at h
          obtain ⟨p, hp, hLp⟩ := z_L_pc hL hv hcv
          obtain ⟨o, h1, h2⟩ := z_cat_ok h ha p hp
          rw [a_fL_eq] at h1
          exact ih lo hi true rest pc _ Sz g o hend h1 h2 L S M hLp hS hM
      · cases h
    | none =>
    rw [hc4] at h
    dsimp only at h
    cases hc3 : z_mf pc hd.2.1 with
    | some m =>
      rw [hc3] at h
      exact z_mc_ok hK (hmc _ (z_mf_ok hc3)) h ha (fun q L' g' os hq hos q1 q2 => ih lo hi false rest q L' Sz g' os hend hq hos L S M q1 hS q2) hL hM
    | none =>
    rw [hc3] at h
    dsimp only at h
    refine hK _ _ _ _ ?_
    unfold a_wp
    rw [z_getE_map] at h
    cases hg9 : z_get cd rest pc with
    | nil => rw [hg9] at h; cases h
    | cons ee es =>
    obtain ⟨pc9, i, x, y, c, t, nx⟩ := ee
    obtain ⟨hf, hend⟩ := z_get_ok hsrt hend hg9
    rw [hg9] at h
    rw [hf]
    have h : (match z_st C d oS rt i x y c t nx Lz Sz g with
        | none => none
        | some (.inl (pcs, L', S', g')) => z_cat (fun q => z_lp C cal d oS rt (cd.map z_cmpl) hd f lo hi false (es.map z_cmpl) q L' S' g') pcs
        | some (.inr (.inl (v, g'))) => some [.inl (v, g')]
        | some (.inr (.inr (.inl (x, g')))) => some [.inr (.inl (x, g'))]
        | some (.inr (.inr (.inr (x, y, nx)))) => bif z_rok x y Sz then (match cal x (Sz.take y).reverse g with
          | some os => z_cal (fun v g' => a_fL (z_res v (Sz.drop y)) (fun S' => z_lp C cal d oS rt (cd.map z_cmpl) hd f lo hi false (es.map z_cmpl) nx Lz S' g')) os
          | none => none) else none) = some os := h
    dsimp only at h ⊢
    refine z_exS (oS := oS) hL hS hM ?_
    generalize z_st C d oS rt i x y c t nx Lz Sz g = q at h ⊢
    rcases q with _ | ⟨pcs, L', S', g'⟩ | ⟨v, g'⟩ | ⟨x', g'⟩ | ⟨x', y', nx'⟩
    · cases h
    · dsimp only at h
      intro p hp L1 S1 M1 hL1 hS1 hM1
      obtain ⟨o, h1, h2⟩ := z_cat_ok h ha p hp
      exact ih _ _ _ _ _ _ _ _ _ hend h1 h2 _ _ _ hL1 hS1 hM1
    · cases h
      intro v1 M1 hv hM1
      exact ha _ (List.mem_singleton.mpr rfl) v1 M1 hv hM1
    · cases h
      intro M1 hM1
      exact ha _ (List.mem_singleton.mpr rfl) M1 hM1
    · dsimp only at h
      cases hr9 : z_rok x' y' Sz with
      | false => rw [hr9] at h; cases h
      | true =>
      rw [hr9, cond_true] at h
      cases hc : cal x' (Sz.take y').reverse g with
      | none => rw [hc] at h; cases h
      | some r =>
        rw [hc] at h
        dsimp only at h
        have hm := z_cal_ok h ha
        refine ⟨fun v M' => K nx' L (a_res v (S.drop y')) M', z_rok_ok hS hr9, hcal _ _ _ _ _ _ _ _ hc (z_S_rev (z_S_take y' hS)) hM (fun e he => ?_), fun v M' z => z⟩
        obtain ⟨v', g', o, rfl, h4, h5⟩ := hm e he
        intro v1 M1 q1 q2
        rw [a_fL_eq] at h4
        exact ih _ _ _ _ _ _ _ _ _ hend h4 h5 _ _ _ hL (z_res_ok q1 (z_S_drop y' hS)) q2
def z_run (C : zC) (oS : Option Nat) (orc : Nat → List zV → zG → zO) (hds : Nat → zHd) (d0 : Nat) : Nat → Nat → List zV → zG → zO
  | 0, _, _, _ => none
  | d + 1, y, as, g => match z_lk y with
    | none => none
    | some (nL, rt, _, _, _, cd) => bif Nat.ble (z_ent as).length nL then a_fL (z_pad nL (z_ent as)) (fun L => z_lp C (fun y as g => match orc y as g with
      | some o => some o
      | none => z_run C oS orc hds d0 d y as g) (d0 + d) oS rt cd (hds y) 100000 0 100000 false cd 0 L [] g) else none
/-! contracts: which method; of what; where; what it may write; what comes of it; how deep -/
abbrev zCt : Type := Nat × List zV × zG × zW × List zE × Nat
def z_po (C : zC) (M0 : aM) (os : List zE) (v : Option aV) (M : aM) : Prop := ∃ v' g', Sum.inl (v', g') ∈ os ∧ z_ov v' v ∧ z_M C M0 g' M
def z_px (C : zC) (M0 : aM) (os : List zE) (x : Nat) (M : aM) : Prop := ∃ g', Sum.inr (Sum.inl (x, g')) ∈ os ∧ z_M C M0 g' M
def z_ctH (T : zT) (c : zCt) : Prop := ∀ (nS d : Nat) (as : List aV) (M : aM), c.2.2.2.2.2 ≤ d → z_S c.2.1 as → z_MT (T, [], []) M → z_MG c.2.2.1 M → aC nS d c.1 as M (z_po (T, c.2.2.2.1, []) M c.2.2.2.2.1) (z_px (T, c.2.2.2.1, []) M c.2.2.2.2.1)
def z_iI (u v : zI) : Bool := Nat.ble v.1 u.1 && Nat.ble u.2 v.2
theorem z_iI_ok {u v : zI} {x : Int32} (h : z_iI u v = true) (hu : z_i u x) : z_i v x := by
  unfold z_iI at h
  rw [Bool.and_eq_true] at h
  exact ⟨Nat.le_trans (z_ble h.1) hu.1, Nat.le_trans hu.2 (z_ble h.2)⟩
def z_vI (u v : zV) : Bool := match u with
  | .inl a => match v with
    | .inl b => z_iI a b
    | .inr _ => false
  | .inr (.inl a) => match v with
    | .inr (.inl b) => (match b with
      | none => true
      | some y => match a with
        | none => false
        | some x => decide (x = y))
    | _ => false
  | .inr (.inr (p, i)) => match v with
    | .inr (.inr (q, j)) => Nat.beq p q && Nat.beq i j
    | _ => false
theorem z_vI_ok {u v : zV} {x : aV} (h : z_vI u v = true) (hu : z_v u x) : z_v v x := by
  rcases u with a | a | ⟨p, i⟩
  · rcases v with b | b
    · rcases x with x | x | x
      · exact z_iI_ok h hu
      · exact False.elim hu
      · exact False.elim hu
    · cases h
  · rcases v with b | b | b
    · cases h
    · rcases x with x | x | x
      · cases a <;> exact False.elim hu
      · cases b with
        | none => trivial
        | some y =>
          cases a with
          | none => cases h
          | some z =>
            have h : decide (z = y) = true := h
            have e := of_decide_eq_true h
            subst e
            exact hu
      · cases a <;> exact False.elim hu
    · cases h
  · rcases v with b | b | ⟨q, j⟩
    · cases h
    · cases h
    · have h : (Nat.beq p q && Nat.beq i j) = true := h
      rw [Bool.and_eq_true] at h
      have e1 := Nat.eq_of_beq_eq_true h.1
      have e2 := Nat.eq_of_beq_eq_true h.2
      subst e1
      subst e2
      exact hu
def z_SI : List zV → List zV → Bool
  | [], [] => true
  | u :: r, v :: s => z_vI u v && z_SI r s
  | _, _ => false
theorem z_SI_ok : ∀ {u v : List zV} {s : List aV}, z_SI u v = true → z_S u s → z_S v s
  | [], [], _, _, h => h
  | [], _ :: _, _, h, _ => by cases h
  | _ :: _, [], _, h, _ => by cases h
  | u :: r, v :: t, s, h, hs => by
    have h : (z_vI u v && z_SI r t) = true := h
    rw [Bool.and_eq_true] at h
    cases s with
    | nil => exact False.elim hs
    | cons x s => exact ⟨z_vI_ok h.1 hs.1, z_SI_ok h.2 hs.2⟩
/-- what is known of a cell, told by its number -/
def z_rn (T : zT) (g : zG) (n : Nat) : zI := match z_oR g n with
  | some v => v
  | none => z_tRi T (n / 16384) (n / 4096 % 4) (n % 4096) (n % 4096)
theorem z_rn_ok {T : zT} {g : zG} {M : aM} {n k i j : Nat} (hT : z_MT (T, [], []) M) (hg : z_MG g M) (h1 : i < 4) (h2 : j < 4096) (h3 : z_ky k i j = n) : z_i (z_rn T g n) (M.1 k i j) := by
  unfold z_rn
  cases ho : z_oR g n with
  | some v => exact hg _ (z_oR_ok ho) k i j h1 h2 h3
  | none =>
    have e1 : n / 16384 = k := by unfold z_ky at h3; omega
    have e2 : n % 4096 = j := by unfold z_ky at h3; omega
    have e3 : n / 4096 % 4 = i := by unfold z_ky at h3; omega
    dsimp only
    rw [e1, e2, e3]
    exact z_tRi_ok (Nat.le_refl _) (Nat.le_refl _) hT
def z_gI (T : zT) (g : zG) : zG → Bool
  | [] => true
  | e :: r => z_iI (z_rn T g e.1) e.2 && z_gI T g r
theorem z_gI_ok {T : zT} {g : zG} {M : aM} (hT : z_MT (T, [], []) M) (hg : z_MG g M) : ∀ {h : zG}, z_gI T g h = true → z_MG h M
  | [], _ => fun e he => by cases he
  | e :: r, h => by
    have h : (z_iI (z_rn T g e.1) e.2 && z_gI T g r) = true := h
    rw [Bool.and_eq_true] at h
    exact List.forall_mem_cons.mpr ⟨fun k i j h1 h2 h3 => z_iI_ok h.1 (z_rn_ok hT hg h1 h2 h3), z_gI_ok hT hg h.2⟩
def z_WI (W : zW) : zW → Bool
  | [] => true
  | w :: r => z_w W w.1 w.2.1 w.2.2 && z_WI W r
theorem z_WI_ok {W : zW} : ∀ {V : zW}, z_WI W V = true → ∀ {k j : Nat}, z_w V k j j = true → z_w W k j j = true := by
  intro V h k j hj
  obtain ⟨w, h1, h2, h3, h4⟩ := z_w_at hj
  have key : ∀ {V : zW}, z_WI W V = true → ∀ w ∈ V, z_w W w.1 w.2.1 w.2.2 = true := by
    intro V
    induction V with
    | nil => intro _ w hw; cases hw
    | cons v r ih =>
      intro h w hw
      have h : (z_w W v.1 v.2.1 v.2.2 && z_WI W r) = true := h
      rw [Bool.and_eq_true] at h
      rcases List.mem_cons.mp hw with rfl | hw
      · exact h.1
      · exact ih h.2 w hw
  have := key h w h1
  rw [h2] at this
  exact z_w_sub this h3 h4
/-- what stays known behind a call that may write W -/
def z_gW (W : zW) : zG → zG → zG
  | [], g => g
  | e :: r, g => bif z_w W (e.1 / 16384) (e.1 % 4096) (e.1 % 4096) then z_gW W r g else e :: z_gW W r g
theorem z_gW_ok {W : zW} {M M' : aM} (hW : z_MW W M M') : ∀ {g h : zG}, z_MG g M → z_MG h M' → z_MG (z_gW W g h) M'
  | [], h, _, hh => hh
  | e :: r, h, hg, hh => by
    have ih := z_gW_ok hW (g := r) (fun f hf => hg f (List.mem_cons_of_mem _ hf)) hh
    unfold z_gW
    cases hc : z_w W (e.1 / 16384) (e.1 % 4096) (e.1 % 4096) with
    | true => exact ih
    | false =>
      rw [cond_false]
      refine List.forall_mem_cons.mpr ⟨fun k i j h1 h2 h3 => ?_, ih⟩
      have e1 : e.1 / 16384 = k := by unfold z_ky at h3; omega
      have e2 : e.1 % 4096 = j := by unfold z_ky at h3; omega
      rw [e1, e2] at hc
      rw [(hW k i j hc).1]
      exact hg e List.mem_cons_self k i j h1 h2 h3
def z_omp {α : Type} (W : zW) (g : zG) : List zE → (List zE → α) → α
  | [], k => k []
  | e :: r, k => match e with
    | .inl (v, h) => a_fL (z_gW W g h) (fun q => z_omp W g r (fun l => k (.inl (v, q) :: l)))
    | .inr (.inl (x, h)) => a_fL (z_gW W g h) (fun q => z_omp W g r (fun l => k (.inr (.inl (x, q)) :: l)))
    | .inr (.inr _) => z_omp W g r k
theorem z_omp_ok {α : Type} {W : zW} {g : zG} : ∀ {l : List zE} {k : List zE → α}, ∃ m, z_omp W g l k = k m ∧ (∀ v h, Sum.inl (v, h) ∈ l → Sum.inl (v, z_gW W g h) ∈ m) ∧ (∀ x h, Sum.inr (Sum.inl (x, h)) ∈ l → Sum.inr (Sum.inl (x, z_gW W g h)) ∈ m)
  | [], k => ⟨[], rfl, fun v h hh => (by cases hh), fun v h hh => (by cases hh)⟩
  | .inl (v, h) :: r, k => by
    obtain ⟨m, h1, h2, h3⟩ := z_omp_ok (W := W) (g := g) (l := r) (k := fun l => k (.inl (v, z_gW W g h) :: l))
    refine ⟨.inl (v, z_gW W g h) :: m, ?_, fun v' h' hh => ?_, fun x h' hh => ?_⟩
    · show a_fL (z_gW W g h) (fun q => z_omp W g r (fun l => k (.inl (v, q) :: l))) = _
      rw [a_fL_eq]
      exact h1
    · rcases List.mem_cons.mp hh with he | hh
      · cases he; exact List.mem_cons_self
      · exact List.mem_cons_of_mem _ (h2 v' h' hh)
    · rcases List.mem_cons.mp hh with he | hh
      · cases he
      · exact List.mem_cons_of_mem _ (h3 x h' hh)
  | .inr (.inl (x, h)) :: r, k => by
    obtain ⟨m, h1, h2, h3⟩ := z_omp_ok (W := W) (g := g) (l := r) (k := fun l => k (.inr (.inl (x, z_gW W g h)) :: l))
    refine ⟨.inr (.inl (x, z_gW W g h)) :: m, ?_, fun v' h' hh => ?_, fun x' h' hh => ?_⟩
    · show a_fL (z_gW W g h) (fun q => z_omp W g r (fun l => k (.inr (.inl (x, q)) :: l))) = _
      rw [a_fL_eq]
      exact h1
    · rcases List.mem_cons.mp hh with he | hh
      · cases he
      · exact List.mem_cons_of_mem _ (h2 v' h' hh)
    · rcases List.mem_cons.mp hh with he | hh
      · cases he; exact List.mem_cons_self
      · exact List.mem_cons_of_mem _ (h3 x' h' hh)
  | .inr (.inr q) :: r, k => by
    obtain ⟨m, h1, h2, h3⟩ := z_omp_ok (W := W) (g := g) (l := r) (k := k)
    refine ⟨m, h1, fun v' h' hh => ?_, fun x' h' hh => ?_⟩
    · rcases List.mem_cons.mp hh with he | hh
      · cases he
      · exact h2 v' h' hh
    · rcases List.mem_cons.mp hh with he | hh
      · cases he
      · exact h3 x' h' hh
def z_orc (C : zC) (r : Nat) : List zCt → Nat → List zV → zG → zO
  | [], _, _, _ => none
  | c :: cs, y, as, g => bif Nat.beq c.1 y then (bif z_SI as c.2.1 && (z_gI C.1 g c.2.2.1 && (z_WI C.2.1 c.2.2.2.1 && Nat.ble c.2.2.2.2.2 r)) then z_omp c.2.2.2.1 g c.2.2.2.2.1 some else z_orc C r cs y as g) else z_orc C r cs y as g
theorem z_orc_ok {C : zC} {nS r d : Nat} (hrd : r ≤ d) {M0 : aM} : ∀ {cs : List zCt}, (∀ c ∈ cs, z_ctH C.1 c) → z_sd C nS d M0 (z_orc C r cs)
  | [], _ => fun y as g os as' M post px h => by cases h
  | c :: cs, hcs => fun y as g os as' M post px h hS hM ha => by
    have ih := z_orc_ok (nS := nS) hrd (M0 := M0) (cs := cs) (fun c hc => hcs c (List.mem_cons_of_mem _ hc))
    unfold z_orc at h
    cases h1 : Nat.beq c.1 y with
    | false => rw [h1] at h; exact ih y as g os as' M post px h hS hM ha
    | true =>
      rw [h1, cond_true] at h
      cases h2 : (z_SI as c.2.1 && (z_gI C.1 g c.2.2.1 && (z_WI C.2.1 c.2.2.2.1 && Nat.ble c.2.2.2.2.2 r))) with
      | false => rw [h2] at h; exact ih y as g os as' M post px h hS hM ha
      | true =>
        rw [h2, cond_true] at h
        simp only [Bool.and_eq_true] at h2
        obtain ⟨g1, g2, g3, g4⟩ := h2
        have e1 := Nat.eq_of_beq_eq_true h1
        subst e1
        obtain ⟨m, h3, h4, h5⟩ := z_omp_ok (W := c.2.2.2.1) (g := g) (l := c.2.2.2.2.1) (k := some)
        rw [h3] at h
        cases h
        have hMT : z_MT (C.1, [], []) M := hM.1
        have key : ∀ gc M', z_M (C.1, c.2.2.2.1, []) M gc M' → z_M C M0 (z_gW c.2.2.2.1 g gc) M' := fun gc M' hc => by
          refine ⟨hc.1, fun k i j hn => ?_, z_gW_ok hc.2.1 hM.2.2 hc.2.2⟩
          have hn2 : z_w c.2.2.2.1 k j j = false := by
            cases hq : z_w c.2.2.2.1 k j j with
            | false => rfl
            | true => rw [z_WI_ok g3 hq] at hn; cases hn
          obtain ⟨r1, r2⟩ := hM.2.1 k i j hn
          obtain ⟨q1, q2⟩ := hc.2.1 k i j hn2
          exact ⟨q1.trans r1, q2.trans r2⟩
        have := hcs c List.mem_cons_self nS d as' M (Nat.le_trans (z_ble g4) hrd) (z_SI_ok g1 hS) hMT (z_gI_ok hMT hM.2.2 g2)
        refine aC_post this (fun v M' hv => ?_) (fun x M' hx => ?_)
        · obtain ⟨v', gc, q1, q2, q3⟩ := hv
          exact ha _ (h4 v' gc q1) v M' q2 (key gc M' q3)
        · obtain ⟨gc, q1, q3⟩ := hx
          exact ha _ (h5 x gc q1) M' (key gc M' q3)
theorem z_run_ok {C : zC} {nS : Nat} {M0 : aM} {oS : Option Nat} {orc : Nat → List zV → zG → zO} {hds : Nat → zHd} (hhd : z_hdOK hds) {d0 : Nat} (horc : ∀ d, d0 ≤ d → z_sd C nS d M0 orc) : ∀ d : Nat, z_sd C nS (d0 + d) M0 (z_run C oS orc hds d0 d) := by
  intro d
  induction d with
  | zero => intro y as g os as' M post px h; cases h
  | succ d ih =>
    intro y as g os as' M post px h hS hM ha
    unfold z_run at h
    show aC nS ((d0 + d) + 1) y as' M post px
    unfold aC
    cases hm : z_lk y with
    | none => rw [hm] at h; cases h
    | some mm =>
    obtain ⟨nm, b, own, ps, cd, hq1, hq2, hsrt⟩ := z_lk_ok hm
    obtain ⟨nL, rt, st, ci, na, zcd⟩ := mm
    rw [hm] at h
    rw [hq1]
    dsimp only at h hq2 ⊢
    subst hq2
    cases hw : Nat.ble (z_ent as).length nL with
    | false => rw [hw] at h; cases h
    | true =>
      rw [hw, cond_true, a_fL_eq] at h
      rw [(z_ent_ok hS).1]
      refine ⟨hw, fun K hK _ => ?_⟩
      have hcal : z_sd C nS (d0 + d) M0 (fun y as g => match orc y as g with
        | some o => some o
        | none => z_run C oS orc hds d0 d y as g) := fun y as g os as' M post px hc => by
        dsimp only at hc
        cases ho9 : orc y as g with
        | some o =>
          rw [ho9] at hc
          cases hc
          exact horc (d0 + d) (Nat.le_add_right _ _) y as g _ as' M post px ho9
        | none =>
          rw [ho9] at hc
          exact ih y as g _ as' M post px hc
      refine z_lp_ok hcal hK (hhd y _ _ _ _ _ _ _ _ _ _ hq1) hsrt 100000 0 100000 false cd 0 _ _ _ _ ⟨[], rfl⟩ h (fun e he => ?_) _ _ _ (z_pad_ok hS) trivial hM
      have h9 := ha e he
      rcases e with ⟨v, g'⟩ | ⟨x, g'⟩ | ⟨p, L, g'⟩
      · exact h9
      · exact h9
      · exact fun L1 M1 q1 q2 => False.elim (h9 L1 M1 q1 q2)
/-! contracts checked -/
def z_cvV (v w : Option zV) : Bool := match v with
  | none => (match w with
    | none => true
    | some _ => false)
  | some v => (match w with
    | none => false
    | some w => z_vI v w)
theorem z_cvV_ok {v w : Option zV} {x : Option aV} (h : z_cvV v w = true) (hx : z_ov v x) : z_ov w x := by
  cases v with
  | none => cases w with
    | none => exact hx
    | some w => cases h
  | some v => cases w with
    | none => cases h
    | some w => cases x with
      | none => exact False.elim hx
      | some x => exact z_vI_ok h hx
def z_cvO (T : zT) (e o : zE) : Bool := match e with
  | .inl (v, g) => (match o with
    | .inl (w, h) => z_cvV v w && z_gI T g h
    | .inr _ => false)
  | .inr (.inl (x, g)) => (match o with
    | .inr (.inl (y, h)) => Nat.beq x y && z_gI T g h
    | _ => false)
  | .inr (.inr _) => false
def z_cvr (T : zT) (e : zE) : List zE → Bool
  | [] => false
  | o :: r => bif z_cvO T e o then true else z_cvr T e r
theorem z_cvr_ok {T : zT} {W : zW} {F : zW} {M0 : aM} {post : Option aV → aM → Prop} {px : Nat → aM → Prop} {e : zE} : ∀ {os : List zE}, z_cvr T e os = true → (∀ v M, z_po (T, W, []) M0 os v M → post v M) → (∀ x M, z_px (T, W, []) M0 os x M → px x M) → z_ok (T, W, F) M0 post px (fun _ _ _ => False) e
  | [], h, _, _ => by cases h
  | o :: r, h, hp, hx => by
    have key : z_cvr T e r = true → z_ok (T, W, F) M0 post px (fun _ _ _ => False) e := fun h => z_cvr_ok h (fun v M ⟨v', g', a, b, c⟩ => hp v M ⟨v', g', List.mem_cons_of_mem _ a, b, c⟩) (fun x M ⟨g', a, c⟩ => hx x M ⟨g', List.mem_cons_of_mem _ a, c⟩)
    unfold z_cvr at h
    cases hc : z_cvO T e o with
    | false => rw [hc, cond_false] at h; exact key h
    | true =>
      rcases e with ⟨v, g⟩ | ⟨x, g⟩ | q
      · rcases o with ⟨w, k⟩ | o
        · have hc : (z_cvV v w && z_gI T g k) = true := hc
          rw [Bool.and_eq_true] at hc
          intro v1 M1 q1 q2
          have hT : z_MT (T, [], []) M1 := q2.1
          exact hp v1 M1 ⟨w, k, List.mem_cons_self, z_cvV_ok hc.1 q1, q2.1, q2.2.1, z_gI_ok hT q2.2.2 hc.2⟩
        · cases hc
      · rcases o with o | ⟨y, k⟩ | o
        · cases hc
        · have hc : (Nat.beq x y && z_gI T g k) = true := hc
          rw [Bool.and_eq_true] at hc
          intro M1 q2
          have e := Nat.eq_of_beq_eq_true hc.1
          subst e
          have hT : z_MT (T, [], []) M1 := q2.1
          exact hx x M1 ⟨k, List.mem_cons_self, q2.1, q2.2.1, z_gI_ok hT q2.2.2 hc.2⟩
        · cases hc
      · cases hc
def z_aly (f : zE → Bool) : List zE → Bool
  | [] => true
  | e :: r => f e && z_aly f r
theorem z_aly_mem {f : zE → Bool} : ∀ {l : List zE}, z_aly f l = true → ∀ e ∈ l, f e = true
  | [], _, e, he => by cases he
  | a :: r, h, e, he => by
    have h : (f a && z_aly f r) = true := h
    rw [Bool.and_eq_true] at h
    rcases List.mem_cons.mp he with rfl | he
    · exact h.1
    · exact z_aly_mem h.2 e he
/-- a run from these numbers keeps the contract; d0: how deep its callees' contracts reach; n: how deep calls are run themselves -/
def z_ck1 (T : zT) (F : zW) (hds : Nat → zHd) (cs : List zCt) (d0 n : Nat) (c : zCt) (as : List zV) (g : zG) : Bool := match z_run (T, c.2.2.2.1, F) none (z_orc (T, c.2.2.2.1, F) d0 cs) hds d0 n c.1 as g with
  | none => false
  | some os => z_aly (fun e => z_cvr T e c.2.2.2.2.1) os
theorem z_ck1_ok {T : zT} {F : zW} {hds : Nat → zHd} (hhd : z_hdOK hds) {cs : List zCt} (hcs : ∀ c ∈ cs, z_ctH T c) {d0 n : Nat} {c : zCt} {as : List zV} {g : zG} (h : z_ck1 T F hds cs d0 n c as g = true) (hR : d0 + n = c.2.2.2.2.2) {nS d : Nat} {as' : List aV} {M : aM} (hd : c.2.2.2.2.2 ≤ d) (hS : z_S as as') (hT : z_MT (T, [], []) M) (hg : z_MG g M) : aC nS d c.1 as' M (z_po (T, c.2.2.2.1, []) M c.2.2.2.2.1) (z_px (T, c.2.2.2.1, []) M c.2.2.2.2.1) := by
  unfold z_ck1 at h
  cases hr : z_run (T, c.2.2.2.1, F) none (z_orc (T, c.2.2.2.1, F) d0 cs) hds d0 n c.1 as g with
  | none => rw [hr] at h; cases h
  | some os =>
    rw [hr] at h
    dsimp only at h
    refine aC_le hd ?_
    rw [← hR]
    exact z_run_ok hhd (C := (T, c.2.2.2.1, F)) (fun d hd => z_orc_ok hd (cs := cs) hcs) n c.1 as g os as' M _ _ hr hS ⟨hT, fun _ _ _ _ => ⟨rfl, rfl⟩, hg⟩ (fun e he => z_cvr_ok (z_aly_mem h e he) (fun v M z => z) (fun x M z => z))
abbrev zSp : Type := List (Bool × Nat × List zI)
def z_alI (f : zI → Bool) : List zI → Bool
  | [] => true
  | e :: r => f e && z_alI f r
theorem z_alI_mem {f : zI → Bool} : ∀ {l : List zI}, z_alI f l = true → ∀ e ∈ l, f e = true
  | [], _, e, he => by cases he
  | a :: r, h, e, he => by
    have h : (f a && z_alI f r) = true := h
    rw [Bool.and_eq_true] at h
    rcases List.mem_cons.mp he with rfl | he
    · exact h.1
    · exact z_alI_mem h.2 e he
def z_ckS (T : zT) (F : zW) (hds : Nat → zHd) (cs : List zCt) (d0 n : Nat) (c : zCt) : zSp → List zV → zG → Bool
  | [], as, g => z_ck1 T F hds cs d0 n c as g
  | (b, i, ps) :: r, as, g => bif b then (match as[i]? with
      | some (.inl v) => z_cvI v.1 v.2 ps && z_alI (fun p => a_fL (as.set i (.inl p)) (fun as => z_ckS T F hds cs d0 n c r as g)) ps
      | _ => false) else (match z_rn T g i with
      | (lo, hi) => Nat.blt (i % 16384) 16384 && (z_cvI lo hi ps && z_alI (fun p => a_fL (z_oD g i i) (fun g => z_ckS T F hds cs d0 n c r as ((i, p) :: g))) ps))
theorem z_S_setx : ∀ {as : List zV} {as' : List aV} {i : Nat} {v : zI}, z_S as as' → as[i]? = some (.inl v) → ∃ x, z_i v x ∧ ∀ p : zI, z_i p x → z_S (as.set i (.inl p)) as'
  | [], [], i, v, _, h => by simp at h
  | [], _ :: _, _, _, h, _ => False.elim h
  | _ :: _, [], _, _, h, _ => False.elim h
  | u :: r, y :: s, 0, v, h, e => by
    simp at e
    subst e
    rcases y with y | y | y
    · exact ⟨y, h.1, fun p q => ⟨q, h.2⟩⟩
    · exact False.elim h.1
    · exact False.elim h.1
  | u :: r, y :: s, i + 1, v, h, e => by
    simp only [List.getElem?_cons_succ] at e
    obtain ⟨x, h1, h2⟩ := z_S_setx h.2 e
    exact ⟨x, h1, fun p q => ⟨h.1, h2 p q⟩⟩
theorem z_ckS_ok {T : zT} {F : zW} {hds : Nat → zHd} (hhd : z_hdOK hds) {cs : List zCt} (hcs : ∀ c ∈ cs, z_ctH T c) {d0 n : Nat} {c : zCt} (hR : d0 + n = c.2.2.2.2.2) {nS d : Nat} {as' : List aV} {M : aM} (hd : c.2.2.2.2.2 ≤ d) (hT : z_MT (T, [], []) M) : ∀ {sp : zSp} {as : List zV} {g : zG}, z_ckS T F hds cs d0 n c sp as g = true → z_S as as' → z_MG g M → aC nS d c.1 as' M (z_po (T, c.2.2.2.1, []) M c.2.2.2.2.1) (z_px (T, c.2.2.2.1, []) M c.2.2.2.2.1)
  | [], as, g, h, hS, hg => z_ck1_ok hhd hcs h hR hd hS hT hg
  | (b, i, ps) :: r, as, g, h, hS, hg => by
    cases b with
    | true =>
      have h : (match as[i]? with
        | some (.inl v) => z_cvI v.1 v.2 ps && z_alI (fun p => a_fL (as.set i (.inl p)) (fun as => z_ckS T F hds cs d0 n c r as g)) ps
        | _ => false) = true := h
      cases ha : as[i]? with
      | none => rw [ha] at h; cases h
      | some w =>
        rw [ha] at h
        rcases w with v | w
        · have h : (z_cvI v.1 v.2 ps && z_alI (fun p => a_fL (as.set i (.inl p)) (fun as => z_ckS T F hds cs d0 n c r as g)) ps) = true := h
          rw [Bool.and_eq_true] at h
          obtain ⟨x, h1, h2⟩ := z_S_setx hS ha
          obtain ⟨p, hp, hi⟩ := z_cvI_ok (x := x) h.1 h1.1 h1.2
          have h3 := z_alI_mem h.2 p hp
          rw [a_fL_eq] at h3
          exact z_ckS_ok hhd hcs hR hd hT h3 (h2 p hi) hg
        · cases h
    | false =>
      have h : (match z_rn T g i with
        | (lo, hi) => Nat.blt (i % 16384) 16384 && (z_cvI lo hi ps && z_alI (fun p => a_fL (z_oD g i i) (fun g => z_ckS T F hds cs d0 n c r as ((i, p) :: g))) ps)) = true := h
      have hky : z_ky (i / 16384) (i / 4096 % 4) (i % 4096) = i := by unfold z_ky; omega
      have hrn := z_rn_ok (n := i) hT hg (k := i / 16384) (i := i / 4096 % 4) (j := i % 4096) (Nat.mod_lt _ (by decide)) (Nat.mod_lt _ (by decide)) hky
      generalize z_rn T g i = v at h hrn
      obtain ⟨lo, hi⟩ := v
      dsimp only at h
      simp only [Bool.and_eq_true] at h
      obtain ⟨p, hp, hpi⟩ := z_cvI_ok (x := M.1 (i / 16384) (i / 4096 % 4) (i % 4096)) h.2.1 hrn.1 hrn.2
      have h3 := z_alI_mem h.2.2 p hp
      rw [a_fL_eq] at h3
      refine z_ckS_ok hhd hcs hR hd hT h3 hS (List.forall_mem_cons.mpr ⟨fun k i' j' q1 q2 q3 => ?_, fun e he => hg e (z_oD_ok he).1⟩)
      obtain ⟨e1, e2, e3⟩ := z_ky_lt q1 q2 (Nat.mod_lt (i / 4096) (show 0 < 4 by decide)) (Nat.mod_lt i (show 0 < 4096 by decide)) (q3.trans hky.symm)
      subst e1
      subst e2
      subst e3
      exact hpi
theorem z_ct_ok {T : zT} {c : zCt} (F : zW) {hds : Nat → zHd} (hhd : z_hdOK hds) (cs : List zCt) (sp : zSp) (d0 n : Nat) (hcs : ∀ c ∈ cs, z_ctH T c) (h : (Nat.beq (d0 + n) c.2.2.2.2.2 && z_ckS T F hds cs d0 n c sp c.2.1 c.2.2.1) = true) : z_ctH T c := by
  rw [Bool.and_eq_true] at h
  exact fun nS d as M hd hS hT hg => z_ckS_ok hhd hcs (Nat.eq_of_beq_eq_true h.1) hd hT h.2 hS hg
