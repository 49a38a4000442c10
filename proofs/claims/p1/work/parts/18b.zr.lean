/-! runs -/
abbrev zE : Type := (Option zV × zG) ⊕ (Nat × zG)
abbrev zO : Type := Option (List zE)
def z_cat (f : Nat → zO) : List Nat → zO
  | [] => some []
  | p :: ps => match ps with
    | [] => f p
    | _ :: _ => match f p with
      | none => none
      | some o => match z_cat f ps with
        | none => none
        | some o' => some (o ++ o')
def z_cf (f : Option zV → zG → zO) (h : Nat → zG → zO) (e : zE) : zO := match e with
  | .inl (v, (a, b)) => f v (a, b)
  | .inr (x, (a, b)) => h x (a, b)
def z_cal (f : Option zV → zG → zO) (h : Nat → zG → zO) : List zE → zO
  | [] => some []
  | e :: es => match es with
    | [] => z_cf f h e
    | _ :: _ => match z_cf f h e with
      | none => none
      | some o => match z_cal f h es with
        | none => none
        | some o' => some (o ++ o')
def z_nox : Nat → zG → zO := fun _ _ => none
theorem z_cat_mem {f : Nat → zO} : ∀ {ps : List Nat} {os : List zE}, z_cat f ps = some os → ∀ p ∈ ps, ∃ o, f p = some o ∧ ∀ e ∈ o, e ∈ os
  | [], _, _, p, hp => by cases hp
  | [q], os, h, p, hp => by
    rw [List.mem_singleton.mp hp]
    exact ⟨os, h, fun e he => he⟩
  | q :: q2 :: ps, os, h, p, hp => by
    unfold z_cat at h
    dsimp only at h
    cases h1 : f q with
    | none => rw [h1] at h; cases h
    | some o =>
      rw [h1] at h
      dsimp only at h
      cases h2 : z_cat f (q2 :: ps) with
      | none => rw [h2] at h; cases h
      | some o' =>
        rw [h2] at h
        cases h
        rcases List.mem_cons.mp hp with rfl | hp
        · exact ⟨o, h1, fun e he => List.mem_append_left _ he⟩
        · obtain ⟨o2, g1, g2⟩ := z_cat_mem h2 p hp
          exact ⟨o2, g1, fun e he => List.mem_append_right _ (g2 e he)⟩
theorem z_cal_mem {f : Option zV → zG → zO} {h : Nat → zG → zO} : ∀ {es : List zE} {os : List zE}, z_cal f h es = some os → ∀ e ∈ es, ∃ o, z_cf f h e = some o ∧ ∀ e ∈ o, e ∈ os
  | [], _, _, p, hp => by cases hp
  | [q], os, h9, p, hp => by
    rw [List.mem_singleton.mp hp]
    exact ⟨os, h9, fun e he => he⟩
  | q :: q2 :: ps, os, h9, p, hp => by
    unfold z_cal at h9
    dsimp only at h9
    cases h1 : z_cf f h q with
    | none => rw [h1] at h9; cases h9
    | some o =>
      rw [h1] at h9
      dsimp only at h9
      cases h2 : z_cal f h (q2 :: ps) with
      | none => rw [h2] at h9; cases h9
      | some o' =>
        rw [h2] at h9
        cases h9
        rcases List.mem_cons.mp hp with rfl | hp
        · exact ⟨o, h1, fun e he => List.mem_append_left _ he⟩
        · obtain ⟨o2, g1, g2⟩ := z_cal_mem h2 p hp
          exact ⟨o2, g1, fun e he => List.mem_append_right _ (g2 e he)⟩
def z_sfx : List aE → Nat → List aE
  | [], _ => []
  | e :: es, pc => bif Nat.beq e.1 pc then e :: es else z_sfx es pc
def z_get (cd rest : List aE) (pc : Nat) : List aE := match rest with
  | [] => z_sfx cd pc
  | e :: es => bif Nat.beq e.1 pc then e :: es else z_sfx cd pc
def z_end (cd rest : List aE) : Prop := ∃ pre, cd = pre ++ rest
theorem z_srt_fnd {e : aE} {es : List aE} : ∀ {pre : List aE} {n : Nat}, z_srt n (pre ++ e :: es) = true → n ≤ e.1 ∧ a_fnd (pre ++ e :: es) e.1 = some e.2
  | [], n, h => by
    simp only [List.nil_append, z_srt, Bool.and_eq_true] at h
    refine ⟨z_ble h.1, ?_⟩
    show (bif Nat.beq e.1 e.1 then some e.2 else a_fnd es e.1) = _
    rw [Nat.beq_refl]
    rfl
  | p :: pre, n, h => by
    simp only [List.cons_append, z_srt, Bool.and_eq_true] at h
    obtain ⟨h1, h2⟩ := z_srt_fnd h.2
    have := z_ble h.1
    refine ⟨by omega, ?_⟩
    show (bif Nat.beq p.1 e.1 then some p.2 else a_fnd (pre ++ e :: es) e.1) = _
    rw [show Nat.beq p.1 e.1 = false from by
      cases hb : Nat.beq p.1 e.1 with
      | false => rfl
      | true => have := Nat.eq_of_beq_eq_true hb; omega]
    exact h2
theorem z_sfx_ok {e : aE} {es : List aE} {pc : Nat} : ∀ {cd : List aE}, z_sfx cd pc = e :: es → a_fnd cd pc = some e.2 ∧ z_end cd (e :: es)
  | [], h => by cases h
  | p :: cd, h => by
    unfold z_sfx at h
    unfold a_fnd
    cases hb : Nat.beq p.1 pc with
    | true =>
      rw [hb, cond_true] at h
      cases h
      exact ⟨rfl, [], rfl⟩
    | false =>
      rw [hb, cond_false] at h
      obtain ⟨h1, pre, h2⟩ := z_sfx_ok h
      exact ⟨h1, p :: pre, by rw [h2]; rfl⟩
theorem z_get_ok {cd rest : List aE} {pc : Nat} {e : aE} {es : List aE} (hs : z_srt 0 cd = true) (hr : z_end cd rest) (h : z_get cd rest pc = e :: es) : a_fnd cd pc = some e.2 ∧ z_end cd es := by
  have key : ∀ q, z_end cd (q :: es) → z_end cd es := fun q ⟨pre, hp⟩ => ⟨pre ++ [q], by rw [hp]; simp⟩
  unfold z_get at h
  cases rest with
  | nil =>
    obtain ⟨h1, h2⟩ := z_sfx_ok h
    exact ⟨h1, key _ h2⟩
  | cons p r =>
    dsimp only at h
    cases hb : Nat.beq p.1 pc with
    | true =>
      rw [hb, cond_true] at h
      cases h
      obtain ⟨pre, hp⟩ := hr
      have h1 := Nat.eq_of_beq_eq_true hb
      rw [hp] at hs
      have h2 := (z_srt_fnd hs).2
      rw [← hp, h1] at h2
      exact ⟨h2, key _ ⟨pre, hp⟩⟩
    | false =>
      rw [hb, cond_false] at h
      obtain ⟨h1, h2⟩ := z_sfx_ok h
      exact ⟨h1, key _ h2⟩
def z_sfxE : List zEn → Nat → List zEn
  | [], _ => []
  | e :: es, pc => bif Nat.beq e.1 pc then e :: es else z_sfxE es pc
def z_getE (cd rest : List zEn) (pc : Nat) : List zEn := match rest with
  | [] => z_sfxE cd pc
  | e :: es => bif Nat.beq e.1 pc then e :: es else z_sfxE cd pc
theorem z_sfxE_map : ∀ (cd : List aE) (pc : Nat), z_sfxE (cd.map z_cmpl) pc = (z_sfx cd pc).map z_cmpl
  | [], _ => rfl
  | e :: cd, pc => by
    show (bif Nat.beq e.1 pc then z_cmpl e :: cd.map z_cmpl else z_sfxE (cd.map z_cmpl) pc) = (bif Nat.beq e.1 pc then e :: cd else z_sfx cd pc).map z_cmpl
    cases Nat.beq e.1 pc with
    | true => rfl
    | false => exact z_sfxE_map cd pc
theorem z_getE_map (cd rest : List aE) (pc : Nat) : z_getE (cd.map z_cmpl) (rest.map z_cmpl) pc = (z_get cd rest pc).map z_cmpl := by
  cases rest with
  | nil => exact z_sfxE_map cd pc
  | cons e r =>
    show (bif Nat.beq e.1 pc then z_cmpl e :: r.map z_cmpl else z_sfxE (cd.map z_cmpl) pc) = (bif Nat.beq e.1 pc then e :: r else z_sfx cd pc).map z_cmpl
    cases Nat.beq e.1 pc with
    | true => rfl
    | false => exact z_sfxE_map cd pc
def z_lp (cal : Nat → List zV → zG → zO) (d : Nat) (oS : Option Nat) (rt : Option FieldType) (cd : List zEn) : Nat → List zEn → Nat → zL → List zV → zG → zO
  | 0, _, _, _, _, _ => none
  | f + 1, rest, pc, L, S, g => match z_getE cd rest pc with
    | [] => none
    | e :: es => match e with
      | (_, fn, x, y, cb, t, nx) => match fn d oS rt x y cb t nx L S g with
        | none => none
        | some (.inl (pcs, L', S', g')) => match g' with
          | (a, b) => z_cat (fun q => z_lp cal d oS rt cd f es q L' S' (a, b)) pcs
        | some (.inr (.inl (v, g'))) => some [.inl (v, g')]
        | some (.inr (.inr (.inl (x, g')))) => some [.inr (x, g')]
        | some (.inr (.inr (.inr (x, y, nx)))) => bif z_rok x y S then (match cal x (S.take y).reverse g with
          | some os => z_cal (fun v g' => a_fL (z_res v (S.drop y)) (fun S' => z_lp cal d oS rt cd f es nx L S' g')) z_nox os
          | none => none) else none
def z_ent : List zV → zL
  | [] => []
  | v :: r => match v with
    | .inr (.inl _) => some v :: none :: z_ent r
    | _ => some v :: z_ent r
def z_pad (n : Nat) (l : zL) : zL := l ++ List.replicate (n - l.length) none
def z_run (oS : Option Nat) (orc : Nat → Nat → List zV → zG → zO) : Nat → Nat → List zV → zG → zO
  | 0, _, _, _ => none
  | d + 1, y, as, g => match z_lk y with
    | none => none
    | some (nL, rt, _, _, _, cd) => bif Nat.ble (z_ent as).length nL then a_fL (z_pad nL (z_ent as)) (fun L => z_lp (fun y as g => match orc d y as g with
      | some o => some o
      | none => z_run oS orc d y as g) d oS rt cd 100000 cd 0 L [] g) else none
def z_po (M0 : aM) (os : List zE) (v : Option aV) (M : aM) : Prop := ∃ v' g', Sum.inl (v', g') ∈ os ∧ z_ov v' v ∧ z_M M0 g' M
def z_px (M0 : aM) (os : List zE) (x : Nat) (M : aM) : Prop := ∃ g', Sum.inr (x, g') ∈ os ∧ z_M M0 g' M
theorem z_po_mono {M0 : aM} {os os' : List zE} (h : ∀ e ∈ os, e ∈ os') {v : Option aV} {M : aM} (hp : z_po M0 os v M) : z_po M0 os' v M := by
  obtain ⟨v', g', h1, h2⟩ := hp
  exact ⟨v', g', h _ h1, h2⟩
theorem z_px_mono {M0 : aM} {os os' : List zE} (h : ∀ e ∈ os, e ∈ os') {x : Nat} {M : aM} (hp : z_px M0 os x M) : z_px M0 os' x M := by
  obtain ⟨g', h1, h2⟩ := hp
  exact ⟨g', h _ h1, h2⟩
/-- what a run of a method tells, holds of the method -/
def z_sd (nS d : Nat) (M0 : aM) (cal : Nat → List zV → zG → zO) : Prop := ∀ (y : Nat) (as : List zV) (g : zG) (os : List zE) (as' : List aV) (M : aM) (post : Option aV → aM → Prop) (px : Nat → aM → Prop), cal y as g = some os → z_S as as' → z_M M0 g M → (∀ v M', z_po M0 os v M' → post v M') → (∀ x M', z_px M0 os x M' → px x M') → aC nS d y as' M post px
theorem z_lp_ok {nS d : Nat} {oS : Option Nat} (hoS : ∀ n, oS = some n → n = nS) {M0 : aM} {cal : Nat → List zV → zG → zO} (hcal : z_sd nS d M0 cal) {rt : Option FieldType} {cd : List aE} {post : Option aV → aM → Prop} {px : Nat → aM → Prop} {K : aK}
    (hK : ∀ pc L S M, a_wp d nS (fun y as M P => aC nS d y as M P (fun _ _ => False)) rt cd post px K pc L S M → K pc L S M) : z_srt 0 cd = true → ∀ (f : Nat) (rest : List aE) (pc : Nat) (Lz : zL) (Sz : List zV) (g : zG) (os : List zE), z_end cd rest → z_lp cal d oS rt (cd.map z_cmpl) f (rest.map z_cmpl) pc Lz Sz g = some os → (∀ v M', z_po M0 os v M' → post v M') → (∀ x M', z_px M0 os x M' → px x M') → ∀ (L : aL) (S : List aV) (M : aM), z_L Lz L → z_S Sz S → z_M M0 g M → K pc L S M := by
  intro hsrt f
  induction f with
  | zero => intro rest pc Lz Sz g os _ h; cases h
  | succ f ih =>
    intro rest pc Lz Sz g os hend h ho hx L S M hL hS hM
    refine hK _ _ _ _ ?_
    unfold z_lp at h
    unfold a_wp
    rw [z_getE_map] at h
    cases hg9 : z_get cd rest pc with
    | nil => rw [hg9] at h; cases h
    | cons ee es =>
    obtain ⟨pc9, i, x, y, c, t, nx⟩ := ee
    obtain ⟨hf, hend⟩ := z_get_ok hsrt hend hg9
    rw [hg9] at h
    rw [hf]
    have h : (match z_st d oS rt i x y c t nx Lz Sz g with
        | none => none
        | some (.inl (pcs, L', S', g')) => match g' with
          | (a, b) => z_cat (fun q => z_lp cal d oS rt (cd.map z_cmpl) f (es.map z_cmpl) q L' S' (a, b)) pcs
        | some (.inr (.inl (v, g'))) => some [.inl (v, g')]
        | some (.inr (.inr (.inl (x, g')))) => some [.inr (x, g')]
        | some (.inr (.inr (.inr (x, y, nx)))) => bif z_rok x y Sz then (match cal x (Sz.take y).reverse g with
          | some os => z_cal (fun v g' => a_fL (z_res v (Sz.drop y)) (fun S' => z_lp cal d oS rt (cd.map z_cmpl) f (es.map z_cmpl) nx Lz S' g')) z_nox os
          | none => none) else none) = some os := h
    dsimp only at h ⊢
    refine z_exS hoS hL hS hM ?_
    generalize z_st d oS rt i x y c t nx Lz Sz g = q at h ⊢
    rcases q with _ | ⟨pcs, L', S', ga, gb⟩ | ⟨v, g'⟩ | ⟨x', g'⟩ | ⟨x', y', nx'⟩
    · cases h
    · dsimp only at h
      intro p hp L1 S1 M1 hL1 hS1 hM1
      obtain ⟨o, h1, h2⟩ := z_cat_mem h p hp
      exact ih _ _ _ _ _ _ hend h1 (fun v M' z => ho v M' (z_po_mono h2 z)) (fun v M' z => hx v M' (z_px_mono h2 z)) _ _ _ hL1 hS1 hM1
    · cases h
      intro v1 M1 hv hM1
      exact ho _ _ ⟨v, g', List.mem_singleton.mpr rfl, hv, hM1⟩
    · cases h
      intro M1 hM1
      exact hx _ _ ⟨g', List.mem_singleton.mpr rfl, hM1⟩
    · dsimp only at h
      cases hr9 : z_rok x' y' Sz with
      | false => rw [hr9] at h; cases h
      | true =>
      rw [hr9, cond_true] at h
      cases hc : cal x' (Sz.take y').reverse g with
      | none => rw [hc] at h; cases h
      | some r =>
        rw [hc] at h
        dsimp only at h
        have hm := z_cal_mem h
        refine ⟨z_po M0 r, z_rok_ok hS hr9, hcal _ _ _ _ _ _ _ _ hc (z_S_rev (z_S_take y' hS)) hM (fun v M' z => z) (fun x M' z => ?_), fun v M' hv => ?_⟩
        · obtain ⟨g', h1, -⟩ := z
          obtain ⟨o, h2, -⟩ := hm _ h1
          cases h2
        · obtain ⟨v', g', h1, h2, h3⟩ := hv
          obtain ⟨o, h4, h5⟩ := hm _ h1
          have h4 : a_fL (z_res v' (Sz.drop y')) (fun S' => z_lp cal d oS rt (cd.map z_cmpl) f (es.map z_cmpl) nx' Lz S' g') = some o := h4
          rw [a_fL_eq] at h4
          exact ih _ _ _ _ _ _ hend h4 (fun v M' z => ho v M' (z_po_mono h5 z)) (fun v M' z => hx v M' (z_px_mono h5 z)) _ _ _ hL (z_res_ok h2 (z_S_drop y' hS)) h3
theorem z_ent_ok : ∀ {as : List zV} {as' : List aV}, z_S as as' → (a_ent as').length = (z_ent as).length ∧ ∀ (j : Nat) (v : zV), (z_ent as)[j]? = some (some v) → ∃ x, (a_ent as')[j]? = some (some x) ∧ z_v v x
  | [], [], _ => ⟨rfl, fun j v h => by simp [z_ent] at h⟩
  | [], _ :: _, h => False.elim h
  | _ :: _, [], h => False.elim h
  | v :: r, x :: s, h => by
    obtain ⟨h1, h2⟩ := z_ent_ok h.2
    rcases v with v | v | v
    · rcases x with x | x | x
      · refine ⟨by simp [z_ent, a_ent, h1], fun j w hj => ?_⟩
        cases j with
        | zero => simp [z_ent] at hj; subst hj; exact ⟨_, rfl, h.1⟩
        | succ j => simp [z_ent] at hj; simp only [a_ent, List.getElem?_cons_succ]; exact h2 j w hj
      · exact False.elim h.1
      · exact False.elim h.1
    · rcases x with x | x | x
      · cases v <;> exact False.elim h.1
      · refine ⟨by simp [z_ent, a_ent, h1], fun j w hj => ?_⟩
        cases j with
        | zero => simp [z_ent] at hj; subst hj; exact ⟨_, rfl, h.1⟩
        | succ j =>
          cases j with
          | zero => simp [z_ent] at hj
          | succ j => simp [z_ent] at hj; simp only [a_ent, List.getElem?_cons_succ]; exact h2 j w hj
      · cases v <;> exact False.elim h.1
    · rcases x with x | x | x
      · exact False.elim h.1
      · exact False.elim h.1
      · refine ⟨by simp [z_ent, a_ent, h1], fun j w hj => ?_⟩
        cases j with
        | zero => simp [z_ent] at hj; subst hj; exact ⟨_, rfl, h.1⟩
        | succ j => simp [z_ent] at hj; simp only [a_ent, List.getElem?_cons_succ]; exact h2 j w hj
theorem z_pad_ok {n : Nat} {as : List zV} {as' : List aV} (h : z_S as as') : z_L (z_pad n (z_ent as)) (a_pad n (a_ent as')) := by
  obtain ⟨h1, h2⟩ := z_ent_ok h
  refine ⟨by simp [z_pad, a_pad, h1], fun j v hj => ?_⟩
  unfold z_pad at hj
  unfold a_pad
  by_cases hl : j < (z_ent as).length
  · rw [List.getElem?_append_left hl] at hj
    rw [List.getElem?_append_left (by rw [h1]; exact hl)]
    exact h2 j v hj
  · rw [List.getElem?_append_right (Nat.le_of_not_lt hl), List.getElem?_replicate] at hj
    split at hj <;> cases hj
theorem z_run_ok {nS : Nat} {M0 : aM} {oS : Option Nat} (hoS : ∀ n, oS = some n → n = nS) {orc : Nat → Nat → List zV → zG → zO} (horc : ∀ d, z_sd nS d M0 (orc d)) : ∀ d : Nat, z_sd nS d M0 (z_run oS orc d) := by
  intro d
  induction d with
  | zero => intro y as g os as' M post px h; cases h
  | succ d ih =>
    intro y as g os as' M post px h hS hM ho hx
    unfold z_run at h
    unfold aC
    cases hm : z_lk y with
    | none => rw [hm] at h; cases h
    | some mm =>
    obtain ⟨nm, b, own, ps, cd, hq1, hq2, hsrt⟩ := z_lk_ok hm
    obtain ⟨nL, rt, st, ci, na, zcd⟩ := mm
    rw [hm] at h
    rw [hq1]
    dsimp only at h hq2 ⊢
    subst hq2
    cases hw : Nat.ble (z_ent as).length nL with
    | false => rw [hw] at h; cases h
    | true =>
      rw [hw, cond_true, a_fL_eq] at h
      rw [(z_ent_ok hS).1]
      exact ⟨hw, fun K hK _ => z_lp_ok hoS (cal := fun y as g => match orc d y as g with
        | some o => some o
        | none => z_run oS orc d y as g) (fun y as g os as' M post px hc => by
        dsimp only at hc
        cases ho9 : orc d y as g with
        | some o =>
          rw [ho9] at hc
          cases hc
          exact horc d y as g _ as' M post px ho9
        | none =>
          rw [ho9] at hc
          exact ih y as g _ as' M post px hc) hK hsrt _ cd _ _ _ _ _ ⟨[], rfl⟩ h ho hx _ _ _ (z_pad_ok hS) trivial hM⟩
def z_or0 : Nat → Nat → List zV → zG → zO := fun _ _ _ _ => none
theorem z_or0_ok {nS : Nat} {M0 : aM} : ∀ d, z_sd nS d M0 (z_or0 d) := fun d y as g os as' M post px h => by cases h
/-! methods that catch, and the law's body -/
def z_isV : Instr → Bool
  | .invokevirtual _ => true
  | _ => false
def z_lpW (cal : Nat → List zV → zG → zO) (d : Nat) (oS : Option Nat) (hh : List (Nat × Nat × Nat × Nat)) (cd : List aE) : Nat → Bool → Nat → zL → List zV → zG → zO
  | 0, _, _, _, _, _ => none
  | f + 1, md, pc, L, S, g => match a_fnd cd pc with
    | none => none
    | some (i, x, y, c, t, nx) => bif !md && z_isV i then
        (bif Nat.ble (z_wid (S.drop y)) 8 && z_rok x y S && !(Nat.beq x 900) && !(Nat.beq x 901) then (match cal x (S.take y).reverse g with
          | some os => z_cal (fun v g' => a_fL (z_res v (S.drop y)) (fun S' => z_lpW cal d oS hh cd f true nx L S' g')) (fun e g' => match a_hnd pc e hh with
            | some h => bif Nat.blt e 5 then z_lpW cal d oS hh cd f true h L [.inr (.inr (97, 0))] g' else none
            | none => none) os
          | none => none) else none)
      else match z_st d oS (some .int) i x y c t nx L S g with
      | none => none
      | some (.inl (pcs, L', S', g')) => match g' with
        | (a, b) => z_cat (fun q => z_lpW cal d oS hh cd f md q L' S' (a, b)) pcs
      | some (.inr (.inl (v, g'))) => some [.inl (v, g')]
      | some (.inr (.inr (.inl _))) => none
      | some (.inr (.inr (.inr _))) => none
theorem z_lpW_ok {nS d : Nat} {oS : Option Nat} (hoS : ∀ n, oS = some n → n = nS) {M0 : aM} {cal : Nat → List zV → zG → zO} (hcal : z_sd nS d M0 cal) {hh : List (Nat × Nat × Nat × Nat)} {cd : List aE} {post : Option aV → aM → Prop} {K1 K2 : aK}
    (hK1 : ∀ pc L S M, a_wp d nS (fun y as M P => aC nS d y as M P (fun _ _ => False)) (some .int) cd post (fun _ _ => False) K1 pc L S M → K1 pc L S M)
    (hK2 : ∀ pc L S M, a_wp d nS (fun y as M P => aC nS d y as M P (fun _ _ => False)) (some .int) cd post (fun _ _ => False) K2 pc L S M → K2 pc L S M)
    (hT : ∀ pc L S M, a_wpT nS d hh cd K2 pc L S M → K1 pc L S M) : ∀ (f : Nat) (md : Bool) (pc : Nat) (Lz : zL) (Sz : List zV) (g : zG) (os : List zE), z_lpW cal d oS hh cd f md pc Lz Sz g = some os → (∀ v M', z_po M0 os v M' → post v M') → ∀ (L : aL) (S : List aV) (M : aM), z_L Lz L → z_S Sz S → z_M M0 g M → (bif md then K2 else K1) pc L S M := by
  intro f
  induction f with
  | zero => intro md pc Lz Sz g os h; cases h
  | succ f ih =>
    intro md pc Lz Sz g os h ho L S M hL hS hM
    have ho : ∀ v M', z_po M0 os v M' → post v M' := ho
    unfold z_lpW at h
    cases hf : a_fnd cd pc with
    | none => rw [hf] at h; cases h
    | some ee =>
    obtain ⟨i, x, y, c, t, nx⟩ := ee
    rw [hf] at h
    dsimp only at h
    cases hb : (!md && z_isV i) with
    | true =>
      rw [hb, cond_true] at h
      rw [Bool.and_eq_true] at hb
      have hmd : md = false := by simpa using hb.1
      subst hmd
      have hi := hb.2
      show K1 pc L S M
      refine hT _ _ _ _ ?_
      unfold a_wpT
      rw [hf]
      cases i with
      | invokevirtual ix =>
        dsimp only
        cases hk : (Nat.ble (z_wid (Sz.drop y)) 8 && z_rok x y Sz && !(Nat.beq x 900) && !(Nat.beq x 901)) with
        | false => rw [hk] at h; cases h
        | true =>
          rw [hk, cond_true] at h
          simp only [Bool.and_eq_true] at hk
          cases hc : cal x (Sz.take y).reverse g with
          | none => rw [hc] at h; cases h
          | some r =>
            rw [hc] at h
            dsimp only at h
            have hm := z_cal_mem h
            refine ⟨z_po M0 r, z_px M0 r, hcal _ _ _ _ _ _ _ _ hc (z_S_rev (z_S_take y hS)) hM (fun v M' z => z) (fun x M' z => z), ?_, fun v M' hv => ?_, fun e M' he => ?_⟩
            · rw [z_wid_ok (z_S_drop y hS), hk.1.1.1, z_rok_ok hS hk.1.1.2, hk.1.2, hk.2]
              rfl
            · obtain ⟨v', g', h1, h2, h3⟩ := hv
              obtain ⟨o, h4, h5⟩ := hm _ h1
              have h4 : a_fL (z_res v' (Sz.drop y)) (fun S' => z_lpW cal d oS hh cd f true nx Lz S' g') = some o := h4
              rw [a_fL_eq] at h4
              exact ih true _ _ _ _ _ h4 (fun v M' z => ho v M' (z_po_mono h5 z)) _ _ _ hL (z_res_ok h2 (z_S_drop y hS)) h3
            · obtain ⟨g', h1, h3⟩ := he
              obtain ⟨o, h4, h5⟩ := hm _ h1
              have h4 : (match a_hnd pc e hh with
                | some h => bif Nat.blt e 5 then z_lpW cal d oS hh cd f true h Lz [.inr (.inr (97, 0))] g' else none
                | none => none) = some o := h4
              cases hh9 : a_hnd pc e hh with
              | none => rw [hh9] at h4; cases h4
              | some h9 =>
                rw [hh9] at h4
                dsimp only at h4
                cases h5' : Nat.blt e 5 with
                | false => rw [h5'] at h4; cases h4
                | true =>
                  rw [h5', cond_true] at h4
                  exact ⟨h9, rfl, rfl, fun q => ih true _ _ _ _ _ h4 (fun v M' z => ho v M' (z_po_mono h5 z)) _ _ _ hL ⟨⟨rfl, Or.inl rfl⟩, trivial⟩ h3⟩
      | _ => cases hi
    | false =>
      rw [hb, cond_false] at h
      have key : ∀ K : aK, (∀ (pc : Nat) (Lz : zL) (Sz : List zV) (g : zG) (os : List zE), z_lpW cal d oS hh cd f md pc Lz Sz g = some os → (∀ v M', z_po M0 os v M' → post v M') → ∀ (L : aL) (S : List aV) (M : aM), z_L Lz L → z_S Sz S → z_M M0 g M → K pc L S M) → a_wp d nS (fun y as M P => aC nS d y as M P (fun _ _ => False)) (some .int) cd post (fun _ _ => False) K pc L S M := by
        intro K ihK
        unfold a_wp
        rw [hf]
        dsimp only
        refine z_exS hoS hL hS hM ?_
        generalize z_st d oS (some .int) i x y c t nx Lz Sz g = q at h ⊢
        rcases q with _ | ⟨pcs, L', S', ga, gb⟩ | ⟨v, g'⟩ | ⟨x', g'⟩ | ⟨x', y', nx'⟩
        · cases h
        · dsimp only at h
          intro p hp L1 S1 M1 hL1 hS1 hM1
          obtain ⟨o, h1, h2⟩ := z_cat_mem h p hp
          exact ihK _ _ _ _ _ h1 (fun v M' z => ho v M' (z_po_mono h2 z)) _ _ _ hL1 hS1 hM1
        · cases h
          intro v1 M1 hv hM1
          exact ho _ _ ⟨v, g', List.mem_singleton.mpr rfl, hv, hM1⟩
        · cases h
        · cases h
      cases md with
      | true => exact hK2 _ _ _ _ (key K2 (fun pc Lz Sz g os h1 h2 => ih true pc Lz Sz g os h1 h2))
      | false => exact hK1 _ _ _ _ (key K1 (fun pc Lz Sz g os h1 h2 => ih false pc Lz Sz g os h1 h2))
def z_runW (oS : Option Nat) (d : Nat) (w : Nat) (as : List zV) (g : zG) : zO := match a_wt[w]? with
  | none => none
  | some (_, _, nL, hh, _, _, cd) => bif Nat.ble (z_ent as).length nL then a_fL (z_pad nL (z_ent as)) (fun L => z_lpW (z_run oS z_or0 d) d oS hh cd 100000 false 0 L [] g) else none
theorem z_runW_ok {nS d w : Nat} {oS : Option Nat} (hoS : ∀ n, oS = some n → n = nS) {M0 : aM} {as : List zV} {g : zG} {os : List zE} {as' : List aV} {M : aM} {post : Option aV → aM → Prop} (h : z_runW oS d w as g = some os) (hS : z_S as as') (hM : z_M M0 g M) (ho : ∀ v M', z_po M0 os v M' → post v M') : aCW nS d w as' M post := by
  unfold z_runW at h
  unfold aCW
  cases hm : a_wt[w]? with
  | none => rw [hm] at h; cases h
  | some mm =>
  obtain ⟨nm, b, nL, hh, na, ps, cd⟩ := mm
  rw [hm] at h
  dsimp only at h ⊢
  cases hw : Nat.ble (z_ent as).length nL with
  | false => rw [hw] at h; cases h
  | true =>
    rw [hw, cond_true, a_fL_eq] at h
    rw [(z_ent_ok hS).1]
    exact ⟨hw, fun K1 K2 hK1 hK2 hT => z_lpW_ok hoS (z_run_ok hoS z_or0_ok d) hK1 hK2 hT _ false _ _ _ _ _ h ho _ _ _ (z_pad_ok hS) trivial hM⟩
def z_alls (f : Nat → Bool) : List Nat → Bool
  | [] => true
  | p :: ps => match ps with
    | [] => f p
    | _ :: _ => bif f p then z_alls f ps else false
def z_allc (f : Option zV → zG → Bool) : List zE → Bool
  | [] => true
  | e :: es => match es with
    | [] => (match e with
      | .inl (v, (a, b)) => f v (a, b)
      | .inr _ => false)
    | _ :: _ => bif (match e with
      | .inl (v, (a, b)) => f v (a, b)
      | .inr _ => false) then z_allc f es else false
theorem z_alls_mem {f : Nat → Bool} : ∀ {ps : List Nat}, z_alls f ps = true → ∀ p ∈ ps, f p = true
  | [], _, p, hp => by cases hp
  | [q], h, p, hp => by rw [List.mem_singleton.mp hp]; exact h
  | q :: q2 :: ps, h, p, hp => by
    unfold z_alls at h
    dsimp only at h
    cases h1 : f q with
    | false => rw [h1] at h; cases h
    | true =>
      rw [h1, cond_true] at h
      rcases List.mem_cons.mp hp with rfl | hp
      · exact h1
      · exact z_alls_mem h p hp
theorem z_allc_mem {f : Option zV → zG → Bool} : ∀ {es : List zE}, z_allc f es = true → ∀ e ∈ es, ∃ v g, e = .inl (v, g) ∧ f v g = true
  | [], _, p, hp => by cases hp
  | [q], h, p, hp => by
    rw [List.mem_singleton.mp hp]
    rcases q with ⟨v, a, b⟩ | ⟨v, a, b⟩
    · exact ⟨v, (a, b), rfl, h⟩
    · cases h
  | q :: q2 :: ps, h, p, hp => by
    unfold z_allc at h
    dsimp only at h
    rcases q with ⟨v, a, b⟩ | ⟨v, a, b⟩
    · dsimp only at h
      cases h1 : f v (a, b) with
      | false => rw [h1] at h; cases h
      | true =>
        rw [h1, cond_true] at h
        rcases List.mem_cons.mp hp with rfl | hp
        · exact ⟨v, (a, b), rfl, h1⟩
        · exact z_allc_mem h p hp
    · cases h
def z_isS : Instr → Bool
  | .invokestatic _ => true
  | _ => false
def z_isR : Instr → Bool
  | .ireturn => true
  | _ => false
def z_lpL (d : Nat) (oS : Option Nat) : Nat → Nat → Nat → zL → List zV → zG → Bool
  | 0, _, _, _, _, _ => false
  | f + 1, n, pc, L, S, g => match a_fnd k_law pc with
    | some (i, x, y, c, t, nx) => bif z_isR i then (match S with
        | [.inl v] => Nat.beq v.1 2147483649 && Nat.beq v.2 2147483649
        | _ => false)
      else (match z_st d oS ret i x y c t nx L S g with
        | some (.inl (pcs, L', S', g')) => (match g' with
          | (a, b) => z_alls (fun q => z_lpL d oS f n q L' S' (a, b)) pcs)
        | some (.inr (.inr (.inr (x, y, nx)))) => bif z_rok x y S then (match z_run oS z_or0 d x (S.take y).reverse g with
          | some os => z_allc (fun v g' => a_fL (z_res v (S.drop y)) (fun S' => z_lpL d oS f n nx L S' g')) os
          | none => false) else false
        | _ => false)
    | none => match a_fnd k_lawW pc with
      | some (i, x, y, _, _, nx) => bif z_isS i && (Nat.blt n 1000 && (Nat.ble (z_wid (S.drop y)) 8 && Nat.ble y S.length)) then (match z_runW oS d x (S.take y).reverse g with
          | some os => z_allc (fun v g' => a_fL (z_res v (S.drop y)) (fun S' => z_lpL d oS f (n + 1) nx L S' g')) os
          | none => false) else false
      | none => false
theorem z_law_ok {nS d : Nat} {oS : Option Nat} (hoS : ∀ n, oS = some n → n = nS) {M0 : aM} {K : Nat → aK} (hK : ∀ n pc L S M, a_wp d nS (fun y as M P => aC nS d y as M P (fun _ _ => False)) ret k_law (fun _ _ => False) (fun _ _ => False) (K n) pc L S M → K n pc L S M)
    (hW : ∀ n pc L S M, a_wpW nS d K n pc L S M → K n pc L S M) (hR : ∀ n pc L M e, a_fnd k_law pc = some e → e.1 = .ireturn → K n pc L [vI 1] M) :
    ∀ (f n pc : Nat) (Lz : zL) (Sz : List zV) (g : zG), z_lpL d oS f n pc Lz Sz g = true → ∀ (L : aL) (S : List aV) (M : aM), z_L Lz L → z_S Sz S → z_M M0 g M → K n pc L S M := by
  intro f
  induction f with
  | zero => intro n pc Lz Sz g h; cases h
  | succ f ih =>
    intro n pc Lz Sz g h L S M hL hS hM
    unfold z_lpL at h
    cases hf : a_fnd k_law pc with
    | some ee =>
      obtain ⟨i, x, y, c, t, nx⟩ := ee
      rw [hf] at h
      dsimp only at h
      cases hr : z_isR i with
      | true =>
        rw [hr, cond_true] at h
        have hi : i = .ireturn := by cases i <;> first | rfl | cases hr
        split at h
        · rename_i v
          rw [Bool.and_eq_true] at h
          obtain ⟨b1, s1, rfl, hb, hS⟩ := z_S_I hS
          have := z_S_N hS
          subst this
          have e1 := Nat.eq_of_beq_eq_true h.1
          have e2 := Nat.eq_of_beq_eq_true h.2
          have e3 : b1 = 1 := by
            have e4 : z_b 1 = 2147483649 := by decide +kernel
            obtain ⟨h1, h2⟩ := hb
            exact z_b_inj (by rw [e4]; omega)
          subst e3
          exact hR n pc L M _ hf hi
        · cases h
      | false =>
        rw [hr, cond_false] at h
        refine hK _ _ _ _ _ ?_
        unfold a_wp
        rw [hf]
        dsimp only
        refine z_exS hoS (M0 := M0) hL hS hM ?_
        generalize z_st d oS ret i x y c t nx Lz Sz g = q at h ⊢
        rcases q with _ | ⟨pcs, L', S', ga, gb⟩ | ⟨v, g'⟩ | ⟨x', g'⟩ | ⟨x', y', nx'⟩
        · cases h
        · dsimp only at h
          intro p hp L1 S1 M1 hL1 hS1 hM1
          exact ih _ _ _ _ _ (z_alls_mem h p hp) _ _ _ hL1 hS1 hM1
        · cases h
        · cases h
        · dsimp only at h
          cases hr9 : z_rok x' y' Sz with
          | false => rw [hr9] at h; cases h
          | true =>
          rw [hr9, cond_true] at h
          cases hc : z_run oS z_or0 d x' (Sz.take y').reverse g with
          | none => rw [hc] at h; cases h
          | some r =>
            rw [hc] at h
            dsimp only at h
            have hm := z_allc_mem h
            refine ⟨z_po M0 r, z_rok_ok hS hr9, z_run_ok hoS z_or0_ok d _ _ _ _ _ _ _ _ hc (z_S_rev (z_S_take y' hS)) hM (fun v M' z => z) (fun x M' z => ?_), fun v M' hv => ?_⟩
            · obtain ⟨g', h1, -⟩ := z
              obtain ⟨v, g2, h2, -⟩ := hm _ h1
              cases h2
            · obtain ⟨v', g', h1, h2, h3⟩ := hv
              obtain ⟨v2, g2, h4, h5⟩ := hm _ h1
              cases h4
              rw [a_fL_eq] at h5
              exact ih _ _ _ _ _ h5 _ _ _ hL (z_res_ok h2 (z_S_drop y' hS)) h3
    | none =>
      rw [hf] at h
      dsimp only at h
      refine hW _ _ _ _ _ ?_
      unfold a_wpW
      cases hw : a_fnd k_lawW pc with
      | none => rw [hw] at h; cases h
      | some ee =>
        obtain ⟨i, x, y, c, t, nx⟩ := ee
        rw [hw] at h
        dsimp only at h
        obtain ⟨hb, h9⟩ : (z_isS i && (Nat.blt n 1000 && (Nat.ble (z_wid (Sz.drop y)) 8 && Nat.ble y Sz.length))) = true ∧ (match z_runW oS d x (Sz.take y).reverse g with
          | some os => z_allc (fun v g' => a_fL (z_res v (Sz.drop y)) (fun S' => z_lpL d oS f (n + 1) nx Lz S' g')) os
          | none => false) = true := by
          cases hb : (z_isS i && (Nat.blt n 1000 && (Nat.ble (z_wid (Sz.drop y)) 8 && Nat.ble y Sz.length))) with
          | true => rw [hb] at h; exact ⟨rfl, h⟩
          | false => rw [hb] at h; cases h
        clear h
        simp only [Bool.and_eq_true] at hb
        cases i with
        | invokestatic ix =>
          dsimp only
          cases hc : z_runW oS d x (Sz.take y).reverse g with
          | none => rw [hc] at h9; cases h9
          | some r =>
            rw [hc] at h9
            dsimp only at h9
            have hm := z_allc_mem h9
            refine ⟨z_blt hb.2.1, z_po M0 r, z_runW_ok hoS hc (z_S_rev (z_S_take y hS)) hM (fun v M' z => z), ?_, fun v M' hv => ?_⟩
            · rw [z_wid_ok (z_S_drop y hS), z_S_len hS, hb.2.2.1, hb.2.2.2]
              rfl
            · obtain ⟨v', g', h1, h2, h3⟩ := hv
              obtain ⟨v2, g2, h4, h5⟩ := hm _ h1
              cases h4
              rw [a_fL_eq] at h5
              exact ih _ _ _ _ _ h5 _ _ _ hL (z_res_ok h2 (z_S_drop y hS)) h3
        | _ => cases hb.1
/-- depths may be more -/
theorem a_w1_up {d nS : Nat} {cal cal' : Nat → List aV → aM → (Option aV → aM → Prop) → Prop} (hc : ∀ y as M P, cal y as M P → cal' y as M P) {rt : Option FieldType} {post : Option aV → aM → Prop} {px : Nat → aM → Prop} {K : aK} {i : Instr} {x y : Nat} {c : Int32} {t : List Nat} {nx : Nat} {L : aL} {S : List aV} {M : aM} (h : a_w1 d nS cal rt post px K i x y c t nx L S M) : a_w1 (d + 1) nS cal' rt post px K i x y c t nx L S M := by
  have hd : Nat.ble 6 d = true → Nat.ble 6 (d + 1) = true := fun z => Nat.ble_eq_true_of_le (Nat.le_succ_of_le (Nat.le_of_ble_eq_true z))
  cases i with
  | invokevirtual n =>
    unfold a_w1 at h ⊢
    dsimp only at h ⊢
    cases h900 : Nat.beq x 900 with
    | true =>
      rw [h900] at h
      simp only [cond_true] at h ⊢
      split at h
      · split at h
        · rw [Bool.and_eq_true] at h ⊢
          exact ⟨⟨hd h.1.1, h.1.2⟩, h.2⟩
        · exact False.elim h
      · exact False.elim h
    | false =>
    rw [h900] at h
    simp only [cond_false] at h ⊢
    cases h901 : Nat.beq x 901 with
    | true =>
      rw [h901] at h
      simp only [cond_true] at h ⊢
      split at h
      · split at h
        · rw [Bool.and_eq_true] at h ⊢
          exact ⟨⟨hd h.1.1, h.1.2⟩, h.2⟩
        · exact False.elim h
      · exact False.elim h
    | false =>
    rw [h901] at h
    simp only [cond_false] at h ⊢
    obtain ⟨P, g1, g2, g3⟩ := h
    exact ⟨P, hc _ _ _ _ g1, g2, g3⟩
  | invokestatic n =>
    unfold a_w1 at h ⊢
    dsimp only at h ⊢
    cases h902 : Nat.beq x 902 with
    | true =>
      rw [h902] at h
      simp only [cond_true] at h ⊢
      exact h
    | false =>
    rw [h902] at h
    simp only [cond_false] at h ⊢
    obtain ⟨P, g1, g2, g3⟩ := h
    exact ⟨P, hc _ _ _ _ g1, g2, g3⟩
  | new n =>
    unfold a_w1 at h ⊢
    dsimp only at h ⊢
    split at h
    · exact ⟨hd h.1, h.2⟩
    · exact False.elim h
  | _ => exact h
theorem aC_up {nS : Nat} : ∀ {d y : Nat} {as : List aV} {M : aM} {post : Option aV → aM → Prop} {px : Nat → aM → Prop}, aC nS d y as M post px → aC nS (d + 1) y as M post px := by
  intro d
  induction d with
  | zero => intro y as M post px h; exact False.elim h
  | succ d ih =>
    intro y as M post px h
    unfold aC at h ⊢
    cases hm : a_mt[y]? with
    | none => rw [hm] at h; exact False.elim h
    | some mm =>
      obtain ⟨nm, b, nL, rt, st, ci, na, own, ps, cd⟩ := mm
      rw [hm] at h
      refine ⟨h.1, fun K hK hF => h.2 K (fun pc L S M z => hK pc L S M ?_) hF⟩
      unfold a_wp at z ⊢
      cases hf : a_fnd cd pc with
      | none => rw [hf] at z; exact False.elim z
      | some ee =>
        obtain ⟨i, x, y, c0, t, nx⟩ := ee
        rw [hf] at z
        exact a_w1_up (fun y as M P q => ih q) z
theorem aC_le {nS d d' y : Nat} {as : List aV} {M : aM} {post : Option aV → aM → Prop} {px : Nat → aM → Prop} (hd : d ≤ d') (h : aC nS d y as M post px) : aC nS d' y as M post px := by
  induction hd with
  | refl => exact h
  | step _ ih => exact aC_up ih
