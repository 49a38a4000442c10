/-! methods that catch -/
def z_isV : Instr → Bool
  | .invokevirtual _ => true
  | _ => false
def z_cfW (f : Option zV → zG → zO) (h : Nat → zG → zO) (e : zE) : zO := match e with
  | .inl (v, g) => f v g
  | .inr (.inl (x, g)) => h x g
  | .inr (.inr _) => none
def z_calW (f : Option zV → zG → zO) (h : Nat → zG → zO) : List zE → zO
  | [] => some []
  | e :: es => match z_cfW f h e with
    | none => none
    | some o => match z_calW f h es with
      | none => none
      | some o' => z_appK o o' some
theorem z_calW_ok {f : Option zV → zG → zO} {h : Nat → zG → zO} {C : zC} {M0 : aM} {post : Option aV → aM → Prop} {px : Nat → aM → Prop} {sp : Nat → aL → aM → Prop} : ∀ {es : List zE} {os : List zE}, z_calW f h es = some os → z_all C M0 post px sp os → ∀ e ∈ es, ∃ o, z_cfW f h e = some o ∧ z_all C M0 post px sp o
  | [], _, _, _, p, hp => by cases hp
  | q :: es, os, h9, ha, p, hp => by
    unfold z_calW at h9
    cases h1 : z_cfW f h q with
    | none => rw [h1] at h9; cases h9
    | some o =>
      rw [h1] at h9
      dsimp only at h9
      cases h2 : z_calW f h es with
      | none => rw [h2] at h9; cases h9
      | some o' =>
        rw [h2] at h9
        dsimp only at h9
        obtain ⟨m, h3, h4⟩ := z_appK_ok (r := o) (l := o') (k := some)
        rw [h3] at h9
        cases h9
        obtain ⟨a, b⟩ := h4 ha
        rcases List.mem_cons.mp hp with rfl | hp
        · exact ⟨o, h1, a⟩
        · exact z_calW_ok h2 b p hp
def z_lpW (C : zC) (cal : Nat → List zV → zG → zO) (d : Nat) (oS : Option Nat) (hh : List (Nat × Nat × Nat × Nat)) (cd : List aE) : Nat → Bool → Nat → zL → List zV → zG → zO
  | 0, _, _, _, _, _ => none
  | f + 1, md, pc, L, S, g => match a_fnd cd pc with
    | none => none
    | some (i, x, y, c, t, nx) => bif !md && z_isV i then
        (bif Nat.ble (z_wid (S.drop y)) 8 && z_rok x y S && !(Nat.beq x 900) && !(Nat.beq x 901) then (match cal x (S.take y).reverse g with
          | some os => z_calW (fun v g' => a_fL (z_res v (S.drop y)) (fun S' => z_lpW C cal d oS hh cd f true nx L S' g')) (fun e g' => match a_hnd pc e hh with
            | some h => bif Nat.blt e 5 then z_lpW C cal d oS hh cd f true h L [.inr (.inr (97, 0))] g' else none
            | none => none) os
          | none => none) else none)
      else match z_st C d oS (some .int) i x y c t nx L S g with
      | none => none
      | some (.inl (pcs, L', S', g')) => z_cat (fun q => z_lpW C cal d oS hh cd f md q L' S' g') pcs
      | some (.inr (.inl (v, g'))) => some [.inl (v, g')]
      | some (.inr (.inr (.inl _))) => none
      | some (.inr (.inr (.inr _))) => none
theorem z_lpW_ok {C : zC} {nS d : Nat} {oS : Option Nat} {M0 : aM} {cal : Nat → List zV → zG → zO} (hcal : z_sd C nS d M0 cal) {hh : List (Nat × Nat × Nat × Nat)} {cd : List aE} {post : Option aV → aM → Prop} {K1 K2 : aK}
    (hK1 : ∀ pc L S M, a_wp d nS (fun y as M P => aC nS d y as M P (fun _ _ => False)) (some .int) cd post (fun _ _ => False) K1 pc L S M → K1 pc L S M)
    (hK2 : ∀ pc L S M, a_wp d nS (fun y as M P => aC nS d y as M P (fun _ _ => False)) (some .int) cd post (fun _ _ => False) K2 pc L S M → K2 pc L S M)
    (hT : ∀ pc L S M, a_wpT nS d hh cd K2 pc L S M → K1 pc L S M) : ∀ (f : Nat) (md : Bool) (pc : Nat) (Lz : zL) (Sz : List zV) (g : zG) (os : List zE), z_lpW C cal d oS hh cd f md pc Lz Sz g = some os → z_all C M0 post (fun _ _ => False) (fun _ _ _ => False) os → ∀ (L : aL) (S : List aV) (M : aM), z_L Lz L → z_S Sz S → z_M C M0 g M → (bif md then K2 else K1) pc L S M := by
  intro f
  induction f with
  | zero => intro md pc Lz Sz g os h; cases h
  | succ f ih =>
    intro md pc Lz Sz g os h ha L S M hL hS hM
    unfold z_lpW at h
    cases hf : a_fnd cd pc with
    | none => rw [hf] at h; cases h
    | some ee =>
    obtain ⟨i, x, y, c, t, nx⟩ := ee
    rw [hf] at h
    dsimp only at h
    cases hb : (!md && z_isV i) with
    | true =>
      rw [hb, cond_true] at h
      rw [Bool.and_eq_true] at hb
      have hmd : md = false := by simpa using hb.1
      subst hmd
      have hi := hb.2
      show K1 pc L S M
      refine hT _ _ _ _ ?_
      unfold a_wpT
      rw [hf]
      cases i with
      | invokevirtual ix =>
        dsimp only
        cases hk : (Nat.ble (z_wid (Sz.drop y)) 8 && z_rok x y Sz && !(Nat.beq x 900) && !(Nat.beq x 901)) with
        | false => rw [hk] at h; cases h
        | true =>
          rw [hk, cond_true] at h
          simp only [Bool.and_eq_true] at hk
          cases hc : cal x (Sz.take y).reverse g with
          | none => rw [hc] at h; cases h
          | some r =>
            rw [hc] at h
            dsimp only at h
            have hm := z_calW_ok h ha
            refine ⟨fun v M' => K2 nx L (a_res v (S.drop y)) M', fun e M' => ∃ h9, a_hnd pc e hh = some h9 ∧ Nat.blt e 5 = true ∧ ∀ q, K2 h9 L [vR 97 q] M', hcal _ _ _ _ _ _ _ _ hc (z_S_rev (z_S_take y hS)) hM (fun e he => ?_), ?_, fun v M' hv => hv, fun e M' he => he⟩
            · obtain ⟨o, h4, h5⟩ := hm e he
              rcases e with ⟨v', g'⟩ | ⟨e9, g'⟩ | q9
              · intro v1 M1 q1 q2
                have h4 : a_fL (z_res v' (Sz.drop y)) (fun S' => z_lpW C cal d oS hh cd f true nx Lz S' g') = some o := h4
                rw [a_fL_eq] at h4
                exact ih true _ _ _ _ _ h4 h5 _ _ _ hL (z_res_ok q1 (z_S_drop y hS)) q2
              · intro M1 q2
                show ∃ h9, a_hnd pc e9 hh = some h9 ∧ Nat.blt e9 5 = true ∧ ∀ q, K2 h9 L [vR 97 q] M1
                have h4 : (match a_hnd pc e9 hh with
                  | some h => bif Nat.blt e9 5 then z_lpW C cal d oS hh cd f true h Lz [.inr (.inr (97, 0))] g' else none
                  | none => none) = some o := h4
                cases hh9 : a_hnd pc e9 hh with
                | none => rw [hh9] at h4; cases h4
                | some h9 =>
                  rw [hh9] at h4
                  dsimp only at h4
                  cases h5' : Nat.blt e9 5 with
                  | false => rw [h5'] at h4; cases h4
                  | true =>
                    rw [h5', cond_true] at h4
                    exact ⟨h9, rfl, rfl, fun q => ih true _ _ _ _ _ h4 h5 _ _ _ hL ⟨⟨rfl, Or.inl rfl⟩, trivial⟩ q2⟩
              · cases h4
            · rw [z_wid_ok (z_S_drop y hS), hk.1.1.1, z_rok_ok hS hk.1.1.2, hk.1.2, hk.2]
              rfl
      | _ => cases hi
    | false =>
      rw [hb, cond_false] at h
      have key : ∀ K : aK, (∀ (pc : Nat) (Lz : zL) (Sz : List zV) (g : zG) (os : List zE), z_lpW C cal d oS hh cd f md pc Lz Sz g = some os → z_all C M0 post (fun _ _ => False) (fun _ _ _ => False) os → ∀ (L : aL) (S : List aV) (M : aM), z_L Lz L → z_S Sz S → z_M C M0 g M → K pc L S M) → a_wp d nS (fun y as M P => aC nS d y as M P (fun _ _ => False)) (some .int) cd post (fun _ _ => False) K pc L S M := by
        intro K ihK
        unfold a_wp
        rw [hf]
        dsimp only
        refine z_exS (oS := oS) hL hS hM ?_
        generalize z_st C d oS (some .int) i x y c t nx Lz Sz g = q at h ⊢
        rcases q with _ | ⟨pcs, L', S', g'⟩ | ⟨v, g'⟩ | ⟨x', g'⟩ | ⟨x', y', nx'⟩
        · cases h
        · dsimp only at h
          intro p hp L1 S1 M1 hL1 hS1 hM1
          obtain ⟨o, h1, h2⟩ := z_cat_ok h ha p hp
          exact ihK _ _ _ _ _ h1 h2 _ _ _ hL1 hS1 hM1
        · cases h
          intro v1 M1 hv hM1
          exact ha _ (List.mem_singleton.mpr rfl) v1 M1 hv hM1
        · cases h
        · cases h
      cases md with
      | true => exact hK2 _ _ _ _ (key K2 (fun pc Lz Sz g os h1 h2 => ih true pc Lz Sz g os h1 h2))
      | false => exact hK1 _ _ _ _ (key K1 (fun pc Lz Sz g os h1 h2 => ih false pc Lz Sz g os h1 h2))
def z_runW (C : zC) (orc : Nat → List zV → zG → zO) (d w : Nat) (as : List zV) (g : zG) : zO := match a_wt[w]? with
  | none => none
  | some (_, _, nL, hh, _, _, cd) => bif Nat.ble (z_ent as).length nL then a_fL (z_pad nL (z_ent as)) (fun L => z_lpW C orc d none hh cd 10000 false 0 L [] g) else none
/-- a contract of such a method; its number counts among these -/
def z_wtH (T : zT) (d : Nat) (c : zCt) : Prop := ∀ (nS : Nat) (as : List aV) (M : aM), z_S c.2.1 as → z_MT (T, [], []) M → z_MG c.2.2.1 M → aCW nS d c.1 as M (z_po (T, c.2.2.2.1, []) M c.2.2.2.2.1)
def z_inl : List zE → Bool
  | [] => true
  | e :: r => match e with
    | .inl _ => z_inl r
    | .inr _ => false
theorem z_inl_ok : ∀ {l : List zE}, z_inl l = true → ∀ q, Sum.inr q ∈ l → False
  | [], _, q, h => by cases h
  | .inl a :: r, h, q, hq => by
    rcases List.mem_cons.mp hq with hq | hq
    · cases hq
    · exact z_inl_ok (l := r) h q hq
  | .inr a :: r, h, q, hq => by cases h
def z_ckW (T : zT) (F : zW) (cs : List zCt) (d : Nat) (c : zCt) : Bool := match z_runW (T, c.2.2.2.1, F) (z_orc (T, c.2.2.2.1, F) d cs) d c.1 c.2.1 c.2.2.1 with
  | none => false
  | some os => z_inl c.2.2.2.2.1 && z_aly (fun e => z_cvr T e c.2.2.2.2.1) os
theorem z_wt_ok {T : zT} {c : zCt} (F : zW) (cs : List zCt) (d : Nat) (hcs : ∀ c ∈ cs, z_ctH T c) (h : z_ckW T F cs d c = true) : z_wtH T d c := by
  intro nS as M hS hT hG
  unfold z_ckW at h
  cases hr : z_runW (T, c.2.2.2.1, F) (z_orc (T, c.2.2.2.1, F) d cs) d c.1 c.2.1 c.2.2.1 with
  | none => rw [hr] at h; cases h
  | some os =>
    rw [hr] at h
    dsimp only at h
    rw [Bool.and_eq_true] at h
    unfold z_runW at hr
    unfold aCW
    cases hm : a_wt[c.1]? with
    | none => rw [hm] at hr; cases hr
    | some mm =>
    obtain ⟨nm, b, nL, hh, na, ps, cd⟩ := mm
    rw [hm] at hr
    dsimp only at hr ⊢
    cases hw : Nat.ble (z_ent c.2.1).length nL with
    | false => rw [hw] at hr; cases hr
    | true =>
      rw [hw, cond_true, a_fL_eq] at hr
      rw [(z_ent_ok hS).1]
      exact ⟨hw, fun K1 K2 hK1 hK2 hT9 => z_lpW_ok (C := (T, c.2.2.2.1, F)) (z_orc_ok (Nat.le_refl d) hcs) hK1 hK2 hT9 _ false _ _ _ _ _ hr (fun e he => z_cvr_ok (z_aly_mem h.2 e he) (fun v M z => z) (fun x M z => by
        obtain ⟨g', h1, -⟩ := z
        exact z_inl_ok h.1 _ h1)) _ _ _ (z_pad_ok hS) trivial ⟨hT, fun _ _ _ _ => ⟨rfl, rfl⟩, hG⟩⟩
