/-- what a method that may throw answers, of both sides: c told as thrown, x as the answer -/
def cOu (S : Nat → Int64 → Prop) (v : Option aV) (M' : aM) : Prop := ∃ c x, S c x ∧ v = some (vI (Int32.ofNat c)) ∧ (c = 0 → M'.2 98 0 0 = x)
def mOu (S : Nat → Int64 → Prop) (v : Option aV) (M' : aM) : Prop := ∃ c x, S c x ∧ M'.1 36 0 0 = Int32.ofNat c ∧ (c = 0 → ∃ y, v = some (vI y) ∧ x = y.toInt64)
def mOL (S : Nat → Int64 → Prop) (v : Option aV) (M' : aM) : Prop := ∃ c x, S c x ∧ M'.1 36 0 0 = Int32.ofNat c ∧ (c = 0 → v = some (vL x))
def fS (S : Nat → Int64 → Prop) (b : Nat) : Prop := (∀ c x c' x', S c x → S c' x' → c = c' ∧ (c = 0 → x = x')) ∧ ∀ c x, S c x → c ≤ b
theorem cSm_r {M : aM} : cSm M M := ⟨⟨fun _ => rfl, fun _ _ _ _ _ _ => rfl, rfl⟩, rfl, rfl, fun _ _ _ _ => rfl⟩
theorem cSm_L {M M1 : aM} {x : Int64} (h : cSm M M1) : cSm M (a_pL M1 98 0 0 x) := h
theorem RXc1 {S : Nat → Int64 → Prop} (f : fS S 1) {t : Nat} {N1 N2 : aM} {v w : Option aV} (p : mPost t N1 N2) (h1 : cOu S v N1) (h2 : mOu S w N2) : (v = some (vI 0) ∧ N2.1 36 0 0 = 0 ∧ ∃ x, w = some (vI x) ∧ N2.2 98 0 0 = x.toInt64) ∨ (v = some (vI 1) ∧ N2.1 36 0 0 = 1) := by
  obtain ⟨c, x, hs, hv, ho⟩ := h1
  obtain ⟨c', x', hs', ht, hw⟩ := h2
  obtain ⟨e1, e2⟩ := f.1 c x c' x' hs hs'
  subst e1
  have hb := f.2 c x hs
  have hc : c = 0 ∨ c = 1 := by omega
  rcases hc with rfl | rfl
  · obtain ⟨y, hy, ey⟩ := hw rfl
    exact Or.inl ⟨hv, ht, y, hy, (p.2.2.1 98 0 0 (Or.inr (by decide))).2.trans ((ho rfl).trans ((e2 rfl).trans ey))⟩
  · exact Or.inr ⟨hv, ht⟩
theorem RXc2 {S : Nat → Int64 → Prop} (f : fS S 2) {t : Nat} {N1 N2 : aM} {v w : Option aV} (p : mPost t N1 N2) (h1 : cOu S v N1) (h2 : mOu S w N2) : (v = some (vI 0) ∧ N2.1 36 0 0 = 0 ∧ ∃ x, w = some (vI x) ∧ N2.2 98 0 0 = x.toInt64) ∨ (v = some (vI 1) ∧ N2.1 36 0 0 = 1) ∨ (v = some (vI 2) ∧ N2.1 36 0 0 = 2) := by
  obtain ⟨c, x, hs, hv, ho⟩ := h1
  obtain ⟨c', x', hs', ht, hw⟩ := h2
  obtain ⟨e1, e2⟩ := f.1 c x c' x' hs hs'
  subst e1
  have hb := f.2 c x hs
  have hc : c = 0 ∨ c = 1 ∨ c = 2 := by omega
  rcases hc with rfl | rfl | rfl
  · obtain ⟨y, hy, ey⟩ := hw rfl
    exact Or.inl ⟨hv, ht, y, hy, (p.2.2.1 98 0 0 (Or.inr (by decide))).2.trans ((ho rfl).trans ((e2 rfl).trans ey))⟩
  · exact Or.inr (Or.inl ⟨hv, ht⟩)
  · exact Or.inr (Or.inr ⟨hv, ht⟩)
theorem RXL1 {S : Nat → Int64 → Prop} (f : fS S 1) {t : Nat} {N1 N2 : aM} {v w : Option aV} (p : mPost t N1 N2) (h1 : cOu S v N1) (h2 : mOL S w N2) : (v = some (vI 0) ∧ N2.1 36 0 0 = 0 ∧ ∃ x, w = some (vL x) ∧ N2.2 98 0 0 = x) ∨ (v = some (vI 1) ∧ N2.1 36 0 0 = 1) := by
  obtain ⟨c, x, hs, hv, ho⟩ := h1
  obtain ⟨c', x', hs', ht, hw⟩ := h2
  obtain ⟨e1, e2⟩ := f.1 c x c' x' hs hs'
  subst e1
  have hb := f.2 c x hs
  have hc : c = 0 ∨ c = 1 := by omega
  rcases hc with rfl | rfl
  · exact Or.inl ⟨hv, ht, x', hw rfl, (p.2.2.1 98 0 0 (Or.inr (by decide))).2.trans ((ho rfl).trans (e2 rfl))⟩
  · exact Or.inr ⟨hv, ht⟩
theorem x_no36 : ∀ e ∈ zTb, ¬ (e.1 = 36 ∧ (e.2.1 ≤ 0 ∧ 0 ≤ e.2.2.1)) := by decide +kernel
theorem mP_t {M : aM} {x : Int32} (hT : z_MT (zTb, [], []) M) (hi : iM M) : mPost (z_b (M.1 36 0 6)) M (a_pI M 36 0 0 x) ∧ mSm M (a_pI M 36 0 0 x) := by
  have h : z_M (zTb, [(36, 0, 0)], []) M [] (a_pI M 36 0 0 x) := h_Mps (h_M0 hT) rfl (fun e he h1 h2 h3 => absurd ⟨h1, h2, h3⟩ (x_no36 e he))
  exact ⟨mPost_same h hi rfl, mSm_ok (W := [(36, 0, 0)]) rfl h.2.1⟩
theorem x_same {α : Type} {a : α} : a = a := rfl
def S_by (e : xB) (a1 a2 : Int32) (c : Nat) (x : Int64) : Prop := (∃ a b, a < e.1.2 ∧ b < e.1.2 ∧ a1 = Int32.ofNat a ∧ a2 = Int32.ofNat b ∧ c = 0 ∧ x = (Int32.ofNat (rt e.1.1 e.1.2 a b)).toInt64) ∨ (¬ (okT e.1.2 a1 ∧ okT e.1.2 a2) ∧ c = 1)
theorem fS_by {e : xB} {a1 a2 : Int32} (o8 : e.1.2 ≤ 8) : fS (S_by e a1 a2) 1 := by
  refine ⟨fun c x c' x' h h' => ?_, fun c x h => ?_⟩
  · rcases h with ⟨a, b, ha, hb, ea, eb, hc, hx⟩ | ⟨no, hc⟩
    · rcases h' with ⟨a', b', ha', hb', ea', eb', hc', hx'⟩ | ⟨no, -⟩
      · have q1 : a = a' := x_inj (by omega) (by omega) (ea.symm.trans ea')
        have q2 : b = b' := x_inj (by omega) (by omega) (eb.symm.trans eb')
        subst q1
        subst q2
        exact ⟨hc.trans hc'.symm, fun _ => hx.trans hx'.symm⟩
      · exact absurd ⟨⟨a, ha, ea⟩, ⟨b, hb, eb⟩⟩ no
    · rcases h' with ⟨a', b', ha', hb', ea', eb', -, -⟩ | ⟨-, hc'⟩
      · exact absurd ⟨⟨a', ha', ea'⟩, ⟨b', hb', eb'⟩⟩ no
      · exact ⟨hc.trans hc'.symm, fun z => by omega⟩
  · rcases h with ⟨-, -, -, -, -, -, hc, -⟩ | ⟨-, hc⟩ <;> omega
theorem wx_by {nS n k : Nat} {e : xB} {M : aM} {a1 a2 : Int32} (hT : z_MT (zTb, [], []) M) (hS : SX e n k M) : aCW nS 60 1 [vR 0 0, vI a1, vI a2, vR 98 0] M (fun v M' => (∃ x, v = some (vI x)) ∧ cPost (z_b (M.1 1 0 1)) M M' ∧ cSm M M' ∧ cOu (S_by e a1 a2) v M') := by
  refine aCW_post (wX_by (c_byX hS.1) (fun v M' z => ?_) (fun q M' z => z.1)) (fun v M' z => ?_)
  · obtain ⟨⟨a, b, -, -, -, -, hv⟩, -⟩ := z
    exact ⟨_, hv⟩
  · rcases z with ⟨rfl, x, M1, ⟨⟨a, b, ha, hb, e1, e2, hv⟩, rfl⟩, rfl⟩ | ⟨rfl, -, no, rfl⟩
    · cases hv
      exact ⟨⟨_, rfl⟩, cPost_L (cPost_same (h_M0 (W := []) hT) rfl), cSm_r, 0, _, Or.inl ⟨a, b, ha, hb, e1, e2, rfl, rfl⟩, rfl, fun _ => a_pLs⟩
    · exact ⟨⟨_, rfl⟩, cPost_same (h_M0 (W := []) hT) rfl, cSm_r, 1, 0, Or.inr ⟨no, rfl⟩, rfl, fun h => absurd h (by decide)⟩
theorem mx_by {nS n k : Nat} {e : xB} {M : aM} {a1 a2 : Int32} (hT : z_MT (zTb, [], []) M) (hi : iM M) (hS : SM e n k M) : aC nS 60 213 [vR 36 0, vI a1, vI a2] M (fun v M' => (∃ y, v = some (vI y)) ∧ mPost (z_b (M.1 36 0 6)) M M' ∧ mSm M M' ∧ mOu (S_by e a1 a2) v M') (fun _ _ => False) := by
  refine aC_post (r_byX hS.1) (fun v M' z => ?_) (fun _ _ z => z)
  rcases z with ⟨no, rfl, rfl⟩ | ⟨a, b, ha, hb, e1, e2, rfl, rfl⟩
  · exact ⟨⟨_, rfl⟩, (mP_t hT hi).1, (mP_t hT hi).2, 1, 0, Or.inr ⟨no, rfl⟩, x_pe, fun h => absurd h (by decide)⟩
  · exact ⟨⟨_, rfl⟩, (mP_t hT hi).1, (mP_t hT hi).2, 0, _, Or.inl ⟨a, b, ha, hb, e1, e2, rfl, rfl⟩, x_pe, fun _ => ⟨_, rfl, rfl⟩⟩
def S_turn (e : xB) (a1 a2 : Int32) (c : Nat) (x : Int64) : Prop := (∃ a q, a < e.1.2 ∧ q ≤ 6 ∧ a1 = Int32.ofNat a ∧ a2 = Int32.ofNat q ∧ c = 0 ∧ x = (tv e.1.1 e.1.2 e.2.2.1 a q).toInt64) ∨ (¬ okT e.1.2 a1 ∧ c = 1) ∨ (okT e.1.2 a1 ∧ ¬ okW a2 ∧ c = 2)
theorem fS_turn {e : xB} {a1 a2 : Int32} (o8 : e.1.2 ≤ 8) : fS (S_turn e a1 a2) 2 := by
  refine ⟨fun c x c' x' h h' => ?_, fun c x h => ?_⟩
  · rcases h with ⟨a, b, ha, hb, ea, eb, hc, hx⟩ | ⟨no, hc⟩ | ⟨yes, no, hc⟩
    · rcases h' with ⟨a', b', ha', hb', ea', eb', hc', hx'⟩ | ⟨no, -⟩ | ⟨-, no, -⟩
      · have q1 : a = a' := x_inj (by omega) (by omega) (ea.symm.trans ea')
        have q2 : b = b' := x_inj (by omega) (by omega) (eb.symm.trans eb')
        subst q1
        subst q2
        exact ⟨hc.trans hc'.symm, fun _ => hx.trans hx'.symm⟩
      · exact absurd ⟨a, ha, ea⟩ no
      · exact absurd ⟨b, hb, eb⟩ no
    · rcases h' with ⟨a', b', ha', hb', ea', eb', -, -⟩ | ⟨-, hc'⟩ | ⟨yes', -, -⟩
      · exact absurd ⟨a', ha', ea'⟩ no
      · exact ⟨hc.trans hc'.symm, fun z => by omega⟩
      · exact absurd yes' no
    · rcases h' with ⟨a', b', ha', hb', ea', eb', -, -⟩ | ⟨no', -⟩ | ⟨-, -, hc'⟩
      · exact absurd ⟨b', hb', eb'⟩ no
      · exact absurd yes no'
      · exact ⟨hc.trans hc'.symm, fun z => by omega⟩
  · rcases h with ⟨-, -, -, -, -, -, hc, -⟩ | ⟨-, hc⟩ | ⟨-, -, hc⟩ <;> omega
theorem wx_turn {nS n k : Nat} {e : xB} {M : aM} {a1 a2 : Int32} (hT : z_MT (zTb, [], []) M) (hS : SX e n k M) : aCW nS 60 2 [vR 0 0, vI a1, vI a2, vR 98 0] M (fun v M' => (∃ x, v = some (vI x)) ∧ cPost (z_b (M.1 1 0 1)) M M' ∧ cSm M M' ∧ cOu (S_turn e a1 a2) v M') := by
  refine aCW_post (wX_turn (c_turnX hS.1) (fun v M' z => ?_) (fun q M' z => ?_)) (fun v M' z => ?_)
  · obtain ⟨⟨a, b, -, -, -, -, hv⟩, -⟩ := z
    exact ⟨_, hv⟩
  · obtain ⟨z, -⟩ := z
    rcases z with ⟨z, -⟩ | ⟨z, -⟩
    · exact Or.inl z
    · exact Or.inr z
  · rcases z with ⟨rfl, x, M1, ⟨⟨a, b, ha, hb, e1, e2, hv⟩, rfl⟩, rfl⟩ | ⟨rfl, z, rfl⟩ | ⟨rfl, z, rfl⟩
    · cases hv
      exact ⟨⟨_, rfl⟩, cPost_L (cPost_same (h_M0 (W := []) hT) rfl), cSm_r, 0, _, Or.inl ⟨a, b, ha, hb, e1, e2, rfl, rfl⟩, rfl, fun _ => a_pLs⟩
    · rcases z with ⟨-, no⟩ | ⟨z, -⟩
      · exact ⟨⟨_, rfl⟩, cPost_same (h_M0 (W := []) hT) rfl, cSm_r, 1, 0, Or.inr (Or.inl ⟨no, rfl⟩), rfl, fun h => absurd h (by decide)⟩
      · exact absurd z (by decide)
    · rcases z with ⟨z, -⟩ | ⟨-, yes, no⟩
      · exact absurd z (by decide)
      · exact ⟨⟨_, rfl⟩, cPost_same (h_M0 (W := []) hT) rfl, cSm_r, 2, 0, Or.inr (Or.inr ⟨yes, no, rfl⟩), rfl, fun h => absurd h (by decide)⟩
theorem mx_turn {nS n k : Nat} {e : xB} {M : aM} {a1 a2 : Int32} (hT : z_MT (zTb, [], []) M) (hi : iM M) (hS : SM e n k M) : aC nS 60 214 [vR 36 0, vI a1, vI a2] M (fun v M' => (∃ y, v = some (vI y)) ∧ mPost (z_b (M.1 36 0 6)) M M' ∧ mSm M M' ∧ mOu (S_turn e a1 a2) v M') (fun _ _ => False) := by
  refine aC_post (r_turnX hS.1) (fun v M' z => ?_) (fun _ _ z => z)
  rcases z with ⟨no, rfl, rfl⟩ | ⟨yes, no, rfl, rfl⟩ | ⟨a, b, ha, hb, e1, e2, rfl, rfl⟩
  · exact ⟨⟨_, rfl⟩, (mP_t hT hi).1, (mP_t hT hi).2, 1, 0, Or.inr (Or.inl ⟨no, rfl⟩), x_pe, fun h => absurd h (by decide)⟩
  · exact ⟨⟨_, rfl⟩, (mP_t hT hi).1, (mP_t hT hi).2, 2, 0, Or.inr (Or.inr ⟨yes, no, rfl⟩), x_pe, fun h => absurd h (by decide)⟩
  · exact ⟨⟨_, rfl⟩, (mP_t hT hi).1, (mP_t hT hi).2, 0, _, Or.inl ⟨a, b, ha, hb, e1, e2, rfl, rfl⟩, x_pe, fun _ => ⟨_, rfl, rfl⟩⟩
theorem cx_rests {nS n k : Nat} {e : xB} {M : aM} {a1 : Int32} (hT : z_MT (zTb, [], []) M) (hS : SX e n k M) (b1 : a1 = 0 ∨ a1 = 1) : aC nS 60 170 [vR 0 0, vI a1] M (fun v M' => v = some (vI (Int32.ofNat (rsv e.1.1 e.1.2 e.2.1.2.2 (a1 == 1)))) ∧ cPost (z_b (M.1 1 0 1)) M M' ∧ cSm M M') (fun _ _ => False) := by
  refine aC_post (c_restsX hS.1 b1) (fun v M' z => ?_) (fun _ _ z => z)
  obtain ⟨rfl, rfl⟩ := z
  exact ⟨rfl, cPost_same (h_M0 (W := []) hT) rfl, cSm_r⟩
theorem mx_rests {nS n k : Nat} {e : xB} {M : aM} {a1 : Int32} (hT : z_MT (zTb, [], []) M) (hi : iM M) (hS : SM e n k M) (b1 : a1 = 0 ∨ a1 = 1) : aC nS 60 248 [vR 36 0, vI a1] M (fun v M' => v = some (vI (Int32.ofNat (rsv e.1.1 e.1.2 e.2.1.2.2 (a1 == 1)))) ∧ mPost (z_b (M.1 36 0 6)) M M' ∧ mSm M M') (fun _ _ => False) := by
  refine aC_post (r_restsX hS.1 b1) (fun v M' z => ?_) (fun _ _ z => z)
  obtain ⟨rfl, rfl⟩ := z
  exact ⟨rfl, mP_t hT hi⟩
theorem x_rests {α : Type} {a : α} : a = a := rfl
def S_dual (e : xB) (a1 : Int32) (c : Nat) (x : Int64) : Prop := (∃ t, t < e.1.2 ∧ a1 = Int32.ofNat t ∧ e.1.1 = 3 ∧ c = 0 ∧ x = (dl e.2.2.1 t e.1.2).toInt64) ∨ (¬ okT e.1.2 a1 ∧ c = 1) ∨ (okT e.1.2 a1 ∧ ¬ e.1.1 = 3 ∧ c = 2)
theorem fS_dual {e : xB} {a1 : Int32} (o8 : e.1.2 ≤ 8) : fS (S_dual e a1) 2 := by
  refine ⟨fun c x c' x' h h' => ?_, fun c x h => ?_⟩
  · rcases h with ⟨a, ha, ea, k3, hc, hx⟩ | ⟨no, hc⟩ | ⟨yes, no, hc⟩
    · rcases h' with ⟨a', ha', ea', -, hc', hx'⟩ | ⟨no, -⟩ | ⟨-, no, -⟩
      · have q1 : a = a' := x_inj (by omega) (by omega) (ea.symm.trans ea')
        subst q1
        exact ⟨hc.trans hc'.symm, fun _ => hx.trans hx'.symm⟩
      · exact absurd ⟨a, ha, ea⟩ no
      · exact absurd k3 no
    · rcases h' with ⟨a', ha', ea', -, -, -⟩ | ⟨-, hc'⟩ | ⟨yes', -, -⟩
      · exact absurd ⟨a', ha', ea'⟩ no
      · exact ⟨hc.trans hc'.symm, fun z => by omega⟩
      · exact absurd yes' no
    · rcases h' with ⟨a', ha', ea', k3, -, -⟩ | ⟨no', -⟩ | ⟨-, -, hc'⟩
      · exact absurd k3 no
      · exact absurd yes no'
      · exact ⟨hc.trans hc'.symm, fun z => by omega⟩
  · rcases h with ⟨-, -, -, -, hc, -⟩ | ⟨-, hc⟩ | ⟨-, -, hc⟩ <;> omega
theorem wx_dual {nS n k : Nat} {e : xB} {M : aM} {a1 : Int32} (hT : z_MT (zTb, [], []) M) (hS : SX e n k M) : aCW nS 60 12 [vR 0 0, vI a1, vR 98 0] M (fun v M' => (∃ x, v = some (vI x)) ∧ cPost (z_b (M.1 1 0 1)) M M' ∧ cSm M M' ∧ cOu (S_dual e a1) v M') := by
  refine aCW_post (wX_dual (c_dualX hS.1) (fun v M' z => ?_) (fun q M' z => ?_)) (fun v M' z => ?_)
  · obtain ⟨⟨a, -, -, -, hv⟩, -⟩ := z
    exact ⟨_, hv⟩
  · obtain ⟨z, -⟩ := z
    rcases z with ⟨z, -⟩ | ⟨z, -⟩
    · exact Or.inl z
    · exact Or.inr z
  · rcases z with ⟨rfl, x, M1, ⟨⟨a, ha, e1, k3, hv⟩, rfl⟩, rfl⟩ | ⟨rfl, z, rfl⟩ | ⟨rfl, z, rfl⟩
    · cases hv
      exact ⟨⟨_, rfl⟩, cPost_L (cPost_same (h_M0 (W := []) hT) rfl), cSm_r, 0, _, Or.inl ⟨a, ha, e1, k3, rfl, rfl⟩, rfl, fun _ => a_pLs⟩
    · rcases z with ⟨-, no⟩ | ⟨z, -⟩
      · exact ⟨⟨_, rfl⟩, cPost_same (h_M0 (W := []) hT) rfl, cSm_r, 1, 0, Or.inr (Or.inl ⟨no, rfl⟩), rfl, fun h => absurd h (by decide)⟩
      · exact absurd z (by decide)
    · rcases z with ⟨z, -⟩ | ⟨-, yes, no⟩
      · exact absurd z (by decide)
      · exact ⟨⟨_, rfl⟩, cPost_same (h_M0 (W := []) hT) rfl, cSm_r, 2, 0, Or.inr (Or.inr ⟨yes, no, rfl⟩), rfl, fun h => absurd h (by decide)⟩
theorem mx_dual {nS n k : Nat} {e : xB} {M : aM} {a1 : Int32} (hT : z_MT (zTb, [], []) M) (hi : iM M) (hS : SM e n k M) : aC nS 60 252 [vR 36 0, vI a1] M (fun v M' => (∃ y, v = some (vI y)) ∧ mPost (z_b (M.1 36 0 6)) M M' ∧ mSm M M' ∧ mOu (S_dual e a1) v M') (fun _ _ => False) := by
  refine aC_post (r_dualX hS.1) (fun v M' z => ?_) (fun _ _ z => z)
  rcases z with ⟨no, rfl, rfl⟩ | ⟨yes, no, rfl, rfl⟩ | ⟨a, ha, e1, k3, rfl, rfl⟩
  · exact ⟨⟨_, rfl⟩, (mP_t hT hi).1, (mP_t hT hi).2, 1, 0, Or.inr (Or.inl ⟨no, rfl⟩), x_pe, fun h => absurd h (by decide)⟩
  · exact ⟨⟨_, rfl⟩, (mP_t hT hi).1, (mP_t hT hi).2, 2, 0, Or.inr (Or.inr ⟨yes, no, rfl⟩), x_pe, fun h => absurd h (by decide)⟩
  · exact ⟨⟨_, rfl⟩, (mP_t hT hi).1, (mP_t hT hi).2, 0, _, Or.inl ⟨a, ha, e1, k3, rfl, rfl⟩, x_pe, fun _ => ⟨_, rfl, rfl⟩⟩
def S_dualSum (e : xB) (c : Nat) (x : Int64) : Prop := ((e.1.1 = 3 ∧ e.2.1.2.2 = 2) ∧ c = 0 ∧ x = dsm e) ∨ (¬ (e.1.1 = 3 ∧ e.2.1.2.2 = 2) ∧ c = 1)
theorem fS_dualSum {e : xB} (o8 : e.1.2 ≤ 8) : fS (S_dualSum e) 1 := by
  refine ⟨fun c x c' x' h h' => ?_, fun c x h => ?_⟩
  · rcases h with ⟨y, hc, hx⟩ | ⟨no, hc⟩
    · rcases h' with ⟨-, hc', hx'⟩ | ⟨no, -⟩
      · exact ⟨hc.trans hc'.symm, fun _ => hx.trans hx'.symm⟩
      · exact absurd y no
    · rcases h' with ⟨y, -, -⟩ | ⟨-, hc'⟩
      · exact absurd y no
      · exact ⟨hc.trans hc'.symm, fun z => by omega⟩
  · rcases h with ⟨-, hc, -⟩ | ⟨-, hc⟩ <;> omega
theorem wx_dualSum {nS n k : Nat} {e : xB} {M : aM} (hT : z_MT (zTb, [], []) M) (hS : SX e n k M) : aCW nS 60 13 [vR 0 0, vR 98 0] M (fun v M' => (∃ x, v = some (vI x)) ∧ cPost (z_b (M.1 1 0 1)) M M' ∧ cSm M M' ∧ cOu (S_dualSum e) v M') := by
  refine aCW_post (wX_dualSum (c_dualSumX hS.1) (fun v M' z => ?_) (fun q M' z => z.1.1)) (fun v M' z => ?_)
  · exact ⟨_, z.1.2⟩
  · rcases z with ⟨rfl, x, M1, ⟨⟨yes, hv⟩, rfl⟩, rfl⟩ | ⟨rfl, ⟨-, no⟩, rfl⟩
    · cases hv
      exact ⟨⟨_, rfl⟩, cPost_L (cPost_same (h_M0 (W := []) hT) rfl), cSm_r, 0, _, Or.inl ⟨yes, rfl, rfl⟩, rfl, fun _ => a_pLs⟩
    · exact ⟨⟨_, rfl⟩, cPost_same (h_M0 (W := []) hT) rfl, cSm_r, 1, 0, Or.inr ⟨no, rfl⟩, rfl, fun h => absurd h (by decide)⟩
theorem mx_dualSum {nS n k : Nat} {e : xB} {M : aM} (hT : z_MT (zTb, [], []) M) (hi : iM M) (hS : SM e n k M) : aC nS 60 253 [vR 36 0] M (fun v M' => (∃ y, v = some (vL y)) ∧ mPost (z_b (M.1 36 0 6)) M M' ∧ mSm M M' ∧ mOL (S_dualSum e) v M') (fun _ _ => False) := by
  refine aC_post (r_dualSumX hS.1) (fun v M' z => ?_) (fun _ _ z => z)
  rcases z with ⟨no, rfl, rfl⟩ | ⟨yes, rfl, rfl⟩
  · exact ⟨⟨_, rfl⟩, (mP_t hT hi).1, (mP_t hT hi).2, 1, 0, Or.inr ⟨no, rfl⟩, x_pe, fun h => absurd h (by decide)⟩
  · exact ⟨⟨_, rfl⟩, (mP_t hT hi).1, (mP_t hT hi).2, 0, _, Or.inl ⟨yes, rfl, rfl⟩, x_pe, fun _ => rfl⟩
theorem cx_count {nS n k : Nat} {e : xB} {M : aM} {a1 : Int32} (hT : z_MT (zTb, [], []) M) (hS : SX e n k M) : aC nS 60 177 [vR 0 0, vI a1] M (fun v M' => (∃ x, v = some (vI x) ∧ CV e n k (M.1 4 0 4) a1 x) ∧ cPost (z_b (M.1 1 0 1)) M M' ∧ cSm M M') (fun _ _ => False) := by
  refine aC_post (c_countX hS.1 rfl hS.2.2.2.2.2.1 hS.2.2.2.2.2.2.1) (fun v M' z => ?_) (fun _ _ z => z)
  obtain ⟨z, rfl⟩ := z
  exact ⟨z, cPost_same (h_M0 (W := []) hT) rfl, cSm_r⟩
theorem mx_count {nS n k : Nat} {e : xB} {M : aM} {a1 : Int32} (hT : z_MT (zTb, [], []) M) (hi : iM M) (hS : SM e n k M) : aC nS 60 257 [vR 36 0, vI a1] M (fun v M' => (∃ x, v = some (vI x) ∧ CV e n k (M.1 37 0 0) a1 x) ∧ mPost (z_b (M.1 36 0 6)) M M' ∧ mSm M M') (fun _ _ => False) := by
  refine aC_post (r_countX hS.1 (x_pn (fun z => absurd z.1 (by decide))) ((x_pn (fun z => absurd z.1 (by decide))).trans hS.2.2.2.1) ((x_pn (fun z => absurd z.1 (by decide))).trans hS.2.2.2.2)) (fun v M' z => ?_) (fun _ _ z => z)
  obtain ⟨z, rfl⟩ := z
  exact ⟨z, mP_t hT hi⟩
theorem cx_turned {nS n k : Nat} {e : xB} {M : aM} (hT : z_MT (zTb, [], []) M) (hS : SX e n k M) (hO : lO e.2.1.1 e.2.1.2.1 e.2.1.2.2 e.1.2 e.2.2.2.2) : aC nS 60 164 [vR 0 0] M (fun v M' => v = some (vI (Int32.ofNat (tuy e e.2.1.2.1))) ∧ cPost (z_b (M.1 1 0 1)) M M' ∧ cSm M M') (fun _ _ => False) := by
  refine aC_post (c_turnedX hS.1 hO) (fun v M' z => ?_) (fun _ _ z => z)
  obtain ⟨rfl, rfl⟩ := z
  exact ⟨rfl, cPost_same (h_M0 (W := []) hT) rfl, cSm_r⟩
theorem mx_turned {nS n k : Nat} {e : xB} {M : aM} (hT : z_MT (zTb, [], []) M) (hi : iM M) (hS : SM e n k M) (hL : LL 37 M e) : aC nS 60 230 [vR 36 0] M (fun v M' => v = some (vI (Int32.ofNat (tuy e e.2.1.2.1))) ∧ mPost (z_b (M.1 36 0 6)) M M' ∧ mSm M M') (fun _ _ => False) := by
  refine aC_post (r_turnedX hS.1 hL) (fun v M' z => ?_) (fun _ _ z => z)
  obtain ⟨rfl, rfl⟩ := z
  exact ⟨rfl, mP_t hT hi⟩
theorem x_turned {α : Type} {a : α} : a = a := rfl
