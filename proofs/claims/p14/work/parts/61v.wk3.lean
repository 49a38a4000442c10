theorem r_lineK {nS d w h s n c1 c2 : Nat} {off : Bool} {M : aM} {x y z : Int32} (hs : rS M w h s) (w1 : 1 ≤ w) (w3 : w ≤ 3) (h1 : 1 ≤ h) (h3 : h ≤ 3) (s2 : s ≤ 2) (hn : n ≤ 1) (hz : z = Int32.ofNat n) (hc : (off = true ∧ (x = -1 ∨ y = -1)) ∨ (off = false ∧ x = Int32.ofNat c1 ∧ y = Int32.ofNat c2 ∧ c1 ≤ w ∧ c2 ≤ h)) : aC nS (d + 3) 195 [vR 36 0, vI x, vI y, vI z] M (fun v M' => v = some (vI (if off = false ∧ xlv w h s c1 c2 n = true then Int32.ofNat (rln w h s c1 c2 n) else -1)) ∧ M = M') (fun _ _ => False) := by
  refine aC_post (r_lineOf hs w1 w3 h1 h3 s2 hn hz) (fun v M' q => ?_) (fun _ _ z => z)
  obtain ⟨q, rfl⟩ := q
  refine ⟨?_, rfl⟩
  rcases hc with ⟨h0, hm⟩ | ⟨h0, rfl, rfl, k1, k2⟩
  · rw [if_neg (fun z => by rw [h0] at z; cases z.1)]
    rcases q with ⟨a, b, ha, hb, e1, e2, -⟩ | ⟨-, rfl⟩
    · rcases hm with h9 | h9
      · exact absurd (e1.symm.trans h9) (x_m1 (by omega))
      · exact absurd (e2.symm.trans h9) (x_m1 (by omega))
    · rfl
  · rcases q with ⟨a, b, ha, hb, e1, e2, q⟩ | ⟨no, -⟩
    · have f1 := x_inj (x := c1) (y := a) (by omega) (by omega) e1
      have f2 := x_inj (x := c2) (y := b) (by omega) (by omega) e2
      subst f1
      subst f2
      rcases q with ⟨hv, rfl⟩ | ⟨hv, rfl⟩
      · rw [if_pos ⟨h0, hv⟩]
      · rw [if_neg (fun z => by rw [hv] at z; cases z.2)]
    · refine absurd ?_ no
      exact ⟨(hI_le (a := 0) (by decide) (by omega)).mpr (Nat.zero_le _), (hI_le (by omega) (by omega)).mpr k1, (hI_le (a := 0) (by decide) (by omega)).mpr (Nat.zero_le _), (hI_le (by omega) (by omega)).mpr k2⟩
theorem r_timesK {nS d k o a b : Nat} {M : aM} {x y : Int32} (hg : gM M k o) (hx : x = Int32.ofNat a) (hy : y = Int32.ofNat b) (ha : a < o) (hb : b < o) : aC nS (d + 1) 181 [vR 36 0, vI x, vI y] M (fun v M' => v = some (vI (Int32.ofNat (rt k o a b))) ∧ M = M') (fun _ _ => False) := by
  subst hx
  subst hy
  exact g_times hg ha hb
/-- what a walk holds of the reference -/
def RWs (M : aM) (t : xW) : Prop := M.1 36 0 13 = Int32.ofNat t.1.1 ∧ M.1 36 0 14 = Int32.ofNat t.1.2 ∧ M.1 36 0 15 = Int32.ofNat t.2.1 ∧ M.1 36 0 16 = Int32.ofNat t.2.2.length
def PRg : xF := fun k _ j => (Nat.beq k 36 && (Nat.ble 13 j && Nat.ble j 16)) || (Nat.beq k 41 || Nat.beq k 42)
theorem PRg_n {k i j : Nat} (h : k = 37 ∨ k = 40) : PRg k i j = false := by
  rcases h with rfl | rfl <;> rfl
theorem rB_gW {M M' : aM} {e : xB} (h : fr PRg M M') (hB : rB 37 M e) : rB 37 M' e := rB_fr hB (fun j _ _ _ _ => h.1 37 0 j (PRg_n (Or.inl rfl)))
theorem LL_gW {M M' : aM} {e : xB} (h : fr PRg M M') (hB : rB 37 M e) (hL : LL 37 M e) : LL 37 M' e := LL_f hB.2.1 hL (fun u _ => h.1 37 0 (20 + u) (PRg_n (Or.inl rfl)))
/-- what may hold of the path -/
def QOK (e : xB) (c : Nat × Nat) (Q : xW → aM → Prop) : Prop := (∀ t M M', (∀ j, M'.1 41 0 j = M.1 41 0 j ∧ M'.1 42 0 j = M.1 42 0 j) → Q t M → Q t M') ∧ (∀ y t u M M', y < 4 → xWo e t → wgo1 e y t = some u → (∀ j, M'.1 41 0 j = if j = u.2.2.length then Int32.ofNat u.1.1 else M.1 41 0 j) → (∀ j, M'.1 42 0 j = if j = u.2.2.length then Int32.ofNat u.1.2 else M.1 42 0 j) → Q t M → Q u M') ∧ ∀ M, c.1 ≤ e.2.1.1 → c.2 ≤ e.2.1.2.1 → M.1 41 0 0 = Int32.ofNat c.1 → M.1 42 0 0 = Int32.ofNat c.2 → Q (c, 0, []) M
theorem QOK_t {e : xB} {c : Nat × Nat} : QOK e c (fun _ _ => True) := ⟨fun _ _ _ _ _ => trivial, fun _ _ _ _ _ _ _ _ _ _ _ => trivial, fun _ _ _ _ _ => trivial⟩
theorem wx1_le {w s y X : Nat} (h : X ≤ w) : wx1 w s y X ≤ w := by
  unfold wx1
  cases (Nat.beq y 0 && (Nat.blt 0 s && Nat.beq X w)) with
  | true => exact Nat.zero_le _
  | false =>
    cases (Nat.beq y 2 && (Nat.blt 0 s && Nat.beq X 0)) with
    | true => exact Nat.le_refl _
    | false => exact h
theorem wy1_le {w s y X : Nat} (h : X ≤ w) : wy1 w s y X ≤ w := by
  unfold wy1
  cases (Nat.beq y 1 && (Nat.beq s 2 && Nat.beq X w)) with
  | true => exact Nat.zero_le _
  | false =>
    cases (Nat.beq y 3 && (Nat.beq s 2 && Nat.beq X 0)) with
    | true => exact Nat.le_refl _
    | false => exact h
theorem wno2 {w h s X Y : Nat} (h9 : wno w h s 2 X Y = false) : 1 ≤ wx1 w s 2 X := by
  refine Nat.one_le_iff_ne_zero.mpr (fun z => ?_)
  unfold wno at h9
  rw [x_beq z] at h9
  cases h9
theorem wno3 {w h s X Y : Nat} (h9 : wno w h s 3 X Y = false) : 1 ≤ wy1 h s 3 Y := by
  refine Nat.one_le_iff_ne_zero.mpr (fun z => ?_)
  unfold wno at h9
  rw [x_beq z] at h9
  cases h9
theorem r_goes0 {nS d many : Nat} {M : aM} {e : xB} {c0 : Nat × Nat} {t : xW} {Q : xW → aM → Prop} (hB : rB 37 M e) (hL : LL 37 M e) (hs : RWs M t) (ho : xWo e t) (hm9 : many ≤ 9) (h108 : t.2.2.length + many ≤ 108) (hQ : QOK e c0 Q) (hq : Q t M) : aC nS (d + 4) 224 [vR 36 0, vI (Int32.ofNat many), vI (Int32.ofNat 0)] M (fun v M' => fr PRg M M' ∧ ((∃ u, wgo e 0 many t = some u ∧ xWo e u ∧ v = some (vI 1) ∧ RWs M' u ∧ Q u M') ∨ (wgo e 0 many t = none ∧ v = some (vI 0)))) (fun _ _ => False) := by
  obtain ⟨hg, o2, o8, hS, w1, w3, h1, h3, s2⟩ := rB_h hB
  refine aC_mk rfl rfl ?_
  intro K hK hF
  have lp : ∀ (m i : Nat) (t1 : xW) (M1 : aM), many - i = m → i ≤ many → fr PRg M M1 → RWs M1 t1 → xWo e t1 → t1.2.2.length + m ≤ 108 → Q t1 M1 → wgo e 0 many t = wgo e 0 m t1 → K 2 [some (vR 36 0), some (vI (Int32.ofNat many)), some (vI (Int32.ofNat 0)), some (vI (Int32.ofNat i)), none, none, none] [] M1 := by
    intro m
    induction m with
    | zero =>
      intro i t1 M1 hm hi hf r1 o1 hl q9 a9
      refine hK _ _ _ _ (hK _ _ _ _ (hK _ _ _ _ (⟨fun h9 => ?_, fun h9 => ?_⟩)))
      · exact hK _ _ _ _ (hK _ _ _ _ (⟨Or.inr rfl, hf, Or.inl ⟨t1, a9, o1, rfl, r1, q9⟩⟩))
      · exact absurd (x_nge (x := i) (y := many) rfl rfl (by omega) (by omega) h9) (by omega)
    | succ m ih =>
      intro i t1 M1 hm hi hf r1 o1 hl q9 a9
      have tb := wtab (way := 0) w1 w3 h1 h3 s2 (by decide) o1.1 o1.2.1
      have B1 := rB_gW hf hB
      have L1 := LL_gW hf hB hL
      have G1 := rB_g B1
      have S1 := (rB_h B1).2.2.2.1
      have hx3 := o1.1
      have hy3 := o1.2.1
      refine hK _ _ _ _ (hK _ _ _ _ (hK _ _ _ _ (⟨fun h9 => ?_, fun h9 => ?_⟩)))
      · exact absurd (x_ge (x := i) (y := many) rfl rfl (by omega) (by omega) h9) (by omega)
      · have mid : K 130 [some (vR 36 0), some (vI (Int32.ofNat many)), some (vI (Int32.ofNat 0)), some (vI (Int32.ofNat i)), some (vI (Int32.ofNat (wx1 e.2.1.1 e.2.1.2.2 0 t1.1.1))), some (vI (Int32.ofNat t1.1.2)), none] [] M1 := by
          refine hK _ _ _ _ (hK _ _ _ _ (hK _ _ _ _ (hK _ _ _ _ (⟨fun _ => ?_, fun q => (by first | exact absurd q (by decide) | exact absurd rfl q | exact absurd (by decide) q)⟩))))
          refine hK _ _ _ _ (hK _ _ _ _ (hK _ _ _ _ (hK _ _ _ _ (⟨fun _ => ?_, fun q => (by first | exact absurd q (by decide) | exact absurd rfl q | exact absurd (by decide) q)⟩))))
          refine hK _ _ _ _ (hK _ _ _ _ (hK _ _ _ _ (hK _ _ _ _ (⟨fun q => (by first | exact absurd q (by decide) | exact absurd rfl q | exact absurd (by decide) q), fun _ => ?_⟩))))
          refine hK _ _ _ _ (hK _ _ _ _ (hK _ _ _ _ (⟨fun _ => ?_, fun q => (by first | exact absurd q (by decide) | exact absurd rfl q | exact absurd (by decide) q)⟩)))
          have hc : (wno e.2.1.1 e.2.1.2.1 e.2.1.2.2 0 t1.1.1 t1.1.2 = true ∧ (Int32.ofNat (wx1 e.2.1.1 e.2.1.2.2 0 t1.1.1) = -1 ∨ Int32.ofNat t1.1.2 = -1)) ∨ (wno e.2.1.1 e.2.1.2.1 e.2.1.2.2 0 t1.1.1 t1.1.2 = false ∧ Int32.ofNat (wx1 e.2.1.1 e.2.1.2.2 0 t1.1.1) = Int32.ofNat (wa e.2.1.1 e.2.1.2.2 0 t1.1.1) ∧ Int32.ofNat t1.1.2 = Int32.ofNat (wb e.2.1.2.1 e.2.1.2.2 0 t1.1.2) ∧ (wa e.2.1.1 e.2.1.2.2 0 t1.1.1) ≤ e.2.1.1 ∧ (wb e.2.1.2.1 e.2.1.2.2 0 t1.1.2) ≤ e.2.1.2.1) := by
            exact Or.inr ⟨rfl, rfl, rfl, wx1_le o1.1, o1.2.1⟩
          refine hK _ _ _ _ (hK _ _ _ _ (⟨_, r_lineK (d := d) S1 w1 w3 h1 h3 s2 (n := 0) (by decide) rfl hc, rfl, fun v174 M174 g174 => ?_⟩))
          obtain ⟨rfl, rfl⟩ := g174
          cases hk : wok e.2.1.1 e.2.1.2.1 e.2.1.2.2 0 t1.1.1 t1.1.2 with
          | false =>
            have hk2 : ¬ (wno e.2.1.1 e.2.1.2.1 e.2.1.2.2 0 t1.1.1 t1.1.2 = false ∧ xlv e.2.1.1 e.2.1.2.1 e.2.1.2.2 (wa e.2.1.1 e.2.1.2.2 0 t1.1.1) (wb e.2.1.2.1 e.2.1.2.2 0 t1.1.2) 0 = true) := fun z => by
              have h9 : wok e.2.1.1 e.2.1.2.1 e.2.1.2.2 0 t1.1.1 t1.1.2 = true := by
                show (!(wno e.2.1.1 e.2.1.2.1 e.2.1.2.2 0 t1.1.1 t1.1.2) && xlv e.2.1.1 e.2.1.2.1 e.2.1.2.2 (wa e.2.1.1 e.2.1.2.2 0 t1.1.1) (wb e.2.1.2.1 e.2.1.2.2 0 t1.1.2) 0) = true
                rw [z.1, z.2]
                rfl
              rw [hk] at h9
              cases h9
            rw [if_neg hk2]
            refine hK _ _ _ _ (hK _ _ _ _ (hK _ _ _ _ (hK _ _ _ _ (⟨fun q => absurd rfl q, fun _ => ?_⟩))))
            exact hK _ _ _ _ (hK _ _ _ _ (⟨Or.inl rfl, hf, Or.inr ⟨by
              rw [a9]
              show (match wgo1 e 0 t1 with
                | none => none
                | some u => wgo e 0 m u) = _
              unfold wgo1
              rw [hk]
              rfl, rfl⟩⟩))
          | true =>
            obtain ⟨k1, k2, k3, k4, k5, k6, k7, k8, k9⟩ := tb.2.2 hk
            have hv9 : xlv e.2.1.1 e.2.1.2.1 e.2.1.2.2 (wa e.2.1.1 e.2.1.2.2 0 t1.1.1) (wb e.2.1.2.1 e.2.1.2.2 0 t1.1.2) 0 = true := by
              have z : (!(wno e.2.1.1 e.2.1.2.1 e.2.1.2.2 0 t1.1.1 t1.1.2) && xlv e.2.1.1 e.2.1.2.1 e.2.1.2.2 (wa e.2.1.1 e.2.1.2.2 0 t1.1.1) (wb e.2.1.2.1 e.2.1.2.2 0 t1.1.2) 0) = true := hk
              rw [Bool.and_eq_true] at z
              exact z.2
            rw [if_pos ⟨k9, hv9⟩]
            have l24 := rln_lt (s := e.2.1.2.2) w1 w3 h1 h3 s2 (n := 0) (by decide) k7 k8 hv9
            have e20 : (20 : Int32) + Int32.ofNat (rln e.2.1.1 e.2.1.2.1 e.2.1.2.2 (wa e.2.1.1 e.2.1.2.2 0 t1.1.1) (wb e.2.1.2.1 e.2.1.2.2 0 t1.1.2) 0) = Int32.ofNat (20 + (rln e.2.1.1 e.2.1.2.1 e.2.1.2.2 (wa e.2.1.1 e.2.1.2.2 0 t1.1.1) (wb e.2.1.2.1 e.2.1.2.2 0 t1.1.2) 0)) := x_20
            obtain ⟨v, hv, ev⟩ := L1.2 _ k3 k4
            have ln : M1.1 37 0 (20 + (rln e.2.1.1 e.2.1.2.1 e.2.1.2.2 (wa e.2.1.1 e.2.1.2.2 0 t1.1.1) (wb e.2.1.2.1 e.2.1.2.2 0 t1.1.2) 0)) = Int32.ofNat v := (lR_n L1.1 w1 w3 h1 h3 s2 k7 k8 (n := 0) (by decide) hv9).trans ev
            refine hK _ _ _ _ (hK _ _ _ _ (hK _ _ _ _ (hK _ _ _ _ (⟨fun _ => ?_, fun q => absurd q (x_m1 (by omega))⟩))))
            refine hK _ _ _ _ (hK _ _ _ _ (hK _ _ _ _ (hK _ _ _ _ (hK _ _ _ _ (hK _ _ _ _ (hK _ _ _ _ (⟨fun q => (by first | exact absurd q (by decide) | exact absurd rfl q | exact absurd (by decide) q), fun _ => ?_⟩)))))))
            refine hK _ _ _ _ (hK _ _ _ _ (hK _ _ _ _ (hK _ _ _ _ (hK _ _ _ _ (hK _ _ _ _ (⟨x_vp e20 (show 20 + (rln e.2.1.1 e.2.1.2.1 e.2.1.2.2 (wa e.2.1.1 e.2.1.2.2 0 t1.1.1) (wb e.2.1.2.1 e.2.1.2.2 0 t1.1.2) 0) < 1010 by omega) (by decide), ?_⟩))))))
            rw [x_cl e20 (by omega), ln]
            refine hK _ _ _ _ (hK _ _ _ _ (⟨_, r_timesK (d := d + 2) G1 r1.2.2.1 rfl o1.2.2 hv, rfl, fun v225 M225 g225 => ?_⟩))
            obtain ⟨rfl, rfl⟩ := g225
            refine hK _ _ _ _ (hK _ _ _ _ (hK _ _ _ _ (hK _ _ _ _ (⟨fun q => (by first | exact absurd q (by decide) | exact absurd rfl q | exact absurd (by decide) q), fun _ => ?_⟩))))
            refine hK _ _ _ _ (hK _ _ _ _ (hK _ _ _ _ (hK _ _ _ _ (hK _ _ _ _ (hK _ _ _ _ (hK _ _ _ _ (hK _ _ _ _ (hK _ _ _ _ (⟨fun _ => ?_, fun q => (by first | exact absurd q (by decide) | exact absurd rfl q | exact absurd (by decide) q)⟩)))))))))
            refine hK _ _ _ _ (hK _ _ _ _ (hK _ _ _ _ (⟨fun _ => ?_, fun q => (by first | exact absurd q (by decide) | exact absurd rfl q | exact absurd (by decide) q)⟩)))
            have C313 : ∀ M3 : aM, fr PRg M1 M3 → RWs M3 ((wX e.2.1.1 e.2.1.2.2 0 t1.1.1, wY e.2.1.2.1 e.2.1.2.2 0 t1.1.2), rt e.1.1 e.1.2 t1.2.1 v, 0 :: t1.2.2) → (∀ j, M3.1 41 0 j = if j = t1.2.2.length + 1 then Int32.ofNat (wX e.2.1.1 e.2.1.2.2 0 t1.1.1) else M1.1 41 0 j) → (∀ j, M3.1 42 0 j = M1.1 42 0 j) → K 313 [some (vR 36 0), some (vI (Int32.ofNat many)), some (vI (Int32.ofNat 0)), some (vI (Int32.ofNat i)), some (vI (Int32.ofNat (wx1 e.2.1.1 e.2.1.2.2 0 t1.1.1))), some (vI (Int32.ofNat t1.1.2)), some (vI (Int32.ofNat (rln e.2.1.1 e.2.1.2.1 e.2.1.2.2 (wa e.2.1.1 e.2.1.2.2 0 t1.1.1) (wb e.2.1.2.1 e.2.1.2.2 0 t1.1.2) 0)))] [] M3 := by
              intro M3 f3 z3 z41 z42
              have h16 : M3.1 36 0 16 = Int32.ofNat (t1.2.2.length + 1) := z3.2.2.2
              refine hK _ _ _ _ (hK _ _ _ _ (hK _ _ _ _ (hK _ _ _ _ (hK _ _ _ _ (?_)))))
              rw [h16]
              refine hK _ _ _ _ (hK _ _ _ _ (⟨x_vp rfl (show t1.2.2.length + 1 < 109 by omega) (by decide), ?_⟩))
              rw [x_cl rfl (by omega), z3.2.1]
              refine hK _ _ _ _ (hK _ _ _ _ (?_))
              rw [hI_s]
              refine hF _ _ _ _ _ (a_le_s (a_le_s (a_le_s (a_le_s (a_le_n (a_le_n (a_le_n a_le_z))))))) ?_
              have ewg : wgo1 e 0 t1 = some ((wX e.2.1.1 e.2.1.2.2 0 t1.1.1, wY e.2.1.2.1 e.2.1.2.2 0 t1.1.2), rt e.1.1 e.1.2 t1.2.1 v, 0 :: t1.2.2) := by
                unfold wgo1 wv
                rw [hk, ev, show xn (Int32.ofNat v) = v from x_cl rfl (by omega)]
                rfl
              have f4 : fr PRg M1 (a_pI M3 42 0 (t1.2.2.length + 1) (Int32.ofNat (wY e.2.1.2.1 e.2.1.2.2 0 t1.1.2))) := fr_p f3 rfl
              refine ih (i + 1) ((wX e.2.1.1 e.2.1.2.2 0 t1.1.1, wY e.2.1.2.1 e.2.1.2.2 0 t1.1.2), rt e.1.1 e.1.2 t1.2.1 v, 0 :: t1.2.2) _ (by omega) (by omega) (fr_t hf f4) z3 ⟨k1, k2, rt_lt hB.1 o1.2.2 hv⟩ (by show t1.2.2.length + 1 + m ≤ 108; omega) (hQ.2.1 0 t1 _ M1 _ (by decide) o1 ewg ?_ ?_ q9) ?_
              · exact z41
              · intro j
                show _ = if j = t1.2.2.length + 1 then _ else _
                by_cases hj : j = t1.2.2.length + 1
                · rw [if_pos hj, hj]
                  exact x_pe
                · rw [if_neg hj]
                  exact (x_pn (fun z => hj z.2.2)).trans (z42 j)
              · rw [a9]
                show (match wgo1 e 0 t1 with
                  | none => none
                  | some u => wgo e 0 m u) = _
                rw [ewg]
            have C300 : ∀ M2 : aM, fr PRg M1 M2 → RWs M2 ((wX e.2.1.1 e.2.1.2.2 0 t1.1.1, wY e.2.1.2.1 e.2.1.2.2 0 t1.1.2), rt e.1.1 e.1.2 t1.2.1 v, 0 :: t1.2.2) → (∀ j, M2.1 41 0 j = M1.1 41 0 j) → (∀ j, M2.1 42 0 j = M1.1 42 0 j) → K 300 [some (vR 36 0), some (vI (Int32.ofNat many)), some (vI (Int32.ofNat 0)), some (vI (Int32.ofNat i)), some (vI (Int32.ofNat (wx1 e.2.1.1 e.2.1.2.2 0 t1.1.1))), some (vI (Int32.ofNat t1.1.2)), some (vI (Int32.ofNat (rln e.2.1.1 e.2.1.2.1 e.2.1.2.2 (wa e.2.1.1 e.2.1.2.2 0 t1.1.1) (wb e.2.1.2.1 e.2.1.2.2 0 t1.1.2) 0)))] [] M2 := by
              intro M2 f2 z2 z41 z42
              have h16 : M2.1 36 0 16 = Int32.ofNat (t1.2.2.length + 1) := z2.2.2.2
              refine hK _ _ _ _ (hK _ _ _ _ (hK _ _ _ _ (hK _ _ _ _ (hK _ _ _ _ (?_)))))
              rw [h16]
              refine hK _ _ _ _ (hK _ _ _ _ (⟨x_vp rfl (show t1.2.2.length + 1 < 109 by omega) (by decide), ?_⟩))
              rw [x_cl rfl (by omega), z2.1]
              refine C313 _ (fr_p f2 rfl) z2 (fun j => ?_) z42
              by_cases hj : j = t1.2.2.length + 1
              · rw [if_pos hj, hj]
                exact x_pe
              · rw [if_neg hj]
                exact (x_pn (fun z => hj z.2.2)).trans (z41 j)
            refine hK _ _ _ _ (hK _ _ _ _ (hK _ _ _ _ (hK _ _ _ _ (hK _ _ _ _ (hK _ _ _ _ (hK _ _ _ _ (hK _ _ _ _ (?_))))))))
            exact C300 _ (fr_p (fr_p (fr_p (fr_p fr_r rfl) rfl) rfl) rfl) ⟨hI_s, rfl, rfl, (show M1.1 36 0 16 + 1 = _ by rw [r1.2.2.2]; exact hI_s)⟩ (fun _ => rfl) (fun _ => rfl)
        refine hK _ _ _ _ (hK _ _ _ _ (hK _ _ _ _ (hK _ _ _ _ (hK _ _ _ _ (hK _ _ _ _ (?_))))))
        rw [r1.1, r1.2.1]
        · skip
          refine hK _ _ _ _ (hK _ _ _ _ (⟨fun q => (by first | exact absurd q (by decide) | exact absurd rfl q | exact absurd (by decide) q), fun _ => ?_⟩))
          refine hK _ _ _ _ (hK _ _ _ _ (hK _ _ _ _ (hK _ _ _ _ (⟨x_vp (a := 5) rfl (by decide) (by decide), ?_⟩))))
          rw [x_cl (j := 5) (a := 5) rfl (by decide), S1.2.2]
          refine hK _ _ _ _ (⟨fun h9 => ?_, fun h9 => ?_⟩)
          · have s0 : e.2.1.2.2 = 0 := by
              have := x_ge (x := 0) (y := e.2.1.2.2) rfl rfl (by decide) (by omega) h9
              omega
            have ex : (wx1 e.2.1.1 e.2.1.2.2 0 t1.1.1) = t1.1.1 := by
              unfold wx1
              rw [s0]
              rfl
            refine hK _ _ _ _ (hK _ _ _ _ (hK _ _ _ _ (⟨fun _ => ?_, fun q => (by first | exact absurd q (by decide) | exact absurd rfl q | exact absurd (by decide) q)⟩)))
            refine hK _ _ _ _ (hK _ _ _ _ (hK _ _ _ _ (⟨fun _ => ?_, fun q => (by first | exact absurd q (by decide) | exact absurd rfl q | exact absurd (by decide) q)⟩)))
            refine hK _ _ _ _ (hK _ _ _ _ (hK _ _ _ _ (⟨fun _ => ?_, fun q => (by first | exact absurd q (by decide) | exact absurd rfl q | exact absurd (by decide) q)⟩)))
            rw [ex] at mid
            exact mid
          · have s1 : 0 < e.2.1.2.2 := by
              have := x_nge (x := 0) (y := e.2.1.2.2) rfl rfl (by decide) (by omega) h9
              omega
            refine hK _ _ _ _ (hK _ _ _ _ (hK _ _ _ _ (hK _ _ _ _ (hK _ _ _ _ (⟨x_vp (a := 3) rfl (by decide) (by decide), ?_⟩)))))
            rw [x_cl (j := 3) (a := 3) rfl (by decide), S1.1]
            refine hK _ _ _ _ (⟨fun h8 => ?_, fun h8 => ?_⟩)
            · have ex : (wx1 e.2.1.1 e.2.1.2.2 0 t1.1.1) = t1.1.1 := by
                unfold wx1
                rw [x_nbeq (show ¬ t1.1.1 = e.2.1.1 from fun z => h8 (by rw [z])), Bool.and_false, Bool.and_false]
                rfl
              refine hK _ _ _ _ (hK _ _ _ _ (hK _ _ _ _ (⟨fun _ => ?_, fun q => (by first | exact absurd q (by decide) | exact absurd rfl q | exact absurd (by decide) q)⟩)))
              refine hK _ _ _ _ (hK _ _ _ _ (hK _ _ _ _ (⟨fun _ => ?_, fun q => (by first | exact absurd q (by decide) | exact absurd rfl q | exact absurd (by decide) q)⟩)))
              refine hK _ _ _ _ (hK _ _ _ _ (hK _ _ _ _ (⟨fun _ => ?_, fun q => (by first | exact absurd q (by decide) | exact absurd rfl q | exact absurd (by decide) q)⟩)))
              rw [ex] at mid
              exact mid
            · have h7 : t1.1.1 = e.2.1.1 := x_inj (by omega) (by omega) h8
              have ex : (wx1 e.2.1.1 e.2.1.2.2 0 t1.1.1) = 0 := by
                unfold wx1
                rw [x_beq h7, x_blt s1]
                rfl
              refine hK _ _ _ _ (hK _ _ _ _ (?_))
              refine hK _ _ _ _ (hK _ _ _ _ (hK _ _ _ _ (⟨fun _ => ?_, fun q => (by first | exact absurd q (by decide) | exact absurd rfl q | exact absurd (by decide) q)⟩)))
              refine hK _ _ _ _ (hK _ _ _ _ (hK _ _ _ _ (⟨fun _ => ?_, fun q => (by first | exact absurd q (by decide) | exact absurd rfl q | exact absurd (by decide) q)⟩)))
              refine hK _ _ _ _ (hK _ _ _ _ (hK _ _ _ _ (⟨fun _ => ?_, fun q => (by first | exact absurd q (by decide) | exact absurd rfl q | exact absurd (by decide) q)⟩)))
              rw [ex] at mid
              exact mid
  refine hK _ _ _ _ (hK _ _ _ _ (?_))
  exact lp many 0 t M rfl (Nat.zero_le _) fr_r hs ho h108 hq rfl
theorem r_goes1 {nS d many : Nat} {M : aM} {e : xB} {c0 : Nat × Nat} {t : xW} {Q : xW → aM → Prop} (hB : rB 37 M e) (hL : LL 37 M e) (hs : RWs M t) (ho : xWo e t) (hm9 : many ≤ 9) (h108 : t.2.2.length + many ≤ 108) (hQ : QOK e c0 Q) (hq : Q t M) : aC nS (d + 4) 224 [vR 36 0, vI (Int32.ofNat many), vI (Int32.ofNat 1)] M (fun v M' => fr PRg M M' ∧ ((∃ u, wgo e 1 many t = some u ∧ xWo e u ∧ v = some (vI 1) ∧ RWs M' u ∧ Q u M') ∨ (wgo e 1 many t = none ∧ v = some (vI 0)))) (fun _ _ => False) := by
  obtain ⟨hg, o2, o8, hS, w1, w3, h1, h3, s2⟩ := rB_h hB
  refine aC_mk rfl rfl ?_
  intro K hK hF
  have lp : ∀ (m i : Nat) (t1 : xW) (M1 : aM), many - i = m → i ≤ many → fr PRg M M1 → RWs M1 t1 → xWo e t1 → t1.2.2.length + m ≤ 108 → Q t1 M1 → wgo e 1 many t = wgo e 1 m t1 → K 2 [some (vR 36 0), some (vI (Int32.ofNat many)), some (vI (Int32.ofNat 1)), some (vI (Int32.ofNat i)), none, none, none] [] M1 := by
    intro m
    induction m with
    | zero =>
      intro i t1 M1 hm hi hf r1 o1 hl q9 a9
      refine hK _ _ _ _ (hK _ _ _ _ (hK _ _ _ _ (⟨fun h9 => ?_, fun h9 => ?_⟩)))
      · exact hK _ _ _ _ (hK _ _ _ _ (⟨Or.inr rfl, hf, Or.inl ⟨t1, a9, o1, rfl, r1, q9⟩⟩))
      · exact absurd (x_nge (x := i) (y := many) rfl rfl (by omega) (by omega) h9) (by omega)
    | succ m ih =>
      intro i t1 M1 hm hi hf r1 o1 hl q9 a9
      have tb := wtab (way := 1) w1 w3 h1 h3 s2 (by decide) o1.1 o1.2.1
      have B1 := rB_gW hf hB
      have L1 := LL_gW hf hB hL
      have G1 := rB_g B1
      have S1 := (rB_h B1).2.2.2.1
      have hx3 := o1.1
      have hy3 := o1.2.1
      refine hK _ _ _ _ (hK _ _ _ _ (hK _ _ _ _ (⟨fun h9 => ?_, fun h9 => ?_⟩)))
      · exact absurd (x_ge (x := i) (y := many) rfl rfl (by omega) (by omega) h9) (by omega)
      · have mid : K 130 [some (vR 36 0), some (vI (Int32.ofNat many)), some (vI (Int32.ofNat 1)), some (vI (Int32.ofNat i)), some (vI (Int32.ofNat t1.1.1)), some (vI (Int32.ofNat (wy1 e.2.1.2.1 e.2.1.2.2 1 t1.1.2))), none] [] M1 := by
          refine hK _ _ _ _ (hK _ _ _ _ (hK _ _ _ _ (hK _ _ _ _ (⟨fun _ => ?_, fun q => (by first | exact absurd q (by decide) | exact absurd rfl q | exact absurd (by decide) q)⟩))))
          refine hK _ _ _ _ (hK _ _ _ _ (hK _ _ _ _ (hK _ _ _ _ (⟨fun _ => ?_, fun q => (by first | exact absurd q (by decide) | exact absurd rfl q | exact absurd (by decide) q)⟩))))
          refine hK _ _ _ _ (hK _ _ _ _ (hK _ _ _ _ (hK _ _ _ _ (⟨fun _ => ?_, fun q => (by first | exact absurd q (by decide) | exact absurd rfl q | exact absurd (by decide) q)⟩))))
          have hc : (wno e.2.1.1 e.2.1.2.1 e.2.1.2.2 1 t1.1.1 t1.1.2 = true ∧ (Int32.ofNat t1.1.1 = -1 ∨ Int32.ofNat (wy1 e.2.1.2.1 e.2.1.2.2 1 t1.1.2) = -1)) ∨ (wno e.2.1.1 e.2.1.2.1 e.2.1.2.2 1 t1.1.1 t1.1.2 = false ∧ Int32.ofNat t1.1.1 = Int32.ofNat (wa e.2.1.1 e.2.1.2.2 1 t1.1.1) ∧ Int32.ofNat (wy1 e.2.1.2.1 e.2.1.2.2 1 t1.1.2) = Int32.ofNat (wb e.2.1.2.1 e.2.1.2.2 1 t1.1.2) ∧ (wa e.2.1.1 e.2.1.2.2 1 t1.1.1) ≤ e.2.1.1 ∧ (wb e.2.1.2.1 e.2.1.2.2 1 t1.1.2) ≤ e.2.1.2.1) := by
            exact Or.inr ⟨rfl, rfl, rfl, o1.1, wy1_le o1.2.1⟩
          refine hK _ _ _ _ (hK _ _ _ _ (hK _ _ _ _ (⟨_, r_lineK (d := d) S1 w1 w3 h1 h3 s2 (n := 1) (by decide) rfl hc, rfl, fun v174 M174 g174 => ?_⟩)))
          obtain ⟨rfl, rfl⟩ := g174
          cases hk : wok e.2.1.1 e.2.1.2.1 e.2.1.2.2 1 t1.1.1 t1.1.2 with
          | false =>
            have hk2 : ¬ (wno e.2.1.1 e.2.1.2.1 e.2.1.2.2 1 t1.1.1 t1.1.2 = false ∧ xlv e.2.1.1 e.2.1.2.1 e.2.1.2.2 (wa e.2.1.1 e.2.1.2.2 1 t1.1.1) (wb e.2.1.2.1 e.2.1.2.2 1 t1.1.2) 1 = true) := fun z => by
              have h9 : wok e.2.1.1 e.2.1.2.1 e.2.1.2.2 1 t1.1.1 t1.1.2 = true := by
                show (!(wno e.2.1.1 e.2.1.2.1 e.2.1.2.2 1 t1.1.1 t1.1.2) && xlv e.2.1.1 e.2.1.2.1 e.2.1.2.2 (wa e.2.1.1 e.2.1.2.2 1 t1.1.1) (wb e.2.1.2.1 e.2.1.2.2 1 t1.1.2) 1) = true
                rw [z.1, z.2]
                rfl
              rw [hk] at h9
              cases h9
            rw [if_neg hk2]
            refine hK _ _ _ _ (hK _ _ _ _ (hK _ _ _ _ (hK _ _ _ _ (⟨fun q => absurd rfl q, fun _ => ?_⟩))))
            exact hK _ _ _ _ (hK _ _ _ _ (⟨Or.inl rfl, hf, Or.inr ⟨by
              rw [a9]
              show (match wgo1 e 1 t1 with
                | none => none
                | some u => wgo e 1 m u) = _
              unfold wgo1
              rw [hk]
              rfl, rfl⟩⟩))
          | true =>
            obtain ⟨k1, k2, k3, k4, k5, k6, k7, k8, k9⟩ := tb.2.2 hk
            have hv9 : xlv e.2.1.1 e.2.1.2.1 e.2.1.2.2 (wa e.2.1.1 e.2.1.2.2 1 t1.1.1) (wb e.2.1.2.1 e.2.1.2.2 1 t1.1.2) 1 = true := by
              have z : (!(wno e.2.1.1 e.2.1.2.1 e.2.1.2.2 1 t1.1.1 t1.1.2) && xlv e.2.1.1 e.2.1.2.1 e.2.1.2.2 (wa e.2.1.1 e.2.1.2.2 1 t1.1.1) (wb e.2.1.2.1 e.2.1.2.2 1 t1.1.2) 1) = true := hk
              rw [Bool.and_eq_true] at z
              exact z.2
            rw [if_pos ⟨k9, hv9⟩]
            have l24 := rln_lt (s := e.2.1.2.2) w1 w3 h1 h3 s2 (n := 1) (by decide) k7 k8 hv9
            have e20 : (20 : Int32) + Int32.ofNat (rln e.2.1.1 e.2.1.2.1 e.2.1.2.2 (wa e.2.1.1 e.2.1.2.2 1 t1.1.1) (wb e.2.1.2.1 e.2.1.2.2 1 t1.1.2) 1) = Int32.ofNat (20 + (rln e.2.1.1 e.2.1.2.1 e.2.1.2.2 (wa e.2.1.1 e.2.1.2.2 1 t1.1.1) (wb e.2.1.2.1 e.2.1.2.2 1 t1.1.2) 1)) := x_20
            obtain ⟨v, hv, ev⟩ := L1.2 _ k3 k4
            have ln : M1.1 37 0 (20 + (rln e.2.1.1 e.2.1.2.1 e.2.1.2.2 (wa e.2.1.1 e.2.1.2.2 1 t1.1.1) (wb e.2.1.2.1 e.2.1.2.2 1 t1.1.2) 1)) = Int32.ofNat v := (lR_n L1.1 w1 w3 h1 h3 s2 k7 k8 (n := 1) (by decide) hv9).trans ev
            refine hK _ _ _ _ (hK _ _ _ _ (hK _ _ _ _ (hK _ _ _ _ (⟨fun _ => ?_, fun q => absurd q (x_m1 (by omega))⟩))))
            refine hK _ _ _ _ (hK _ _ _ _ (hK _ _ _ _ (hK _ _ _ _ (hK _ _ _ _ (hK _ _ _ _ (hK _ _ _ _ (⟨fun q => (by first | exact absurd q (by decide) | exact absurd rfl q | exact absurd (by decide) q), fun _ => ?_⟩)))))))
            refine hK _ _ _ _ (hK _ _ _ _ (hK _ _ _ _ (hK _ _ _ _ (hK _ _ _ _ (hK _ _ _ _ (⟨x_vp e20 (show 20 + (rln e.2.1.1 e.2.1.2.1 e.2.1.2.2 (wa e.2.1.1 e.2.1.2.2 1 t1.1.1) (wb e.2.1.2.1 e.2.1.2.2 1 t1.1.2) 1) < 1010 by omega) (by decide), ?_⟩))))))
            rw [x_cl e20 (by omega), ln]
            refine hK _ _ _ _ (hK _ _ _ _ (⟨_, r_timesK (d := d + 2) G1 r1.2.2.1 rfl o1.2.2 hv, rfl, fun v225 M225 g225 => ?_⟩))
            obtain ⟨rfl, rfl⟩ := g225
            refine hK _ _ _ _ (hK _ _ _ _ (hK _ _ _ _ (hK _ _ _ _ (⟨fun _ => ?_, fun q => (by first | exact absurd q (by decide) | exact absurd rfl q | exact absurd (by decide) q)⟩))))
            refine hK _ _ _ _ (hK _ _ _ _ (hK _ _ _ _ (⟨fun _ => ?_, fun q => (by first | exact absurd q (by decide) | exact absurd rfl q | exact absurd (by decide) q)⟩)))
            refine hK _ _ _ _ (hK _ _ _ _ (hK _ _ _ _ (hK _ _ _ _ (hK _ _ _ _ (hK _ _ _ _ (⟨fun q => (by first | exact absurd q (by decide) | exact absurd rfl q | exact absurd (by decide) q), fun _ => ?_⟩))))))
            have C313 : ∀ M3 : aM, fr PRg M1 M3 → RWs M3 ((wX e.2.1.1 e.2.1.2.2 1 t1.1.1, wY e.2.1.2.1 e.2.1.2.2 1 t1.1.2), rt e.1.1 e.1.2 t1.2.1 v, 1 :: t1.2.2) → (∀ j, M3.1 41 0 j = if j = t1.2.2.length + 1 then Int32.ofNat (wX e.2.1.1 e.2.1.2.2 1 t1.1.1) else M1.1 41 0 j) → (∀ j, M3.1 42 0 j = M1.1 42 0 j) → K 313 [some (vR 36 0), some (vI (Int32.ofNat many)), some (vI (Int32.ofNat 1)), some (vI (Int32.ofNat i)), some (vI (Int32.ofNat t1.1.1)), some (vI (Int32.ofNat (wy1 e.2.1.2.1 e.2.1.2.2 1 t1.1.2))), some (vI (Int32.ofNat (rln e.2.1.1 e.2.1.2.1 e.2.1.2.2 (wa e.2.1.1 e.2.1.2.2 1 t1.1.1) (wb e.2.1.2.1 e.2.1.2.2 1 t1.1.2) 1)))] [] M3 := by
              intro M3 f3 z3 z41 z42
              have h16 : M3.1 36 0 16 = Int32.ofNat (t1.2.2.length + 1) := z3.2.2.2
              refine hK _ _ _ _ (hK _ _ _ _ (hK _ _ _ _ (hK _ _ _ _ (hK _ _ _ _ (?_)))))
              rw [h16]
              refine hK _ _ _ _ (hK _ _ _ _ (⟨x_vp rfl (show t1.2.2.length + 1 < 109 by omega) (by decide), ?_⟩))
              rw [x_cl rfl (by omega), z3.2.1]
              refine hK _ _ _ _ (hK _ _ _ _ (?_))
              rw [hI_s]
              refine hF _ _ _ _ _ (a_le_s (a_le_s (a_le_s (a_le_s (a_le_n (a_le_n (a_le_n a_le_z))))))) ?_
              have ewg : wgo1 e 1 t1 = some ((wX e.2.1.1 e.2.1.2.2 1 t1.1.1, wY e.2.1.2.1 e.2.1.2.2 1 t1.1.2), rt e.1.1 e.1.2 t1.2.1 v, 1 :: t1.2.2) := by
                unfold wgo1 wv
                rw [hk, ev, show xn (Int32.ofNat v) = v from x_cl rfl (by omega)]
                rfl
              have f4 : fr PRg M1 (a_pI M3 42 0 (t1.2.2.length + 1) (Int32.ofNat (wY e.2.1.2.1 e.2.1.2.2 1 t1.1.2))) := fr_p f3 rfl
              refine ih (i + 1) ((wX e.2.1.1 e.2.1.2.2 1 t1.1.1, wY e.2.1.2.1 e.2.1.2.2 1 t1.1.2), rt e.1.1 e.1.2 t1.2.1 v, 1 :: t1.2.2) _ (by omega) (by omega) (fr_t hf f4) z3 ⟨k1, k2, rt_lt hB.1 o1.2.2 hv⟩ (by show t1.2.2.length + 1 + m ≤ 108; omega) (hQ.2.1 1 t1 _ M1 _ (by decide) o1 ewg ?_ ?_ q9) ?_
              · exact z41
              · intro j
                show _ = if j = t1.2.2.length + 1 then _ else _
                by_cases hj : j = t1.2.2.length + 1
                · rw [if_pos hj, hj]
                  exact x_pe
                · rw [if_neg hj]
                  exact (x_pn (fun z => hj z.2.2)).trans (z42 j)
              · rw [a9]
                show (match wgo1 e 1 t1 with
                  | none => none
                  | some u => wgo e 1 m u) = _
                rw [ewg]
            have C300 : ∀ M2 : aM, fr PRg M1 M2 → RWs M2 ((wX e.2.1.1 e.2.1.2.2 1 t1.1.1, wY e.2.1.2.1 e.2.1.2.2 1 t1.1.2), rt e.1.1 e.1.2 t1.2.1 v, 1 :: t1.2.2) → (∀ j, M2.1 41 0 j = M1.1 41 0 j) → (∀ j, M2.1 42 0 j = M1.1 42 0 j) → K 300 [some (vR 36 0), some (vI (Int32.ofNat many)), some (vI (Int32.ofNat 1)), some (vI (Int32.ofNat i)), some (vI (Int32.ofNat t1.1.1)), some (vI (Int32.ofNat (wy1 e.2.1.2.1 e.2.1.2.2 1 t1.1.2))), some (vI (Int32.ofNat (rln e.2.1.1 e.2.1.2.1 e.2.1.2.2 (wa e.2.1.1 e.2.1.2.2 1 t1.1.1) (wb e.2.1.2.1 e.2.1.2.2 1 t1.1.2) 1)))] [] M2 := by
              intro M2 f2 z2 z41 z42
              have h16 : M2.1 36 0 16 = Int32.ofNat (t1.2.2.length + 1) := z2.2.2.2
              refine hK _ _ _ _ (hK _ _ _ _ (hK _ _ _ _ (hK _ _ _ _ (hK _ _ _ _ (?_)))))
              rw [h16]
              refine hK _ _ _ _ (hK _ _ _ _ (⟨x_vp rfl (show t1.2.2.length + 1 < 109 by omega) (by decide), ?_⟩))
              rw [x_cl rfl (by omega), z2.1]
              refine C313 _ (fr_p f2 rfl) z2 (fun j => ?_) z42
              by_cases hj : j = t1.2.2.length + 1
              · rw [if_pos hj, hj]
                exact x_pe
              · rw [if_neg hj]
                exact (x_pn (fun z => hj z.2.2)).trans (z41 j)
            refine hK _ _ _ _ (hK _ _ _ _ (hK _ _ _ _ (hK _ _ _ _ (hK _ _ _ _ (hK _ _ _ _ (hK _ _ _ _ (hK _ _ _ _ (hK _ _ _ _ (hK _ _ _ _ (hK _ _ _ _ (?_)))))))))))
            exact C300 _ (fr_p (fr_p (fr_p (fr_p fr_r rfl) rfl) rfl) rfl) ⟨rfl, hI_s, rfl, (show M1.1 36 0 16 + 1 = _ by rw [r1.2.2.2]; exact hI_s)⟩ (fun _ => rfl) (fun _ => rfl)
        refine hK _ _ _ _ (hK _ _ _ _ (hK _ _ _ _ (hK _ _ _ _ (hK _ _ _ _ (hK _ _ _ _ (?_))))))
        rw [r1.1, r1.2.1]
        · skip
          refine hK _ _ _ _ (hK _ _ _ _ (⟨fun _ => ?_, fun q => (by first | exact absurd q (by decide) | exact absurd rfl q | exact absurd (by decide) q)⟩))
          refine hK _ _ _ _ (hK _ _ _ _ (hK _ _ _ _ (⟨fun _ => ?_, fun q => (by first | exact absurd q (by decide) | exact absurd rfl q | exact absurd (by decide) q)⟩)))
          refine hK _ _ _ _ (hK _ _ _ _ (hK _ _ _ _ (⟨fun q => (by first | exact absurd q (by decide) | exact absurd rfl q | exact absurd (by decide) q), fun _ => ?_⟩)))
          refine hK _ _ _ _ (hK _ _ _ _ (hK _ _ _ _ (hK _ _ _ _ (⟨x_vp (a := 5) rfl (by decide) (by decide), ?_⟩))))
          rw [x_cl (j := 5) (a := 5) rfl (by decide), S1.2.2]
          refine hK _ _ _ _ (hK _ _ _ _ (⟨fun h9 => ?_, fun h9 => ?_⟩))
          · have ex : (wy1 e.2.1.2.1 e.2.1.2.2 1 t1.1.2) = t1.1.2 := by
              unfold wy1
              rw [x_nbeq (show ¬ e.2.1.2.2 = 2 from fun z => h9 (by rw [z]; rfl)), Bool.false_and, Bool.false_and, Bool.and_false, Bool.and_false]
              rfl
            refine hK _ _ _ _ (hK _ _ _ _ (hK _ _ _ _ (⟨fun _ => ?_, fun q => (by first | exact absurd q (by decide) | exact absurd rfl q | exact absurd (by decide) q)⟩)))
            rw [ex] at mid
            exact mid
          · have s2e : e.2.1.2.2 = 2 := x_inj (y := 2) (by omega) (by omega) h9
            refine hK _ _ _ _ (hK _ _ _ _ (hK _ _ _ _ (hK _ _ _ _ (hK _ _ _ _ (⟨x_vp (a := 4) rfl (by decide) (by decide), ?_⟩)))))
            rw [x_cl (j := 4) (a := 4) rfl (by decide), S1.2.1]
            refine hK _ _ _ _ (⟨fun h8 => ?_, fun h8 => ?_⟩)
            · have ex : (wy1 e.2.1.2.1 e.2.1.2.2 1 t1.1.2) = t1.1.2 := by
                unfold wy1
                rw [x_nbeq (show ¬ t1.1.2 = e.2.1.2.1 from fun z => h8 (by rw [z])), Bool.and_false, Bool.and_false]
                rfl
              refine hK _ _ _ _ (hK _ _ _ _ (hK _ _ _ _ (⟨fun _ => ?_, fun q => (by first | exact absurd q (by decide) | exact absurd rfl q | exact absurd (by decide) q)⟩)))
              rw [ex] at mid
              exact mid
            · have h7 : t1.1.2 = e.2.1.2.1 := x_inj (by omega) (by omega) h8
              have ex : (wy1 e.2.1.2.1 e.2.1.2.2 1 t1.1.2) = 0 := by
                unfold wy1
                rw [x_beq h7, x_beq s2e]
                rfl
              refine hK _ _ _ _ (hK _ _ _ _ (?_))
              refine hK _ _ _ _ (hK _ _ _ _ (hK _ _ _ _ (⟨fun _ => ?_, fun q => (by first | exact absurd q (by decide) | exact absurd rfl q | exact absurd (by decide) q)⟩)))
              rw [ex] at mid
              exact mid
  refine hK _ _ _ _ (hK _ _ _ _ (?_))
  exact lp many 0 t M rfl (Nat.zero_le _) fr_r hs ho h108 hq rfl
theorem r_goes2 {nS d many : Nat} {M : aM} {e : xB} {c0 : Nat × Nat} {t : xW} {Q : xW → aM → Prop} (hB : rB 37 M e) (hL : LL 37 M e) (hs : RWs M t) (ho : xWo e t) (hm9 : many ≤ 9) (h108 : t.2.2.length + many ≤ 108) (hQ : QOK e c0 Q) (hq : Q t M) : aC nS (d + 4) 224 [vR 36 0, vI (Int32.ofNat many), vI (Int32.ofNat 2)] M (fun v M' => fr PRg M M' ∧ ((∃ u, wgo e 2 many t = some u ∧ xWo e u ∧ v = some (vI 1) ∧ RWs M' u ∧ Q u M') ∨ (wgo e 2 many t = none ∧ v = some (vI 0)))) (fun _ _ => False) := by
  obtain ⟨hg, o2, o8, hS, w1, w3, h1, h3, s2⟩ := rB_h hB
  refine aC_mk rfl rfl ?_
  intro K hK hF
  have lp : ∀ (m i : Nat) (t1 : xW) (M1 : aM), many - i = m → i ≤ many → fr PRg M M1 → RWs M1 t1 → xWo e t1 → t1.2.2.length + m ≤ 108 → Q t1 M1 → wgo e 2 many t = wgo e 2 m t1 → K 2 [some (vR 36 0), some (vI (Int32.ofNat many)), some (vI (Int32.ofNat 2)), some (vI (Int32.ofNat i)), none, none, none] [] M1 := by
    intro m
    induction m with
    | zero =>
      intro i t1 M1 hm hi hf r1 o1 hl q9 a9
      refine hK _ _ _ _ (hK _ _ _ _ (hK _ _ _ _ (⟨fun h9 => ?_, fun h9 => ?_⟩)))
      · exact hK _ _ _ _ (hK _ _ _ _ (⟨Or.inr rfl, hf, Or.inl ⟨t1, a9, o1, rfl, r1, q9⟩⟩))
      · exact absurd (x_nge (x := i) (y := many) rfl rfl (by omega) (by omega) h9) (by omega)
    | succ m ih =>
      intro i t1 M1 hm hi hf r1 o1 hl q9 a9
      have tb := wtab (way := 2) w1 w3 h1 h3 s2 (by decide) o1.1 o1.2.1
      have B1 := rB_gW hf hB
      have L1 := LL_gW hf hB hL
      have G1 := rB_g B1
      have S1 := (rB_h B1).2.2.2.1
      have hx3 := o1.1
      have hy3 := o1.2.1
      refine hK _ _ _ _ (hK _ _ _ _ (hK _ _ _ _ (⟨fun h9 => ?_, fun h9 => ?_⟩)))
      · exact absurd (x_ge (x := i) (y := many) rfl rfl (by omega) (by omega) h9) (by omega)
      · have mid : K 130 [some (vR 36 0), some (vI (Int32.ofNat many)), some (vI (Int32.ofNat 2)), some (vI (Int32.ofNat i)), some (vI (Int32.ofNat (wx1 e.2.1.1 e.2.1.2.2 2 t1.1.1))), some (vI (Int32.ofNat t1.1.2)), none] [] M1 := by
          refine hK _ _ _ _ (hK _ _ _ _ (hK _ _ _ _ (hK _ _ _ _ (⟨fun q => (by first | exact absurd q (by decide) | exact absurd rfl q | exact absurd (by decide) q), fun _ => ?_⟩))))
          refine hK _ _ _ _ (hK _ _ _ _ (hK _ _ _ _ (hK _ _ _ _ (hK _ _ _ _ (hK _ _ _ _ (hK _ _ _ _ (⟨fun _ => ?_, fun q => (by first | exact absurd q (by decide) | exact absurd rfl q | exact absurd (by decide) q)⟩)))))))
          refine hK _ _ _ _ (hK _ _ _ _ (hK _ _ _ _ (hK _ _ _ _ (⟨fun q => (by first | exact absurd q (by decide) | exact absurd rfl q | exact absurd (by decide) q), fun _ => ?_⟩))))
          refine hK _ _ _ _ (hK _ _ _ _ (hK _ _ _ _ (⟨fun _ => ?_, fun q => (by first | exact absurd q (by decide) | exact absurd rfl q | exact absurd (by decide) q)⟩)))
          have hc : (wno e.2.1.1 e.2.1.2.1 e.2.1.2.2 2 t1.1.1 t1.1.2 = true ∧ (Int32.ofNat (wx1 e.2.1.1 e.2.1.2.2 2 t1.1.1) - 1 = -1 ∨ Int32.ofNat t1.1.2 = -1)) ∨ (wno e.2.1.1 e.2.1.2.1 e.2.1.2.2 2 t1.1.1 t1.1.2 = false ∧ Int32.ofNat (wx1 e.2.1.1 e.2.1.2.2 2 t1.1.1) - 1 = Int32.ofNat (wa e.2.1.1 e.2.1.2.2 2 t1.1.1) ∧ Int32.ofNat t1.1.2 = Int32.ofNat (wb e.2.1.2.1 e.2.1.2.2 2 t1.1.2) ∧ (wa e.2.1.1 e.2.1.2.2 2 t1.1.1) ≤ e.2.1.1 ∧ (wb e.2.1.2.1 e.2.1.2.2 2 t1.1.2) ≤ e.2.1.2.1) := by
            have hle := wx1_le (s := e.2.1.2.2) (y := 2) o1.1
            by_cases h0 : (wx1 e.2.1.1 e.2.1.2.2 2 t1.1.1) = 0
            · refine Or.inl ⟨?_, Or.inl ?_⟩
              · unfold wno
                rw [x_beq h0]
                rfl
              · rw [h0]
                rfl
            · refine Or.inr ⟨?_, (show Int32.ofNat (wx1 e.2.1.1 e.2.1.2.2 2 t1.1.1) - Int32.ofNat 1 = _ from x_sub (by omega) (by omega)), rfl, Nat.le_trans (Nat.sub_le _ 1) hle, o1.2.1⟩
              unfold wno
              rw [x_nbeq h0]
              rfl
          refine hK _ _ _ _ (hK _ _ _ _ (⟨_, r_lineK (d := d) S1 w1 w3 h1 h3 s2 (n := 0) (by decide) rfl hc, rfl, fun v174 M174 g174 => ?_⟩))
          obtain ⟨rfl, rfl⟩ := g174
          cases hk : wok e.2.1.1 e.2.1.2.1 e.2.1.2.2 2 t1.1.1 t1.1.2 with
          | false =>
            have hk2 : ¬ (wno e.2.1.1 e.2.1.2.1 e.2.1.2.2 2 t1.1.1 t1.1.2 = false ∧ xlv e.2.1.1 e.2.1.2.1 e.2.1.2.2 (wa e.2.1.1 e.2.1.2.2 2 t1.1.1) (wb e.2.1.2.1 e.2.1.2.2 2 t1.1.2) 0 = true) := fun z => by
              have h9 : wok e.2.1.1 e.2.1.2.1 e.2.1.2.2 2 t1.1.1 t1.1.2 = true := by
                show (!(wno e.2.1.1 e.2.1.2.1 e.2.1.2.2 2 t1.1.1 t1.1.2) && xlv e.2.1.1 e.2.1.2.1 e.2.1.2.2 (wa e.2.1.1 e.2.1.2.2 2 t1.1.1) (wb e.2.1.2.1 e.2.1.2.2 2 t1.1.2) 0) = true
                rw [z.1, z.2]
                rfl
              rw [hk] at h9
              cases h9
            rw [if_neg hk2]
            refine hK _ _ _ _ (hK _ _ _ _ (hK _ _ _ _ (hK _ _ _ _ (⟨fun q => absurd rfl q, fun _ => ?_⟩))))
            exact hK _ _ _ _ (hK _ _ _ _ (⟨Or.inl rfl, hf, Or.inr ⟨by
              rw [a9]
              show (match wgo1 e 2 t1 with
                | none => none
                | some u => wgo e 2 m u) = _
              unfold wgo1
              rw [hk]
              rfl, rfl⟩⟩))
          | true =>
            obtain ⟨k1, k2, k3, k4, k5, k6, k7, k8, k9⟩ := tb.2.2 hk
            have hv9 : xlv e.2.1.1 e.2.1.2.1 e.2.1.2.2 (wa e.2.1.1 e.2.1.2.2 2 t1.1.1) (wb e.2.1.2.1 e.2.1.2.2 2 t1.1.2) 0 = true := by
              have z : (!(wno e.2.1.1 e.2.1.2.1 e.2.1.2.2 2 t1.1.1 t1.1.2) && xlv e.2.1.1 e.2.1.2.1 e.2.1.2.2 (wa e.2.1.1 e.2.1.2.2 2 t1.1.1) (wb e.2.1.2.1 e.2.1.2.2 2 t1.1.2) 0) = true := hk
              rw [Bool.and_eq_true] at z
              exact z.2
            rw [if_pos ⟨k9, hv9⟩]
            have l24 := rln_lt (s := e.2.1.2.2) w1 w3 h1 h3 s2 (n := 0) (by decide) k7 k8 hv9
            have e20 : (20 : Int32) + Int32.ofNat (rln e.2.1.1 e.2.1.2.1 e.2.1.2.2 (wa e.2.1.1 e.2.1.2.2 2 t1.1.1) (wb e.2.1.2.1 e.2.1.2.2 2 t1.1.2) 0) = Int32.ofNat (20 + (rln e.2.1.1 e.2.1.2.1 e.2.1.2.2 (wa e.2.1.1 e.2.1.2.2 2 t1.1.1) (wb e.2.1.2.1 e.2.1.2.2 2 t1.1.2) 0)) := x_20
            obtain ⟨v, hv, ev⟩ := L1.2 _ k3 k4
            have ln : M1.1 37 0 (20 + (rln e.2.1.1 e.2.1.2.1 e.2.1.2.2 (wa e.2.1.1 e.2.1.2.2 2 t1.1.1) (wb e.2.1.2.1 e.2.1.2.2 2 t1.1.2) 0)) = Int32.ofNat v := (lR_n L1.1 w1 w3 h1 h3 s2 k7 k8 (n := 0) (by decide) hv9).trans ev
            refine hK _ _ _ _ (hK _ _ _ _ (hK _ _ _ _ (hK _ _ _ _ (⟨fun _ => ?_, fun q => absurd q (x_m1 (by omega))⟩))))
            refine hK _ _ _ _ (hK _ _ _ _ (hK _ _ _ _ (hK _ _ _ _ (hK _ _ _ _ (hK _ _ _ _ (hK _ _ _ _ (⟨fun _ => ?_, fun q => (by first | exact absurd q (by decide) | exact absurd rfl q | exact absurd (by decide) q)⟩)))))))
            refine hK _ _ _ _ (hK _ _ _ _ (hK _ _ _ _ (hK _ _ _ _ (hK _ _ _ _ (hK _ _ _ _ (hK _ _ _ _ (⟨x_vp e20 (show 20 + (rln e.2.1.1 e.2.1.2.1 e.2.1.2.2 (wa e.2.1.1 e.2.1.2.2 2 t1.1.1) (wb e.2.1.2.1 e.2.1.2.2 2 t1.1.2) 0) < 1010 by omega) (by decide), ?_⟩)))))))
            rw [x_cl e20 (by omega), ln]
            refine hK _ _ _ _ (⟨_, g_against (d := d + 1) G1 hv, rfl, fun v222 M222 g222 => ?_⟩)
            obtain ⟨rfl, rfl⟩ := g222
            refine hK _ _ _ _ (⟨_, r_timesK (d := d + 2) G1 r1.2.2.1 rfl o1.2.2 (ag_lt hB.1 hv), rfl, fun v225 M225 g225 => ?_⟩)
            obtain ⟨rfl, rfl⟩ := g225
            refine hK _ _ _ _ (hK _ _ _ _ (hK _ _ _ _ (hK _ _ _ _ (⟨fun _ => ?_, fun q => (by first | exact absurd q (by decide) | exact absurd rfl q | exact absurd (by decide) q)⟩))))
            refine hK _ _ _ _ (hK _ _ _ _ (hK _ _ _ _ (⟨fun q => (by first | exact absurd q (by decide) | exact absurd rfl q | exact absurd (by decide) q), fun _ => ?_⟩)))
            refine hK _ _ _ _ (hK _ _ _ _ (hK _ _ _ _ (hK _ _ _ _ (hK _ _ _ _ (hK _ _ _ _ (hK _ _ _ _ (hK _ _ _ _ (hK _ _ _ _ (⟨fun _ => ?_, fun q => (by first | exact absurd q (by decide) | exact absurd rfl q | exact absurd (by decide) q)⟩)))))))))
            refine hK _ _ _ _ (hK _ _ _ _ (hK _ _ _ _ (⟨fun _ => ?_, fun q => (by first | exact absurd q (by decide) | exact absurd rfl q | exact absurd (by decide) q)⟩)))
            have C313 : ∀ M3 : aM, fr PRg M1 M3 → RWs M3 ((wX e.2.1.1 e.2.1.2.2 2 t1.1.1, wY e.2.1.2.1 e.2.1.2.2 2 t1.1.2), rt e.1.1 e.1.2 t1.2.1 (ag e.1.1 e.1.2 v), 2 :: t1.2.2) → (∀ j, M3.1 41 0 j = if j = t1.2.2.length + 1 then Int32.ofNat (wX e.2.1.1 e.2.1.2.2 2 t1.1.1) else M1.1 41 0 j) → (∀ j, M3.1 42 0 j = M1.1 42 0 j) → K 313 [some (vR 36 0), some (vI (Int32.ofNat many)), some (vI (Int32.ofNat 2)), some (vI (Int32.ofNat i)), some (vI (Int32.ofNat (wx1 e.2.1.1 e.2.1.2.2 2 t1.1.1))), some (vI (Int32.ofNat t1.1.2)), some (vI (Int32.ofNat (rln e.2.1.1 e.2.1.2.1 e.2.1.2.2 (wa e.2.1.1 e.2.1.2.2 2 t1.1.1) (wb e.2.1.2.1 e.2.1.2.2 2 t1.1.2) 0)))] [] M3 := by
              intro M3 f3 z3 z41 z42
              have h16 : M3.1 36 0 16 = Int32.ofNat (t1.2.2.length + 1) := z3.2.2.2
              refine hK _ _ _ _ (hK _ _ _ _ (hK _ _ _ _ (hK _ _ _ _ (hK _ _ _ _ (?_)))))
              rw [h16]
              refine hK _ _ _ _ (hK _ _ _ _ (⟨x_vp rfl (show t1.2.2.length + 1 < 109 by omega) (by decide), ?_⟩))
              rw [x_cl rfl (by omega), z3.2.1]
              refine hK _ _ _ _ (hK _ _ _ _ (?_))
              rw [hI_s]
              refine hF _ _ _ _ _ (a_le_s (a_le_s (a_le_s (a_le_s (a_le_n (a_le_n (a_le_n a_le_z))))))) ?_
              have ewg : wgo1 e 2 t1 = some ((wX e.2.1.1 e.2.1.2.2 2 t1.1.1, wY e.2.1.2.1 e.2.1.2.2 2 t1.1.2), rt e.1.1 e.1.2 t1.2.1 (ag e.1.1 e.1.2 v), 2 :: t1.2.2) := by
                unfold wgo1 wv
                rw [hk, ev, show xn (Int32.ofNat v) = v from x_cl rfl (by omega)]
                rfl
              have f4 : fr PRg M1 (a_pI M3 42 0 (t1.2.2.length + 1) (Int32.ofNat (wY e.2.1.2.1 e.2.1.2.2 2 t1.1.2))) := fr_p f3 rfl
              refine ih (i + 1) ((wX e.2.1.1 e.2.1.2.2 2 t1.1.1, wY e.2.1.2.1 e.2.1.2.2 2 t1.1.2), rt e.1.1 e.1.2 t1.2.1 (ag e.1.1 e.1.2 v), 2 :: t1.2.2) _ (by omega) (by omega) (fr_t hf f4) z3 ⟨k1, k2, rt_lt hB.1 o1.2.2 (ag_lt hB.1 hv)⟩ (by show t1.2.2.length + 1 + m ≤ 108; omega) (hQ.2.1 2 t1 _ M1 _ (by decide) o1 ewg ?_ ?_ q9) ?_
              · exact z41
              · intro j
                show _ = if j = t1.2.2.length + 1 then _ else _
                by_cases hj : j = t1.2.2.length + 1
                · rw [if_pos hj, hj]
                  exact x_pe
                · rw [if_neg hj]
                  exact (x_pn (fun z => hj z.2.2)).trans (z42 j)
              · rw [a9]
                show (match wgo1 e 2 t1 with
                  | none => none
                  | some u => wgo e 2 m u) = _
                rw [ewg]
            have C300 : ∀ M2 : aM, fr PRg M1 M2 → RWs M2 ((wX e.2.1.1 e.2.1.2.2 2 t1.1.1, wY e.2.1.2.1 e.2.1.2.2 2 t1.1.2), rt e.1.1 e.1.2 t1.2.1 (ag e.1.1 e.1.2 v), 2 :: t1.2.2) → (∀ j, M2.1 41 0 j = M1.1 41 0 j) → (∀ j, M2.1 42 0 j = M1.1 42 0 j) → K 300 [some (vR 36 0), some (vI (Int32.ofNat many)), some (vI (Int32.ofNat 2)), some (vI (Int32.ofNat i)), some (vI (Int32.ofNat (wx1 e.2.1.1 e.2.1.2.2 2 t1.1.1))), some (vI (Int32.ofNat t1.1.2)), some (vI (Int32.ofNat (rln e.2.1.1 e.2.1.2.1 e.2.1.2.2 (wa e.2.1.1 e.2.1.2.2 2 t1.1.1) (wb e.2.1.2.1 e.2.1.2.2 2 t1.1.2) 0)))] [] M2 := by
              intro M2 f2 z2 z41 z42
              have h16 : M2.1 36 0 16 = Int32.ofNat (t1.2.2.length + 1) := z2.2.2.2
              refine hK _ _ _ _ (hK _ _ _ _ (hK _ _ _ _ (hK _ _ _ _ (hK _ _ _ _ (?_)))))
              rw [h16]
              refine hK _ _ _ _ (hK _ _ _ _ (⟨x_vp rfl (show t1.2.2.length + 1 < 109 by omega) (by decide), ?_⟩))
              rw [x_cl rfl (by omega), z2.1]
              refine C313 _ (fr_p f2 rfl) z2 (fun j => ?_) z42
              by_cases hj : j = t1.2.2.length + 1
              · rw [if_pos hj, hj]
                exact x_pe
              · rw [if_neg hj]
                exact (x_pn (fun z => hj z.2.2)).trans (z41 j)
            refine hK _ _ _ _ (hK _ _ _ _ (hK _ _ _ _ (hK _ _ _ _ (hK _ _ _ _ (hK _ _ _ _ (hK _ _ _ _ (hK _ _ _ _ (?_))))))))
            exact C300 _ (fr_p (fr_p (fr_p (fr_p fr_r rfl) rfl) rfl) rfl) ⟨(show Int32.ofNat (wx1 e.2.1.1 e.2.1.2.2 2 t1.1.1) - Int32.ofNat 1 = _ from x_sub (wno2 k9) (Nat.lt_of_le_of_lt (wx1_le hx3) (by omega))), rfl, rfl, (show M1.1 36 0 16 + 1 = _ by rw [r1.2.2.2]; exact hI_s)⟩ (fun _ => rfl) (fun _ => rfl)
        refine hK _ _ _ _ (hK _ _ _ _ (hK _ _ _ _ (hK _ _ _ _ (hK _ _ _ _ (hK _ _ _ _ (?_))))))
        rw [r1.1, r1.2.1]
        · skip
          refine hK _ _ _ _ (hK _ _ _ _ (⟨fun _ => ?_, fun q => (by first | exact absurd q (by decide) | exact absurd rfl q | exact absurd (by decide) q)⟩))
          refine hK _ _ _ _ (hK _ _ _ _ (hK _ _ _ _ (⟨fun q => (by first | exact absurd q (by decide) | exact absurd rfl q | exact absurd (by decide) q), fun _ => ?_⟩)))
          refine hK _ _ _ _ (hK _ _ _ _ (hK _ _ _ _ (hK _ _ _ _ (⟨x_vp (a := 5) rfl (by decide) (by decide), ?_⟩))))
          rw [x_cl (j := 5) (a := 5) rfl (by decide), S1.2.2]
          refine hK _ _ _ _ (⟨fun h9 => ?_, fun h9 => ?_⟩)
          · have s0 : e.2.1.2.2 = 0 := by
              have := x_ge (x := 0) (y := e.2.1.2.2) rfl rfl (by decide) (by omega) h9
              omega
            have ex : (wx1 e.2.1.1 e.2.1.2.2 2 t1.1.1) = t1.1.1 := by
              unfold wx1
              rw [s0]
              rfl
            refine hK _ _ _ _ (hK _ _ _ _ (hK _ _ _ _ (⟨fun _ => ?_, fun q => (by first | exact absurd q (by decide) | exact absurd rfl q | exact absurd (by decide) q)⟩)))
            refine hK _ _ _ _ (hK _ _ _ _ (hK _ _ _ _ (⟨fun _ => ?_, fun q => (by first | exact absurd q (by decide) | exact absurd rfl q | exact absurd (by decide) q)⟩)))
            rw [ex] at mid
            exact mid
          · have s1 : 0 < e.2.1.2.2 := by
              have := x_nge (x := 0) (y := e.2.1.2.2) rfl rfl (by decide) (by omega) h9
              omega
            refine hK _ _ _ _ (hK _ _ _ _ (⟨fun h8 => ?_, fun h8 => ?_⟩))
            · have ex : (wx1 e.2.1.1 e.2.1.2.2 2 t1.1.1) = t1.1.1 := by
                unfold wx1
                rw [x_nbeq (show ¬ t1.1.1 = 0 from fun z => h8 (by rw [z]; rfl)), Bool.and_false, Bool.and_false]
                rfl
              refine hK _ _ _ _ (hK _ _ _ _ (hK _ _ _ _ (⟨fun _ => ?_, fun q => (by first | exact absurd q (by decide) | exact absurd rfl q | exact absurd (by decide) q)⟩)))
              refine hK _ _ _ _ (hK _ _ _ _ (hK _ _ _ _ (⟨fun _ => ?_, fun q => (by first | exact absurd q (by decide) | exact absurd rfl q | exact absurd (by decide) q)⟩)))
              rw [ex] at mid
              exact mid
            · have h7 : t1.1.1 = 0 := x_inj (y := 0) (by omega) (by omega) h8
              have ex : (wx1 e.2.1.1 e.2.1.2.2 2 t1.1.1) = e.2.1.1 := by
                unfold wx1
                rw [x_beq h7, x_blt s1]
                rfl
              refine hK _ _ _ _ (hK _ _ _ _ (hK _ _ _ _ (hK _ _ _ _ (⟨x_vp (a := 3) rfl (by decide) (by decide), ?_⟩))))
              rw [x_cl (j := 3) (a := 3) rfl (by decide), S1.1]
              refine hK _ _ _ _ (?_)
              refine hK _ _ _ _ (hK _ _ _ _ (hK _ _ _ _ (⟨fun _ => ?_, fun q => (by first | exact absurd q (by decide) | exact absurd rfl q | exact absurd (by decide) q)⟩)))
              refine hK _ _ _ _ (hK _ _ _ _ (hK _ _ _ _ (⟨fun _ => ?_, fun q => (by first | exact absurd q (by decide) | exact absurd rfl q | exact absurd (by decide) q)⟩)))
              rw [ex] at mid
              exact mid
  refine hK _ _ _ _ (hK _ _ _ _ (?_))
  exact lp many 0 t M rfl (Nat.zero_le _) fr_r hs ho h108 hq rfl
theorem r_goes3 {nS d many : Nat} {M : aM} {e : xB} {c0 : Nat × Nat} {t : xW} {Q : xW → aM → Prop} (hB : rB 37 M e) (hL : LL 37 M e) (hs : RWs M t) (ho : xWo e t) (hm9 : many ≤ 9) (h108 : t.2.2.length + many ≤ 108) (hQ : QOK e c0 Q) (hq : Q t M) : aC nS (d + 4) 224 [vR 36 0, vI (Int32.ofNat many), vI (Int32.ofNat 3)] M (fun v M' => fr PRg M M' ∧ ((∃ u, wgo e 3 many t = some u ∧ xWo e u ∧ v = some (vI 1) ∧ RWs M' u ∧ Q u M') ∨ (wgo e 3 many t = none ∧ v = some (vI 0)))) (fun _ _ => False) := by
  obtain ⟨hg, o2, o8, hS, w1, w3, h1, h3, s2⟩ := rB_h hB
  refine aC_mk rfl rfl ?_
  intro K hK hF
  have lp : ∀ (m i : Nat) (t1 : xW) (M1 : aM), many - i = m → i ≤ many → fr PRg M M1 → RWs M1 t1 → xWo e t1 → t1.2.2.length + m ≤ 108 → Q t1 M1 → wgo e 3 many t = wgo e 3 m t1 → K 2 [some (vR 36 0), some (vI (Int32.ofNat many)), some (vI (Int32.ofNat 3)), some (vI (Int32.ofNat i)), none, none, none] [] M1 := by
    intro m
    induction m with
    | zero =>
      intro i t1 M1 hm hi hf r1 o1 hl q9 a9
      refine hK _ _ _ _ (hK _ _ _ _ (hK _ _ _ _ (⟨fun h9 => ?_, fun h9 => ?_⟩)))
      · exact hK _ _ _ _ (hK _ _ _ _ (⟨Or.inr rfl, hf, Or.inl ⟨t1, a9, o1, rfl, r1, q9⟩⟩))
      · exact absurd (x_nge (x := i) (y := many) rfl rfl (by omega) (by omega) h9) (by omega)
    | succ m ih =>
      intro i t1 M1 hm hi hf r1 o1 hl q9 a9
      have tb := wtab (way := 3) w1 w3 h1 h3 s2 (by decide) o1.1 o1.2.1
      have B1 := rB_gW hf hB
      have L1 := LL_gW hf hB hL
      have G1 := rB_g B1
      have S1 := (rB_h B1).2.2.2.1
      have hx3 := o1.1
      have hy3 := o1.2.1
      refine hK _ _ _ _ (hK _ _ _ _ (hK _ _ _ _ (⟨fun h9 => ?_, fun h9 => ?_⟩)))
      · exact absurd (x_ge (x := i) (y := many) rfl rfl (by omega) (by omega) h9) (by omega)
      · have mid : K 130 [some (vR 36 0), some (vI (Int32.ofNat many)), some (vI (Int32.ofNat 3)), some (vI (Int32.ofNat i)), some (vI (Int32.ofNat t1.1.1)), some (vI (Int32.ofNat (wy1 e.2.1.2.1 e.2.1.2.2 3 t1.1.2))), none] [] M1 := by
          refine hK _ _ _ _ (hK _ _ _ _ (hK _ _ _ _ (hK _ _ _ _ (⟨fun _ => ?_, fun q => (by first | exact absurd q (by decide) | exact absurd rfl q | exact absurd (by decide) q)⟩))))
          refine hK _ _ _ _ (hK _ _ _ _ (hK _ _ _ _ (hK _ _ _ _ (⟨fun q => (by first | exact absurd q (by decide) | exact absurd rfl q | exact absurd (by decide) q), fun _ => ?_⟩))))
          refine hK _ _ _ _ (hK _ _ _ _ (hK _ _ _ _ (hK _ _ _ _ (hK _ _ _ _ (hK _ _ _ _ (hK _ _ _ _ (⟨fun q => (by first | exact absurd q (by decide) | exact absurd rfl q | exact absurd (by decide) q), fun _ => ?_⟩)))))))
          refine hK _ _ _ _ (hK _ _ _ _ (hK _ _ _ _ (⟨fun q => (by first | exact absurd q (by decide) | exact absurd rfl q | exact absurd (by decide) q), fun _ => ?_⟩)))
          have hc : (wno e.2.1.1 e.2.1.2.1 e.2.1.2.2 3 t1.1.1 t1.1.2 = true ∧ (Int32.ofNat t1.1.1 = -1 ∨ Int32.ofNat (wy1 e.2.1.2.1 e.2.1.2.2 3 t1.1.2) - 1 = -1)) ∨ (wno e.2.1.1 e.2.1.2.1 e.2.1.2.2 3 t1.1.1 t1.1.2 = false ∧ Int32.ofNat t1.1.1 = Int32.ofNat (wa e.2.1.1 e.2.1.2.2 3 t1.1.1) ∧ Int32.ofNat (wy1 e.2.1.2.1 e.2.1.2.2 3 t1.1.2) - 1 = Int32.ofNat (wb e.2.1.2.1 e.2.1.2.2 3 t1.1.2) ∧ (wa e.2.1.1 e.2.1.2.2 3 t1.1.1) ≤ e.2.1.1 ∧ (wb e.2.1.2.1 e.2.1.2.2 3 t1.1.2) ≤ e.2.1.2.1) := by
            have hle := wy1_le (s := e.2.1.2.2) (y := 3) o1.2.1
            by_cases h0 : (wy1 e.2.1.2.1 e.2.1.2.2 3 t1.1.2) = 0
            · refine Or.inl ⟨?_, Or.inr ?_⟩
              · unfold wno
                rw [x_beq h0]
                rfl
              · rw [h0]
                rfl
            · refine Or.inr ⟨?_, rfl, (show Int32.ofNat (wy1 e.2.1.2.1 e.2.1.2.2 3 t1.1.2) - Int32.ofNat 1 = _ from x_sub (by omega) (by omega)), o1.1, Nat.le_trans (Nat.sub_le _ 1) hle⟩
              unfold wno
              rw [x_nbeq h0]
              rfl
          refine hK _ _ _ _ (hK _ _ _ _ (hK _ _ _ _ (⟨_, r_lineK (d := d) S1 w1 w3 h1 h3 s2 (n := 1) (by decide) rfl hc, rfl, fun v174 M174 g174 => ?_⟩)))
          obtain ⟨rfl, rfl⟩ := g174
          cases hk : wok e.2.1.1 e.2.1.2.1 e.2.1.2.2 3 t1.1.1 t1.1.2 with
          | false =>
            have hk2 : ¬ (wno e.2.1.1 e.2.1.2.1 e.2.1.2.2 3 t1.1.1 t1.1.2 = false ∧ xlv e.2.1.1 e.2.1.2.1 e.2.1.2.2 (wa e.2.1.1 e.2.1.2.2 3 t1.1.1) (wb e.2.1.2.1 e.2.1.2.2 3 t1.1.2) 1 = true) := fun z => by
              have h9 : wok e.2.1.1 e.2.1.2.1 e.2.1.2.2 3 t1.1.1 t1.1.2 = true := by
                show (!(wno e.2.1.1 e.2.1.2.1 e.2.1.2.2 3 t1.1.1 t1.1.2) && xlv e.2.1.1 e.2.1.2.1 e.2.1.2.2 (wa e.2.1.1 e.2.1.2.2 3 t1.1.1) (wb e.2.1.2.1 e.2.1.2.2 3 t1.1.2) 1) = true
                rw [z.1, z.2]
                rfl
              rw [hk] at h9
              cases h9
            rw [if_neg hk2]
            refine hK _ _ _ _ (hK _ _ _ _ (hK _ _ _ _ (hK _ _ _ _ (⟨fun q => absurd rfl q, fun _ => ?_⟩))))
            exact hK _ _ _ _ (hK _ _ _ _ (⟨Or.inl rfl, hf, Or.inr ⟨by
              rw [a9]
              show (match wgo1 e 3 t1 with
                | none => none
                | some u => wgo e 3 m u) = _
              unfold wgo1
              rw [hk]
              rfl, rfl⟩⟩))
          | true =>
            obtain ⟨k1, k2, k3, k4, k5, k6, k7, k8, k9⟩ := tb.2.2 hk
            have hv9 : xlv e.2.1.1 e.2.1.2.1 e.2.1.2.2 (wa e.2.1.1 e.2.1.2.2 3 t1.1.1) (wb e.2.1.2.1 e.2.1.2.2 3 t1.1.2) 1 = true := by
              have z : (!(wno e.2.1.1 e.2.1.2.1 e.2.1.2.2 3 t1.1.1 t1.1.2) && xlv e.2.1.1 e.2.1.2.1 e.2.1.2.2 (wa e.2.1.1 e.2.1.2.2 3 t1.1.1) (wb e.2.1.2.1 e.2.1.2.2 3 t1.1.2) 1) = true := hk
              rw [Bool.and_eq_true] at z
              exact z.2
            rw [if_pos ⟨k9, hv9⟩]
            have l24 := rln_lt (s := e.2.1.2.2) w1 w3 h1 h3 s2 (n := 1) (by decide) k7 k8 hv9
            have e20 : (20 : Int32) + Int32.ofNat (rln e.2.1.1 e.2.1.2.1 e.2.1.2.2 (wa e.2.1.1 e.2.1.2.2 3 t1.1.1) (wb e.2.1.2.1 e.2.1.2.2 3 t1.1.2) 1) = Int32.ofNat (20 + (rln e.2.1.1 e.2.1.2.1 e.2.1.2.2 (wa e.2.1.1 e.2.1.2.2 3 t1.1.1) (wb e.2.1.2.1 e.2.1.2.2 3 t1.1.2) 1)) := x_20
            obtain ⟨v, hv, ev⟩ := L1.2 _ k3 k4
            have ln : M1.1 37 0 (20 + (rln e.2.1.1 e.2.1.2.1 e.2.1.2.2 (wa e.2.1.1 e.2.1.2.2 3 t1.1.1) (wb e.2.1.2.1 e.2.1.2.2 3 t1.1.2) 1)) = Int32.ofNat v := (lR_n L1.1 w1 w3 h1 h3 s2 k7 k8 (n := 1) (by decide) hv9).trans ev
            refine hK _ _ _ _ (hK _ _ _ _ (hK _ _ _ _ (hK _ _ _ _ (⟨fun _ => ?_, fun q => absurd q (x_m1 (by omega))⟩))))
            refine hK _ _ _ _ (hK _ _ _ _ (hK _ _ _ _ (hK _ _ _ _ (hK _ _ _ _ (hK _ _ _ _ (hK _ _ _ _ (⟨fun _ => ?_, fun q => (by first | exact absurd q (by decide) | exact absurd rfl q | exact absurd (by decide) q)⟩)))))))
            refine hK _ _ _ _ (hK _ _ _ _ (hK _ _ _ _ (hK _ _ _ _ (hK _ _ _ _ (hK _ _ _ _ (hK _ _ _ _ (⟨x_vp e20 (show 20 + (rln e.2.1.1 e.2.1.2.1 e.2.1.2.2 (wa e.2.1.1 e.2.1.2.2 3 t1.1.1) (wb e.2.1.2.1 e.2.1.2.2 3 t1.1.2) 1) < 1010 by omega) (by decide), ?_⟩)))))))
            rw [x_cl e20 (by omega), ln]
            refine hK _ _ _ _ (⟨_, g_against (d := d + 1) G1 hv, rfl, fun v222 M222 g222 => ?_⟩)
            obtain ⟨rfl, rfl⟩ := g222
            refine hK _ _ _ _ (⟨_, r_timesK (d := d + 2) G1 r1.2.2.1 rfl o1.2.2 (ag_lt hB.1 hv), rfl, fun v225 M225 g225 => ?_⟩)
            obtain ⟨rfl, rfl⟩ := g225
            refine hK _ _ _ _ (hK _ _ _ _ (hK _ _ _ _ (hK _ _ _ _ (⟨fun _ => ?_, fun q => (by first | exact absurd q (by decide) | exact absurd rfl q | exact absurd (by decide) q)⟩))))
            refine hK _ _ _ _ (hK _ _ _ _ (hK _ _ _ _ (⟨fun _ => ?_, fun q => (by first | exact absurd q (by decide) | exact absurd rfl q | exact absurd (by decide) q)⟩)))
            refine hK _ _ _ _ (hK _ _ _ _ (hK _ _ _ _ (hK _ _ _ _ (hK _ _ _ _ (hK _ _ _ _ (⟨fun _ => ?_, fun q => (by first | exact absurd q (by decide) | exact absurd rfl q | exact absurd (by decide) q)⟩))))))
            refine hK _ _ _ _ (hK _ _ _ _ (hK _ _ _ _ (⟨fun q => (by first | exact absurd q (by decide) | exact absurd rfl q | exact absurd (by decide) q), fun _ => ?_⟩)))
            have C313 : ∀ M3 : aM, fr PRg M1 M3 → RWs M3 ((wX e.2.1.1 e.2.1.2.2 3 t1.1.1, wY e.2.1.2.1 e.2.1.2.2 3 t1.1.2), rt e.1.1 e.1.2 t1.2.1 (ag e.1.1 e.1.2 v), 3 :: t1.2.2) → (∀ j, M3.1 41 0 j = if j = t1.2.2.length + 1 then Int32.ofNat (wX e.2.1.1 e.2.1.2.2 3 t1.1.1) else M1.1 41 0 j) → (∀ j, M3.1 42 0 j = M1.1 42 0 j) → K 313 [some (vR 36 0), some (vI (Int32.ofNat many)), some (vI (Int32.ofNat 3)), some (vI (Int32.ofNat i)), some (vI (Int32.ofNat t1.1.1)), some (vI (Int32.ofNat (wy1 e.2.1.2.1 e.2.1.2.2 3 t1.1.2))), some (vI (Int32.ofNat (rln e.2.1.1 e.2.1.2.1 e.2.1.2.2 (wa e.2.1.1 e.2.1.2.2 3 t1.1.1) (wb e.2.1.2.1 e.2.1.2.2 3 t1.1.2) 1)))] [] M3 := by
              intro M3 f3 z3 z41 z42
              have h16 : M3.1 36 0 16 = Int32.ofNat (t1.2.2.length + 1) := z3.2.2.2
              refine hK _ _ _ _ (hK _ _ _ _ (hK _ _ _ _ (hK _ _ _ _ (hK _ _ _ _ (?_)))))
              rw [h16]
              refine hK _ _ _ _ (hK _ _ _ _ (⟨x_vp rfl (show t1.2.2.length + 1 < 109 by omega) (by decide), ?_⟩))
              rw [x_cl rfl (by omega), z3.2.1]
              refine hK _ _ _ _ (hK _ _ _ _ (?_))
              rw [hI_s]
              refine hF _ _ _ _ _ (a_le_s (a_le_s (a_le_s (a_le_s (a_le_n (a_le_n (a_le_n a_le_z))))))) ?_
              have ewg : wgo1 e 3 t1 = some ((wX e.2.1.1 e.2.1.2.2 3 t1.1.1, wY e.2.1.2.1 e.2.1.2.2 3 t1.1.2), rt e.1.1 e.1.2 t1.2.1 (ag e.1.1 e.1.2 v), 3 :: t1.2.2) := by
                unfold wgo1 wv
                rw [hk, ev, show xn (Int32.ofNat v) = v from x_cl rfl (by omega)]
                rfl
              have f4 : fr PRg M1 (a_pI M3 42 0 (t1.2.2.length + 1) (Int32.ofNat (wY e.2.1.2.1 e.2.1.2.2 3 t1.1.2))) := fr_p f3 rfl
              refine ih (i + 1) ((wX e.2.1.1 e.2.1.2.2 3 t1.1.1, wY e.2.1.2.1 e.2.1.2.2 3 t1.1.2), rt e.1.1 e.1.2 t1.2.1 (ag e.1.1 e.1.2 v), 3 :: t1.2.2) _ (by omega) (by omega) (fr_t hf f4) z3 ⟨k1, k2, rt_lt hB.1 o1.2.2 (ag_lt hB.1 hv)⟩ (by show t1.2.2.length + 1 + m ≤ 108; omega) (hQ.2.1 3 t1 _ M1 _ (by decide) o1 ewg ?_ ?_ q9) ?_
              · exact z41
              · intro j
                show _ = if j = t1.2.2.length + 1 then _ else _
                by_cases hj : j = t1.2.2.length + 1
                · rw [if_pos hj, hj]
                  exact x_pe
                · rw [if_neg hj]
                  exact (x_pn (fun z => hj z.2.2)).trans (z42 j)
              · rw [a9]
                show (match wgo1 e 3 t1 with
                  | none => none
                  | some u => wgo e 3 m u) = _
                rw [ewg]
            have C300 : ∀ M2 : aM, fr PRg M1 M2 → RWs M2 ((wX e.2.1.1 e.2.1.2.2 3 t1.1.1, wY e.2.1.2.1 e.2.1.2.2 3 t1.1.2), rt e.1.1 e.1.2 t1.2.1 (ag e.1.1 e.1.2 v), 3 :: t1.2.2) → (∀ j, M2.1 41 0 j = M1.1 41 0 j) → (∀ j, M2.1 42 0 j = M1.1 42 0 j) → K 300 [some (vR 36 0), some (vI (Int32.ofNat many)), some (vI (Int32.ofNat 3)), some (vI (Int32.ofNat i)), some (vI (Int32.ofNat t1.1.1)), some (vI (Int32.ofNat (wy1 e.2.1.2.1 e.2.1.2.2 3 t1.1.2))), some (vI (Int32.ofNat (rln e.2.1.1 e.2.1.2.1 e.2.1.2.2 (wa e.2.1.1 e.2.1.2.2 3 t1.1.1) (wb e.2.1.2.1 e.2.1.2.2 3 t1.1.2) 1)))] [] M2 := by
              intro M2 f2 z2 z41 z42
              have h16 : M2.1 36 0 16 = Int32.ofNat (t1.2.2.length + 1) := z2.2.2.2
              refine hK _ _ _ _ (hK _ _ _ _ (hK _ _ _ _ (hK _ _ _ _ (hK _ _ _ _ (?_)))))
              rw [h16]
              refine hK _ _ _ _ (hK _ _ _ _ (⟨x_vp rfl (show t1.2.2.length + 1 < 109 by omega) (by decide), ?_⟩))
              rw [x_cl rfl (by omega), z2.1]
              refine C313 _ (fr_p f2 rfl) z2 (fun j => ?_) z42
              by_cases hj : j = t1.2.2.length + 1
              · rw [if_pos hj, hj]
                exact x_pe
              · rw [if_neg hj]
                exact (x_pn (fun z => hj z.2.2)).trans (z41 j)
            refine hK _ _ _ _ (hK _ _ _ _ (hK _ _ _ _ (hK _ _ _ _ (hK _ _ _ _ (hK _ _ _ _ (hK _ _ _ _ (hK _ _ _ _ (hK _ _ _ _ (hK _ _ _ _ (hK _ _ _ _ (?_)))))))))))
            exact C300 _ (fr_p (fr_p (fr_p (fr_p fr_r rfl) rfl) rfl) rfl) ⟨rfl, (show Int32.ofNat (wy1 e.2.1.2.1 e.2.1.2.2 3 t1.1.2) - Int32.ofNat 1 = _ from x_sub (wno3 k9) (Nat.lt_of_le_of_lt (wy1_le hy3) (by omega))), rfl, (show M1.1 36 0 16 + 1 = _ by rw [r1.2.2.2]; exact hI_s)⟩ (fun _ => rfl) (fun _ => rfl)
        refine hK _ _ _ _ (hK _ _ _ _ (hK _ _ _ _ (hK _ _ _ _ (hK _ _ _ _ (hK _ _ _ _ (?_))))))
        rw [r1.1, r1.2.1]
        · skip
          refine hK _ _ _ _ (hK _ _ _ _ (⟨fun _ => ?_, fun q => (by first | exact absurd q (by decide) | exact absurd rfl q | exact absurd (by decide) q)⟩))
          refine hK _ _ _ _ (hK _ _ _ _ (hK _ _ _ _ (⟨fun _ => ?_, fun q => (by first | exact absurd q (by decide) | exact absurd rfl q | exact absurd (by decide) q)⟩)))
          refine hK _ _ _ _ (hK _ _ _ _ (hK _ _ _ _ (⟨fun _ => ?_, fun q => (by first | exact absurd q (by decide) | exact absurd rfl q | exact absurd (by decide) q)⟩)))
          refine hK _ _ _ _ (hK _ _ _ _ (hK _ _ _ _ (⟨fun q => (by first | exact absurd q (by decide) | exact absurd rfl q | exact absurd (by decide) q), fun _ => ?_⟩)))
          refine hK _ _ _ _ (hK _ _ _ _ (hK _ _ _ _ (hK _ _ _ _ (⟨x_vp (a := 5) rfl (by decide) (by decide), ?_⟩))))
          rw [x_cl (j := 5) (a := 5) rfl (by decide), S1.2.2]
          refine hK _ _ _ _ (hK _ _ _ _ (⟨fun h9 => ?_, fun h9 => ?_⟩))
          · have ex : (wy1 e.2.1.2.1 e.2.1.2.2 3 t1.1.2) = t1.1.2 := by
              unfold wy1
              rw [x_nbeq (show ¬ e.2.1.2.2 = 2 from fun z => h9 (by rw [z]; rfl)), Bool.false_and, Bool.false_and, Bool.and_false, Bool.and_false]
              rfl
            rw [ex] at mid
            exact mid
          · have s2e : e.2.1.2.2 = 2 := x_inj (y := 2) (by omega) (by omega) h9
            refine hK _ _ _ _ (hK _ _ _ _ (⟨fun h8 => ?_, fun h8 => ?_⟩))
            · have ex : (wy1 e.2.1.2.1 e.2.1.2.2 3 t1.1.2) = t1.1.2 := by
                unfold wy1
                rw [x_nbeq (show ¬ t1.1.2 = 0 from fun z => h8 (by rw [z]; rfl)), Bool.and_false, Bool.and_false]
                rfl
              rw [ex] at mid
              exact mid
            · have h7 : t1.1.2 = 0 := x_inj (y := 0) (by omega) (by omega) h8
              have ex : (wy1 e.2.1.2.1 e.2.1.2.2 3 t1.1.2) = e.2.1.2.1 := by
                unfold wy1
                rw [x_beq h7, x_beq s2e]
                rfl
              refine hK _ _ _ _ (hK _ _ _ _ (hK _ _ _ _ (hK _ _ _ _ (⟨x_vp (a := 4) rfl (by decide) (by decide), ?_⟩))))
              rw [x_cl (j := 4) (a := 4) rfl (by decide), S1.2.1]
              refine hK _ _ _ _ (?_)
              rw [ex] at mid
              exact mid
  refine hK _ _ _ _ (hK _ _ _ _ (?_))
  exact lp many 0 t M rfl (Nat.zero_le _) fr_r hs ho h108 hq rfl
