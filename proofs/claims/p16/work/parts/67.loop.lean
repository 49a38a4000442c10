set_option maxRecDepth 10000 in
theorem lw_lp {K : Nat → aK} {nS : Nat} (hK : ∀ n pc L S M, a_wp 60 nS (fun y as M P => aC nS 60 y as M P (fun _ _ => False)) ret k_law (fun _ _ => False) (fun _ _ => False) (K n) pc L S M → K n pc L S M)
    (hW : ∀ n pc L S M, a_wpW nS 60 K n pc L S M → K n pc L S M) (hR : ∀ n pc L M e, a_fnd k_law pc = some e → e.1 = .ireturn → K n pc L [vI 1] M) (hF : ∀ n pc L L' S M, a_le L' L → K n pc L' S M → K n pc L S M) (hn3 : nS ≤ 3072) : ∀ (f a n : Nat) (M : aM), nS ≤ a + f → a ≤ nS → 6 * n ≤ a → iN M → K n 23 [some (vR 99 0), some (vR 0 0), some (vR 36 0), some (vR 98 0), some (vI (Int32.ofNat a)), none, none, none] [] M := by
  intro f
  induction f using Nat.strongRecOn with
  | ind f ihf =>
  intro a n M hf han h6 hN
  refine hK _ _ _ _ _ (hK _ _ _ _ _ (hK _ _ _ _ _ (hK _ _ _ _ _ (hK _ _ _ _ _ (?_)))))
  have e1 : z_b (Int32.ofNat nS - 6) = nS + 2147483642 := by
    rw [z_b_sub, z_b_ofNat (by omega), z_l6]
    omega
  have e2 : z_b (Int32.ofNat a) = a + 2147483648 := z_b_ofNat (by omega)
  refine hK _ _ _ _ _ ⟨fun h => ?_, fun h => ?_⟩
  · refine hK _ _ _ _ _ ?_
    exact hR _ _ _ _ _ rfl rfl
  have ha : a + 6 ≤ nS := by
    have h3 : ¬ z_b (Int32.ofNat nS - 6) < z_b (Int32.ofNat a) := fun z => h (z_b_ltt.mpr z)
    rw [e1, e2] at h3
    omega
  have ih : ∀ n' M', n' ≤ n + 1 → iN M' → K n' 23 [some (vR 99 0), some (vR 0 0), some (vR 36 0), some (vR 98 0), some (vI (Int32.ofNat (a + 6))), none, none, none] [] M' := fun n' M' h1 h2 => ihf (f - 6) (by omega) (a + 6) n' M' (by omega) (by omega) (by omega) h2
  refine hK _ _ _ _ _ (hK _ _ _ _ _ ?_)
  refine hK _ _ _ _ _ ⟨i_vp (by omega) (by omega), ?_⟩
  refine hK _ _ _ _ _ (hK _ _ _ _ _ ?_)
  refine hK _ _ _ _ _ ⟨?_, fun _ => lw_d hK hW hF hn3 ha h6 hN ih⟩
  exact ⟨fun _ => lw_c0 hK hW hF hn3 ha h6 hN ih, fun _ => lw_c1 hK hW hF hn3 ha h6 hN ih, fun _ => lw_c2 hK hW hF hn3 ha h6 hN ih, fun _ => lw_c3 hK hW hF hn3 ha h6 hN ih, fun _ => lw_c4 hK hW hF hn3 ha h6 hN ih, fun _ => lw_c5 hK hW hF hn3 ha h6 hN ih, fun _ => lw_c6 hK hW hF hn3 ha h6 hN ih, fun _ => lw_c7 hK hW hF hn3 ha h6 hN ih, fun _ => lw_c8 hK hW hF hn3 ha h6 hN ih, fun _ => lw_c9 hK hW hF hn3 ha h6 hN ih, fun _ => lw_c10 hK hW hF hn3 ha h6 hN ih, fun _ => lw_c11 hK hW hF hn3 ha h6 hN ih, fun _ => lw_c12 hK hW hF hn3 ha h6 hN ih, fun _ => lw_c13 hK hW hF hn3 ha h6 hN ih, fun _ => lw_c14 hK hW hF hn3 ha h6 hN ih, fun _ => lw_c15 hK hW hF hn3 ha h6 hN ih, fun _ => lw_c16 hK hW hF hn3 ha h6 hN ih, fun _ => lw_c17 hK hW hF hn3 ha h6 hN ih, fun _ => lw_c18 hK hW hF hn3 ha h6 hN ih, fun _ => lw_c19 hK hW hF hn3 ha h6 hN ih, fun _ => lw_c20 hK hW hF hn3 ha h6 hN ih, fun _ => lw_c21 hK hW hF hn3 ha h6 hN ih, fun _ => lw_c22 hK hW hF hn3 ha h6 hN ih, fun _ => lw_c23 hK hW hF hn3 ha h6 hN ih, fun _ => lw_c24 hK hW hF hn3 ha h6 hN ih, fun _ => lw_c25 hK hW hF hn3 ha h6 hN ih, fun _ => lw_c26 hK hW hF hn3 ha h6 hN ih, fun _ => lw_c27 hK hW hF hn3 ha h6 hN ih, trivial⟩
/-- where the law begins, all bounds hold -/
def i_ck0 (e : Nat × Nat × Nat × zI) : Bool := (List.range (z_ni e.1)).all (fun i => (List.range (e.2.2.1 + 1)).all (fun j => Nat.blt j e.2.1 || (Nat.ble e.2.2.2.1 (z_b (a_gh 0 g_0.1 e.1 i j)) && Nat.ble (z_b (a_gh 0 g_0.1 e.1 i j)) e.2.2.2.2)))
theorem i_ck0_ok : zTb.all (fun e => Nat.blt e.1 47 && i_ck0 e) = true := by decide +kernel
theorem i_M0 {xs : Nat → Int32} {k i j : Nat} (hk : Nat.blt k 47 = true) : (a_toM (a_B0 xs) g_0).1 k i j = a_gh 0 g_0.1 k i j := by
  show (bif Nat.blt k 47 then a_gh 0 g_0.1 k i j else (a_B0 xs).1 k i j) = _
  rw [hk]
  rfl
theorem iN_00 {xs : Nat → Int32} : iN0 (a_toM (a_B0 xs) g_0) := by
  have e : ∀ k j : Nat, Nat.blt k 47 = true → a_gh 0 g_0.1 k 0 j = 0 → (a_toM (a_B0 xs) g_0).1 k 0 j = 0 := fun k j h1 h2 => (i_M0 h1).trans h2
  refine ⟨fun q hq i j hi h1 h2 => ?_, ⟨⟨(2147483648, 2147483650), by decide, ?_, ?_⟩, ⟨0, by decide, ?_, ?_⟩, Or.inl ?_⟩, ?_⟩
  · have h3 := List.all_eq_true.mp i_ck0_ok q hq
    rw [Bool.and_eq_true] at h3
    have h4 := List.all_eq_true.mp (List.all_eq_true.mp h3.2 i (List.mem_range.mpr hi)) j (List.mem_range.mpr (by omega))
    rw [Bool.or_eq_true, Bool.and_eq_true] at h4
    rw [i_M0 h3.1]
    rcases h4 with h4 | h4
    · have := z_blt h4
      omega
    · exact ⟨z_ble h4.1, z_ble h4.2⟩
  · rw [e 37 1 rfl (by decide +kernel)]
    exact z_b0
  · rw [i_M0 (k := 37) rfl]
    decide +kernel
  · rw [e 37 8 rfl (by decide +kernel)]
    exact z_b0
  · rw [e 37 7 rfl (by decide +kernel), z_b0]
    decide
  · exact e 36 3 rfl (by decide +kernel)
  · rw [e 1 1 rfl (by decide +kernel), e 36 6 rfl (by decide +kernel)]
/-- where the law begins, both sides are alike -/
def e_0 : xB := ((0, 2), (1, 1, 0), fun _ => 1, fun _ => 0, fun _ => 0)
def ck_g (i : Nat) : Bool := (decide (a_gh 0 g_0.1 5 i 0 = 0) && (decide (a_gh 0 g_0.1 5 i 1 = 2) && decide (a_gh 0 g_0.1 5 i 2 = Int32.ofNat (kc 0 2)))) && (((List.range 2).all (fun a => (List.range 2).all (fun b => decide (a_gh 0 g_0.1 6 i (a * 8 + b) = Int32.ofNat (rt 0 2 a b)))) && (List.range 2).all (fun a => decide (a_gh 0 g_0.1 7 i a = Int32.ofNat (ag 0 2 a)))) && ((List.range 2).all (fun a => decide (a_gh 0 g_0.1 8 i a = Int32.ofNat (kn 0 2 a))) && ((List.range 8).all (fun c => decide (a_gh 0 g_0.1 9 i c = Int32.ofNat (ksf 0 2 c 2))) && ((List.range 8).all (fun c => decide (a_gh 0 g_0.1 10 i c = Int32.ofNat (cmo 0 2 c 2))) && (List.range 8).all (fun c => decide (a_gh 0 g_0.1 11 i c = Int32.ofNat (rso 0 2 c 2)))))))
theorem ck_g_ok : (List.range 3).all ck_g = true := by decide +kernel
theorem gF_0 {xs : Nat → Int32} {i : Nat} (hi : i < 3) : gF i (a_toM (a_B0 xs) g_0) 0 2 := by
  have h := List.all_eq_true.mp ck_g_ok i (List.mem_range.mpr hi)
  unfold ck_g at h
  simp only [Bool.and_eq_true, decide_eq_true_eq] at h
  obtain ⟨⟨h0, h1, h2⟩, ⟨h6, h7⟩, h8, h9, h10, h11⟩ := h
  have al : ∀ {n : Nat} {P : Nat → Prop} [inst : DecidablePred P], (List.range n).all (fun a => decide (P a)) = true → ∀ a, a < n → P a := fun h a ha => of_decide_eq_true (List.all_eq_true.mp h a (List.mem_range.mpr ha))
  have e : ∀ k j, k < 47 → (a_toM (a_B0 xs) g_0).1 k i j = a_gh 0 g_0.1 k i j := fun k j hk => i_M0 (x_blt hk)
  refine ⟨⟨by decide, (e 5 0 (by decide)).trans h0, (e 5 1 (by decide)).trans h1⟩, ⟨fun a b ha hb => (e 6 _ (by decide)).trans ?_, fun a ha => (e 7 a (by decide)).trans (al h7 a ha)⟩, (e 5 2 (by decide)).trans h2, fun a ha => (e 8 a (by decide)).trans (al h8 a ha), fun c hc => (e 9 c (by decide)).trans (al h9 c hc), fun c hc => (e 10 c (by decide)).trans (al h10 c hc), fun c hc => (e 11 c (by decide)).trans (al h11 c hc)⟩
  exact al (List.all_eq_true.mp h6 a (List.mem_range.mpr ha)) b hb
theorem ck_row (j : Nat) : a_gh 0 g_0.1 2 0 j = a_gh 0 g_0.1 40 0 j := by
  have h : a_lg [] (a_lg [] g_0.1 2) 0 = a_lg [] (a_lg [] g_0.1 40) 0 := by decide +kernel
  unfold a_gh
  rw [h]
def ck_z : Bool := ((decide (a_gh 0 g_0.1 4 0 1 = 1) && (decide (a_gh 0 g_0.1 4 0 2 = 1) && (decide (a_gh 0 g_0.1 4 0 3 = 0) && (decide (a_gh 0 g_0.1 4 0 5 = 2) && (decide (a_gh 0 g_0.1 4 0 6 = 2) && decide (a_gh 0 g_0.1 4 0 4 = 0)))))) && ((List.range 8).all (fun t => decide (a_gh 0 g_0.1 13 0 t = 1)) && ((List.range 16).all (fun j => decide (a_gh 0 g_0.1 14 0 j = 0)) && (List.range 32).all (fun j => decide (a_gh 0 g_0.1 12 0 j = 0))))) && ((decide (a_gh 0 g_0.1 37 0 0 = 0) && (decide (a_gh 0 g_0.1 37 0 1 = 0) && (decide (a_gh 0 g_0.1 37 0 2 = 2) && (decide (a_gh 0 g_0.1 37 0 3 = 1) && (decide (a_gh 0 g_0.1 37 0 4 = 1) && (decide (a_gh 0 g_0.1 37 0 5 = 0) && decide (a_gh 0 g_0.1 37 0 6 = 0))))))) && ((List.range 8).all (fun t => decide (a_gh 0 g_0.1 37 0 (10 + t) = 1)) && (decide (a_gh 0 g_0.1 20 0 4 = 0) && (decide (a_gh 0 g_0.1 20 0 5 = 0) && (decide (a_gh 0 g_0.1 37 0 8 = 0) && (decide (a_gh 0 g_0.1 37 0 7 = 0) && (decide (a_gh 0 g_0.1 0 0 5 = 0) && decide (a_gh 0 g_0.1 36 0 3 = 0))))))))
theorem ck_z_ok : ck_z = true := by decide +kernel
theorem RX_0 {xs : Nat → Int32} : RX (a_toM (a_B0 xs) g_0) := by
  have h := ck_z_ok
  unfold ck_z at h
  simp only [Bool.and_eq_true, decide_eq_true_eq] at h
  obtain ⟨⟨⟨c1, c2, c3, c5, c6, c4⟩, w8, o16, l32⟩, ⟨m0, m1, m2, m3, m4, m5, m6⟩, mw, y4, y5, y8, y7, k5, k3⟩ := h
  have al : ∀ {n : Nat} {P : Nat → Prop} [inst : DecidablePred P], (List.range n).all (fun a => decide (P a)) = true → ∀ a, a < n → P a := fun h a ha => of_decide_eq_true (List.all_eq_true.mp h a (List.mem_range.mpr ha))
  have e : ∀ k j, k < 47 → (a_toM (a_B0 xs) g_0).1 k 0 j = a_gh 0 g_0.1 k 0 j := fun k j hk => i_M0 (x_blt hk)
  refine ⟨fun j => (e 2 j (by decide)).trans ((ck_row j).trans (e 40 j (by decide)).symm), ⟨e_0, ⟨gF_0 (by decide), ⟨by decide, by decide, by decide, by decide, by decide⟩, ⟨(e 4 1 (by decide)).trans c1, (e 4 2 (by decide)).trans c2, (e 4 3 (by decide)).trans c3, (e 4 5 (by decide)).trans c5, (e 4 6 (by decide)).trans c6⟩, fun t ht => (e 13 t (by decide)).trans (al w8 t ht), fun j hj => (e 14 j (by decide)).trans (al o16 j hj), fun j hj => (e 12 j (by decide)).trans (al l32 j hj)⟩, ⟨by decide, ⟨by decide, by decide, by decide, by decide, by decide⟩, ⟨(e 37 1 (by decide)).trans m1, (e 37 2 (by decide)).trans m2, (e 37 3 (by decide)).trans m3, (e 37 4 (by decide)).trans m4, (e 37 5 (by decide)).trans m5⟩, fun t ht => (e 37 (10 + t) (by decide)).trans (al mw t ht), ?_⟩, (e 4 4 (by decide)).trans (c4.trans (m0.symm.trans (e 37 0 (by decide)).symm))⟩, ⟨⟨0, 2, gF_0 (by decide)⟩, ⟨0, 2, gF_0 (by decide)⟩⟩, ⟨(e 20 4 (by decide)).trans (y4.trans (y8.symm.trans (e 37 8 (by decide)).symm)), (e 20 5 (by decide)).trans (y5.trans (y7.symm.trans (e 37 7 (by decide)).symm))⟩, Or.inl ⟨(e 0 5 (by decide)).trans k5, (e 36 3 (by decide)).trans k3⟩⟩
  rw [(e 37 6 (by decide)).trans m6]
  exact rH_0
def ck_y : Bool := ((decide (a_gh 0 g_0.1 20 0 4 = 0) && (decide (a_gh 0 g_0.1 20 0 5 = 0) && (decide (a_gh 0 g_0.1 37 0 8 = 0) && (decide (a_gh 0 g_0.1 37 0 7 = 0) && decide (a_gh 0 g_0.1 0 0 5 = 0))))) && ((List.range 32).all (fun j => decide (a_gh 0 g_0.1 12 0 j = 0)) && ((List.range 24).all (fun j => decide (a_gh 0 g_0.1 37 0 (20 + j) = 0)) && ((List.range 8).all (fun j => decide (a_gh 0 g_0.1 13 0 j = 1)) && (List.range 16).all (fun j => decide (a_gh 0 g_0.1 14 0 j = 0))))))
theorem ck_y_ok : ck_y = true := by decide +kernel
theorem RZ_0 {xs : Nat → Int32} : RZ (a_toM (a_B0 xs) g_0) := by
  have h := ck_y_ok
  unfold ck_y at h
  simp only [Bool.and_eq_true, decide_eq_true_eq] at h
  obtain ⟨⟨y4, y5, y8, y7, k5⟩, l32, l24, w8, o16⟩ := h
  have al : ∀ {n : Nat} {P : Nat → Prop} [inst : DecidablePred P], (List.range n).all (fun a => decide (P a)) = true → ∀ a, a < n → P a := fun h a ha => of_decide_eq_true (List.all_eq_true.mp h a (List.mem_range.mpr ha))
  have e : ∀ k j, k < 47 → (a_toM (a_B0 xs) g_0).1 k 0 j = a_gh 0 g_0.1 k 0 j := fun k j hk => i_M0 (x_blt hk)
  obtain ⟨b, b1, b2, b3⟩ := (RX_0 (xs := xs)).2.1
  obtain ⟨o2, o8, -⟩ := gP_o (k := b.1.1) (o := b.1.2) b2.1
  have z : ∀ l, l < 32 → b.2.2.2.2 l = 0 := fun l hl9 => (b1.2.2.2.2.2 l hl9).symm.trans ((e 12 l (by decide)).trans (al l32 l hl9))
  have wz : ∀ t, t < 8 → b.2.2.1 t = 1 := fun t ht => (b1.2.2.2.1 t ht).symm.trans ((e 13 t (by decide)).trans (al w8 t ht))
  exact RZ_zero b1 b2 b3 ⟨fun l p q => ((e 37 _ (by decide)).trans (al l24 _ (lm24 b2.2.1 p q))).trans (z l p).symm, fun l p q => ⟨0, by omega, z l p⟩⟩ ((e 20 4 (by decide)).trans y4) ((e 20 5 (by decide)).trans y5) ((e 37 8 (by decide)).trans y8) ((e 37 7 (by decide)).trans y7) ⟨fun a c ha hc _ => (wz a (by omega)).trans (wz c (by omega)).symm, b2.2.1.2.1, fun j hj h9 => absurd (((b1.2.2.2.2.1 j hj).symm.trans ((e 14 j (by decide)).trans (al o16 j hj))).symm.trans h9) (by decide)⟩ (fun h5 => absurd (((e 0 5 (by decide)).trans k5).symm.trans h5) (by decide))
theorem iN_0 {xs : Nat → Int32} : iN (a_toM (a_B0 xs) g_0) := ⟨iN_00, RX_0, RZ_0⟩
set_option maxRecDepth 10000 in
theorem part_law (L : Nat) (hL : L ≤ 3072) (xs : Nat → Int32) : aCL L 60 20 [some (vR 99 0), some (vR 0 0), some (vR 36 0), some (vR 98 0), none, none, none, none] (a_toM (a_B0 xs) g_0) := by
  intro K hK hW hR hF
  refine hK _ _ _ _ _ (hK _ _ _ _ _ ?_)
  exact lw_lp hK hW hR hF hL L 0 0 _ (by omega) (Nat.zero_le _) (Nat.le_refl _) iN_0
