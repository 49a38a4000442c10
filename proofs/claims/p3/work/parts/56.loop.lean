set_option maxRecDepth 10000 in
theorem lw_lp {K : Nat → aK} {nS : Nat} (hK : ∀ n pc L S M, a_wp 60 nS (fun y as M P => aC nS 60 y as M P (fun _ _ => False)) ret k_law (fun _ _ => False) (fun _ _ => False) (K n) pc L S M → K n pc L S M)
    (hW : ∀ n pc L S M, a_wpW nS 60 K n pc L S M → K n pc L S M) (hR : ∀ n pc L M e, a_fnd k_law pc = some e → e.1 = .ireturn → K n pc L [vI 1] M) (hF : ∀ n pc L L' S M, a_le L' L → K n pc L' S M → K n pc L S M) (hn3 : nS ≤ 3072) : ∀ (f a n : Nat) (M : aM), nS ≤ a + f → a ≤ nS → 6 * n ≤ a → iN M → K n 23 [some (vR 99 0), some (vR 0 0), some (vR 36 0), some (vR 98 0), some (vI (Int32.ofNat a)), none, none, none] [] M := by
  intro f
  induction f using Nat.strongRecOn with
  | ind f ihf =>
  intro a n M hf han h6 hN
  refine hK _ _ _ _ _ (hK _ _ _ _ _ (hK _ _ _ _ _ (hK _ _ _ _ _ (hK _ _ _ _ _ (?_)))))
  have e1 : z_b (Int32.ofNat nS - 6) = nS + 2147483642 := by
    rw [z_b_sub, z_b_ofNat (by omega), z_l6]
    omega
  have e2 : z_b (Int32.ofNat a) = a + 2147483648 := z_b_ofNat (by omega)
  refine hK _ _ _ _ _ ⟨fun h => ?_, fun h => ?_⟩
  · refine hK _ _ _ _ _ ?_
    exact hR _ _ _ _ _ rfl rfl
  have ha : a + 6 ≤ nS := by
    have h3 : ¬ z_b (Int32.ofNat nS - 6) < z_b (Int32.ofNat a) := fun z => h (z_b_ltt.mpr z)
    rw [e1, e2] at h3
    omega
  have ih : ∀ n' M', n' ≤ n + 1 → iN M' → K n' 23 [some (vR 99 0), some (vR 0 0), some (vR 36 0), some (vR 98 0), some (vI (Int32.ofNat (a + 6))), none, none, none] [] M' := fun n' M' h1 h2 => ihf (f - 6) (by omega) (a + 6) n' M' (by omega) (by omega) (by omega) h2
  refine hK _ _ _ _ _ (hK _ _ _ _ _ ?_)
  refine hK _ _ _ _ _ ⟨i_vp (by omega) (by omega), ?_⟩
  refine hK _ _ _ _ _ (hK _ _ _ _ _ ?_)
  refine hK _ _ _ _ _ ⟨?_, fun _ => lw_d hK hW hF hn3 ha h6 hN ih⟩
  exact ⟨fun _ => lw_c0 hK hW hF hn3 ha h6 hN ih, fun _ => lw_c1 hK hW hF hn3 ha h6 hN ih, fun _ => lw_c2 hK hW hF hn3 ha h6 hN ih, fun _ => lw_c3 hK hW hF hn3 ha h6 hN ih, fun _ => lw_c4 hK hW hF hn3 ha h6 hN ih, fun _ => lw_c5 hK hW hF hn3 ha h6 hN ih, fun _ => lw_c6 hK hW hF hn3 ha h6 hN ih, fun _ => lw_c7 hK hW hF hn3 ha h6 hN ih, fun _ => lw_c8 hK hW hF hn3 ha h6 hN ih, fun _ => lw_c9 hK hW hF hn3 ha h6 hN ih, fun _ => lw_c10 hK hW hF hn3 ha h6 hN ih, fun _ => lw_c11 hK hW hF hn3 ha h6 hN ih, fun _ => lw_c12 hK hW hF hn3 ha h6 hN ih, fun _ => lw_c13 hK hW hF hn3 ha h6 hN ih, fun _ => lw_c14 hK hW hF hn3 ha h6 hN ih, fun _ => lw_c15 hK hW hF hn3 ha h6 hN ih, fun _ => lw_c16 hK hW hF hn3 ha h6 hN ih, fun _ => lw_c17 hK hW hF hn3 ha h6 hN ih, fun _ => lw_c18 hK hW hF hn3 ha h6 hN ih, fun _ => lw_c19 hK hW hF hn3 ha h6 hN ih, fun _ => lw_c20 hK hW hF hn3 ha h6 hN ih, fun _ => lw_c21 hK hW hF hn3 ha h6 hN ih, fun _ => lw_c22 hK hW hF hn3 ha h6 hN ih, fun _ => lw_c23 hK hW hF hn3 ha h6 hN ih, fun _ => lw_c24 hK hW hF hn3 ha h6 hN ih, fun _ => lw_c25 hK hW hF hn3 ha h6 hN ih, fun _ => lw_c26 hK hW hF hn3 ha h6 hN ih, fun _ => lw_c27 hK hW hF hn3 ha h6 hN ih, trivial⟩
/-- where the law begins, all bounds hold -/
def i_ck0 (e : Nat × Nat × Nat × zI) : Bool := (List.range (z_ni e.1)).all (fun i => (List.range (e.2.2.1 + 1)).all (fun j => Nat.blt j e.2.1 || (Nat.ble e.2.2.2.1 (z_b (a_gh 0 g_0.1 e.1 i j)) && Nat.ble (z_b (a_gh 0 g_0.1 e.1 i j)) e.2.2.2.2)))
theorem i_ck0_ok : zTb.all (fun e => Nat.blt e.1 47 && i_ck0 e) = true := by decide +kernel
theorem i_M0 {xs : Nat → Int32} {k i j : Nat} (hk : Nat.blt k 47 = true) : (a_toM (a_B0 xs) g_0).1 k i j = a_gh 0 g_0.1 k i j := by
  show (bif Nat.blt k 47 then a_gh 0 g_0.1 k i j else (a_B0 xs).1 k i j) = _
  rw [hk]
  rfl
theorem iN_0 {xs : Nat → Int32} : iN (a_toM (a_B0 xs) g_0) := by
  have e : ∀ k j : Nat, Nat.blt k 47 = true → a_gh 0 g_0.1 k 0 j = 0 → (a_toM (a_B0 xs) g_0).1 k 0 j = 0 := fun k j h1 h2 => (i_M0 h1).trans h2
  refine ⟨fun q hq i j hi h1 h2 => ?_, ⟨⟨(2147483648, 2147483650), by decide, ?_, ?_⟩, ⟨0, by decide, ?_, ?_⟩, Or.inl ?_⟩, ?_⟩
  · have h3 := List.all_eq_true.mp i_ck0_ok q hq
    rw [Bool.and_eq_true] at h3
    have h4 := List.all_eq_true.mp (List.all_eq_true.mp h3.2 i (List.mem_range.mpr hi)) j (List.mem_range.mpr (by omega))
    rw [Bool.or_eq_true, Bool.and_eq_true] at h4
    rw [i_M0 h3.1]
    rcases h4 with h4 | h4
    · have := z_blt h4
      omega
    · exact ⟨z_ble h4.1, z_ble h4.2⟩
  · rw [e 37 1 rfl (by decide +kernel)]
    exact z_b0
  · rw [i_M0 (k := 37) rfl]
    decide +kernel
  · rw [e 37 8 rfl (by decide +kernel)]
    exact z_b0
  · rw [e 37 7 rfl (by decide +kernel), z_b0]
    decide
  · exact e 36 3 rfl (by decide +kernel)
  · rw [e 1 1 rfl (by decide +kernel), e 36 6 rfl (by decide +kernel)]
set_option maxRecDepth 10000 in
theorem part_law (L : Nat) (hL : L ≤ 3072) (xs : Nat → Int32) : aCL L 60 20 [some (vR 99 0), some (vR 0 0), some (vR 36 0), some (vR 98 0), none, none, none, none] (a_toM (a_B0 xs) g_0) := by
  intro K hK hW hR hF
  refine hK _ _ _ _ _ (hK _ _ _ _ _ ?_)
  exact lw_lp hK hW hR hF hL L 0 0 _ (by omega) (Nat.zero_le _) (Nat.le_refl _) iN_0
