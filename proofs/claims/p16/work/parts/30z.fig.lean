theorem z_M_of {P : xF} {W : zW} {M M' : aM} {g : zG} (hT : z_MT (zTb, [], []) M) (hf : fr P M M') (hW : ∀ k i j, P k i j = true → z_w W k j j = true) (hv : ∀ k i j, i < z_ni k → P k i j = true → ∃ v, z_tOk zTb k j j v = true ∧ z_i v (M'.1 k i j)) (hg : z_MG g M') : z_M (zTb, W, []) M g M' := by
  refine ⟨fun q hq i j hi h1 h2 => ?_, fun k i j hn => ?_, hg⟩
  · cases hp : P q.1 i j with
    | false =>
      rw [hf.1 _ _ _ hp]
      exact hT q hq i j hi h1 h2
    | true =>
      obtain ⟨v, h3, h4⟩ := hv _ _ _ hi hp
      obtain ⟨h5, h6⟩ := z_tOk_at h3 hq rfl (Nat.le_refl j) (Nat.le_refl j) h1 h2
      exact ⟨Nat.le_trans h5 h4.1, Nat.le_trans h4.2 h6⟩
  · refine ⟨?_, by rw [hf.2]⟩
    cases hp : P k i j with
    | false => exact hf.1 k i j hp
    | true =>
      have hn : z_w W k j j = false := hn
      rw [hW k i j hp] at hn
      cases hn
theorem x_rng {x : Int32} {m : Nat} (hm : m < 2147483648) (h : z_i (2147483648, m + 2147483648) x) : ∃ n, n ≤ m ∧ x = Int32.ofNat n := by
  obtain ⟨h1, h2⟩ := h
  dsimp only at h1 h2
  refine ⟨z_b x - 2147483648, by omega, z_b_inj ?_⟩
  rw [z_b_ofNat (by omega)]
  omega
theorem x_rng' {x : Int32} {n m : Nat} (hm : m < 2147483648) (h : n ≤ m) (hx : x = Int32.ofNat n) : z_i (2147483648, m + 2147483648) x := by
  rw [hx]
  have e := z_b_ofNat (show n < 2147483648 by omega)
  exact ⟨by show 2147483648 ≤ _; omega, by show _ ≤ m + 2147483648; omega⟩
theorem x_MG1 {M : aM} {n k j : Nat} {v : zI} {g : zG} (h1 : j < 4096) (h2 : z_ky k 0 j = n) (h : z_i v (M.1 k 0 j)) (hg : z_MG g M) : z_MG ((n, v) :: g) M := by
  refine List.forall_mem_cons.mpr ⟨fun k' i' j' q1 q2 q3 => ?_, hg⟩
  obtain ⟨f1, f2, f3⟩ := z_ky_lt (k' := k) (i' := 0) (j' := j) q1 q2 (by decide) h1 (q3.trans h2.symm)
  subst f1
  subst f2
  subst f3
  exact h
theorem x_eqI {n : Nat} {x : Int32} (h : z_b x = n) : z_i (n, n) x := ⟨Nat.le_of_eq h.symm, Nat.le_of_eq h⟩
theorem t_num_lh {r : Nat → Int32} {n p : Nat} {lo hi x : Int32} {q : Nat} (h : t_num r n p lo hi = some (x, q)) : lo ≤ x ∧ x ≤ hi ∧ q ≤ max n p := by
  unfold t_num at h
  split at h
  · rename_i hc
    cases h
    refine ⟨hc.2.2.1, hc.2.2.2, ?_⟩
    have h1 : t_sk r n p ≤ max n p := t_go_le0
    have h2 : t_go (t_09 r) n (t_sk r n p) ≤ max n (t_sk r n p) := t_go_le0
    exact Nat.le_trans h2 (Nat.max_le.mpr ⟨Nat.le_max_left n p, h1⟩)
  · cases h
theorem hz_figures {a a2 b b2 : Nat} : z_ctH zTb (206, [.inr (.inr (36, 0)), .inl (a, a2), .inl (b2, b)], [(589833, (2147483647, 2147483647))], [(36, 8, 8), (36, 9, 9), (36, 10, 10)], [.inl (some (.inl (0, 4294967295)), [(589834, (2147483648, 2147484048)), (589832, (2147483648, 2147484048)), (589833, (2147483648, 2147484048))]), .inl (some (.inl (a, b)), [(589834, (2147483648, 2147484048)), (589832, (2147483648, 2147484048)), (589833, (2147483647, 2147483647))])], 3) := by
  intro nS d as M hd hS hT hG
  obtain ⟨e, rfl⟩ := h_rk hd
  obtain ⟨x, y, rfl, hx, hy⟩ := h_S3 (by decide) hS
  have h9 : z_b (M.1 36 0 9) = 2147483647 := by
    have h := hG _ (List.mem_singleton.mpr rfl) 36 0 9 (by decide) (by decide) rfl
    exact Nat.le_antisymm h.2 h.1
  have hfa : M.1 36 0 9 = -1 := z_b_inj (h9.trans z_b_m1.symm)
  obtain ⟨n, n4, hn⟩ := x_rng (m := 400) (by decide) (h_TR (T := zTb) (k := 36) (i := 0) (j := 7) hT)
  obtain ⟨p, p4, hp⟩ := x_rng (m := 400) (by decide) (h_TR (T := zTb) (k := 36) (i := 0) (j := 8) hT)
  have L4 : max n p ≤ 400 := Nat.max_le.mpr ⟨n4, p4⟩
  have key : ∀ {M' : aM} {g : zG}, fr P36 M M' → z_i (2147483648, 400 + 2147483648) (M'.1 36 0 8) → z_i (2147483647, 400 + 2147483648) (M'.1 36 0 9) → z_i (2147483648, 400 + 2147483648) (M'.1 36 0 10) → z_MG g M' → z_M (zTb, [(36, 8, 8), (36, 9, 9), (36, 10, 10)], []) M g M' := by
    intro M' g hf h8 h9 h10 hg
    refine z_M_of hT hf (fun k i j z => ?_) (fun k i j hi z => ?_) hg
    · have z : (Nat.beq k 36 && (Nat.beq j 8 || (Nat.beq j 9 || Nat.beq j 10))) = true := z
      rw [Bool.and_eq_true, Bool.or_eq_true, Bool.or_eq_true] at z
      rw [Nat.eq_of_beq_eq_true z.1]
      rcases z.2 with q | q | q <;> rw [Nat.eq_of_beq_eq_true q] <;> rfl
    · have z : (Nat.beq k 36 && (Nat.beq j 8 || (Nat.beq j 9 || Nat.beq j 10))) = true := z
      rw [Bool.and_eq_true, Bool.or_eq_true, Bool.or_eq_true] at z
      have hk := Nat.eq_of_beq_eq_true z.1
      have zz := z.2
      subst hk
      have i0 : i = 0 := by
        have : i < 1 := hi
        omega
      subst i0
      rcases zz with q | q | q
      · rw [Nat.eq_of_beq_eq_true q]
        exact ⟨_, by decide +kernel, h8⟩
      · rw [Nat.eq_of_beq_eq_true q]
        exact ⟨_, by decide +kernel, h9⟩
      · rw [Nat.eq_of_beq_eq_true q]
        exact ⟨_, by decide +kernel, h10⟩
  refine aC_post (t_figures0 (d := e + 1) (lo := x) (hi := y) hfa hn n4 hp p4) (fun v M' hv => ?_) (fun _ _ z => z.elim)
  obtain ⟨hfr, w, rfl, hw⟩ := hv
  rcases hw with ⟨q, h1, h8, h9', b0, hb0, h10⟩ | ⟨h1, h9', ⟨q, hq, h8⟩, b0, hb0, h9b, h10⟩
  · obtain ⟨l1, l2, l3⟩ := t_num_lh h1
    have i8 := x_rng' (m := 400) (by decide) (show q ≤ 400 by omega) h8
    have i10 := x_rng' (m := 400) (by decide) (show b0 ≤ 400 by omega) h10
    have e9 : z_b (M'.1 36 0 9) = 2147483647 := by rw [h9']; exact z_b_m1
    have i9 : z_i (2147483647, 400 + 2147483648) (M'.1 36 0 9) := ⟨by show 2147483647 ≤ _; omega, by show _ ≤ 400 + 2147483648; omega⟩
    refine ⟨_, _, List.mem_cons_of_mem _ (List.mem_singleton.mpr rfl), ⟨Nat.le_trans hx.1 (z_b_le.mp l1), Nat.le_trans (z_b_le.mp l2) hy.2⟩, key hfr i8 i9 i10 (x_MG1 (k := 36) (j := 10) (by decide) rfl i10 (x_MG1 (k := 36) (j := 8) (by decide) rfl i8 (x_MG1 (k := 36) (j := 9) (by decide) rfl (x_eqI e9) h_MG0)))⟩
  · have i8 := x_rng' (m := 400) (by decide) (show q ≤ 400 by omega) h8
    have i10 := x_rng' (m := 400) (by decide) (show b0 ≤ 400 by omega) h10
    have i9 := x_rng' (m := 400) (by decide) (show b0 ≤ 400 by omega) h9b
    refine ⟨_, _, List.mem_cons_self, z_i_top w, key hfr i8 ⟨by have := i9.1; dsimp only at this ⊢; omega, i9.2⟩ i10 (x_MG1 (k := 36) (j := 10) (by decide) rfl i10 (x_MG1 (k := 36) (j := 8) (by decide) rfl i8 (x_MG1 (k := 36) (j := 9) (by decide) rfl i9 h_MG0)))⟩
