theorem aC_mk {nS d y : Nat} {as : List aV} {M : aM} {post : Option aV → aM → Prop} {px : Nat → aM → Prop} {nm : MethodName} {b : ByteArray} {nL : Nat} {rt : Option FieldType} {st : Bool} {ci na own : Nat} {ps : List Nat} {cd : List aE} (h : a_mt[y]? = some (nm, b, nL, rt, st, ci, na, own, ps, cd)) (hw : Nat.ble (a_ent as).length nL = true)
    (k : ∀ K : aK, (∀ pc L S M, a_wp d nS (fun y as M P => aC nS d y as M P (fun _ _ => False)) rt cd post px K pc L S M → K pc L S M) → (∀ pc L L' S M, a_le L' L → K pc L' S M → K pc L S M) → K 0 (a_pad nL (a_ent as)) [] M) : aC nS (d + 1) y as M post px := by
  unfold aC
  rw [h]
  exact ⟨hw, k⟩
theorem a_le_z : a_le [] [] := ⟨rfl, fun _ _ h => h⟩
theorem a_le_s {o : Option aV} {L' L : aL} (h : a_le L' L) : a_le (o :: L') (o :: L) := ⟨by simp [h.1], fun j v hj => by
  cases j with
  | zero => exact hj
  | succ j => simp only [List.getElem?_cons_succ] at hj ⊢; exact h.2 j v hj⟩
theorem a_le_n {o : Option aV} {L' L : aL} (h : a_le L' L) : a_le (none :: L') (o :: L) := ⟨by simp [h.1], fun j v hj => by
  cases j with
  | zero => simp at hj
  | succ j => simp only [List.getElem?_cons_succ] at hj ⊢; exact h.2 j v hj⟩
theorem v_up {a b : Int32} {n : Nat} (hm : 4294967296 - z_b a = n) (h : ¬ b ≤ a) : 4294967296 - z_b (a + 1) < n := by
  have h1 : z_b a < z_b b := by
    have h0 : ¬ z_b b ≤ z_b a := fun z => h (z_b_le.mpr z)
    omega
  have h2 := z_b_lt b
  have e1 : z_b 1 = 2147483649 := by decide +kernel
  have h3 := z_add (a := (z_b a, z_b a)) (b := (2147483649, 2147483649)) (x := a) (y := 1) (z_i_self a) (by rw [← e1]; exact z_i_self 1)
  have e2 : z_bin .iadd (z_b a, z_b a) (2147483649, 2147483649) = (z_b a + 2147483649 - 2147483648, z_b a + 2147483649 - 2147483648) := by
    unfold z_bin
    dsimp only
    rw [Nat.ble_eq_true_of_le (by omega), show Nat.blt (z_b a + 2147483649) 6442450944 = true from Nat.ble_eq_true_of_le (by omega)]
    rfl
  rw [e2] at h3
  obtain ⟨h4, h5⟩ := h3
  dsimp only at h4 h5
  omega
theorem v_dn {a : Int32} {n : Nat} (hm : z_b a = n) (h : ¬ a < 0) : z_b (a + (-1)) < n := by
  have h1 : 2147483648 ≤ z_b a := by
    have h0 : ¬ z_b a < 2147483648 := fun z => h (z_b_ltt.mpr (by rw [z_b0]; exact z))
    omega
  have h2 := z_b_lt a
  have e1 : z_b (-1) = 2147483647 := by decide +kernel
  have h3 := z_add (a := (z_b a, z_b a)) (b := (2147483647, 2147483647)) (x := a) (y := -1) (z_i_self a) (by rw [← e1]; exact z_i_self (-1))
  have e2 : z_bin .iadd (z_b a, z_b a) (2147483647, 2147483647) = (z_b a + 2147483647 - 2147483648, z_b a + 2147483647 - 2147483648) := by
    unfold z_bin
    dsimp only
    rw [Nat.ble_eq_true_of_le (by omega), show Nat.blt (z_b a + 2147483647) 6442450944 = true from Nat.ble_eq_true_of_le (by omega)]
    rfl
  rw [e2] at h3
  obtain ⟨h4, h5⟩ := h3
  dsimp only at h4 h5
  omega
theorem v_nz {b : Int32} (h : 1 ≤ b) : ¬ b = 0 := fun e => by rw [e] at h; exact absurd h (by decide)
theorem v_in {j : Int32} {n : Nat} (hn : n < 2147483648) (h0 : ¬ j < 0) (h1 : ¬ Int32.ofNat n ≤ j) : vp_in j n := by
  have g0 : 2147483648 ≤ z_b j := by
    have g : ¬ z_b j < 2147483648 := fun z => h0 (z_b_ltt.mpr (by rw [z_b0]; exact z))
    omega
  have g1 : z_b j < n + 2147483648 := by
    have g : ¬ n + 2147483648 ≤ z_b j := fun z => h1 (z_b_le.mpr (by rw [z_b_ofNat hn]; exact z))
    omega
  intro z
  rcases z with z | z
  · exact h0 z
  · rw [z_clamp g0] at z
    omega
theorem v_in' {j : Int32} {n : Nat} (hn : n < 2147483648) (h0 : 0 ≤ j) (h1 : ¬ Int32.ofNat n ≤ j) : vp_in j n := v_in hn (Int32.not_lt.mpr h0) h1
theorem w_ial {d nS : Nat} {cal : Nat → List aV → aM → (Option aV → aM → Prop) → Prop} {rt : Option FieldType} {post : Option aV → aM → Prop} {px : Nat → aM → Prop} {K : aK} {x y : Nat} {c : Int32} {t : List Nat} {nx : Nat} {L : aL} {r : List aV} {M : aM} {j : Int32} {k q n : Nat} (hk : a_shp k = some (.inr (false, n))) (h : vp_in j n ∧ K nx L (.inl (M.1 k q j.toNatClampNeg) :: r) M) : a_w1 d nS cal rt post px K .iaload x y c t nx L (.inl j :: .inr (.inr (k, q)) :: r) M := by
  unfold a_w1
  dsimp only
  rw [hk]
  exact h
theorem w_lal {d nS : Nat} {cal : Nat → List aV → aM → (Option aV → aM → Prop) → Prop} {rt : Option FieldType} {post : Option aV → aM → Prop} {px : Nat → aM → Prop} {K : aK} {x y : Nat} {c : Int32} {t : List Nat} {nx : Nat} {L : aL} {r : List aV} {M : aM} {j : Int32} {k q n : Nat} (hk : a_shp k = some (.inr (true, n))) (h : vp_in j n ∧ K nx L (vL (M.2 k q j.toNatClampNeg) :: r) M) : a_w1 d nS cal rt post px K .laload x y c t nx L (.inl j :: .inr (.inr (k, q)) :: r) M := by
  unfold a_w1
  dsimp only
  rw [hk]
  exact h
theorem w_ias {d nS : Nat} {cal : Nat → List aV → aM → (Option aV → aM → Prop) → Prop} {rt : Option FieldType} {post : Option aV → aM → Prop} {px : Nat → aM → Prop} {K : aK} {x y : Nat} {c : Int32} {t : List Nat} {nx : Nat} {L : aL} {r : List aV} {M : aM} {v j : Int32} {k q n : Nat} (hk : a_shp k = some (.inr (false, n))) (h : vp_in j n ∧ K nx L r (a_pI M k q j.toNatClampNeg v)) : a_w1 d nS cal rt post px K .iastore x y c t nx L (.inl v :: .inl j :: .inr (.inr (k, q)) :: r) M := by
  unfold a_w1
  dsimp only
  rw [hk]
  exact h
theorem w_las {d nS : Nat} {cal : Nat → List aV → aM → (Option aV → aM → Prop) → Prop} {rt : Option FieldType} {post : Option aV → aM → Prop} {px : Nat → aM → Prop} {K : aK} {x y : Nat} {c : Int32} {t : List Nat} {nx : Nat} {L : aL} {r : List aV} {M : aM} {v : Int64} {j : Int32} {k q n : Nat} (hk : a_shp k = some (.inr (true, n))) (h : vp_in j n ∧ K nx L r (a_pL M k q j.toNatClampNeg v)) : a_w1 d nS cal rt post px K .lastore x y c t nx L (vL v :: .inl j :: .inr (.inr (k, q)) :: r) M := by
  unfold a_w1
  dsimp only
  rw [hk]
  exact h
theorem w_len {d nS : Nat} {cal : Nat → List aV → aM → (Option aV → aM → Prop) → Prop} {rt : Option FieldType} {post : Option aV → aM → Prop} {px : Nat → aM → Prop} {K : aK} {x y : Nat} {c : Int32} {t : List Nat} {nx : Nat} {L : aL} {r : List aV} {M : aM} {k q n : Nat} {b : Bool} (hk : a_shp k = some (.inr (b, n))) (h : K nx L (.inl (Int32.ofNat n) :: r) M) : a_w1 d nS cal rt post px K .arraylength x y c t nx L (.inr (.inr (k, q)) :: r) M := by
  unfold a_w1
  dsimp only
  rw [hk]
  exact h
theorem hI_le {a b : Nat} (ha : a < 2147483648) (hb : b < 2147483648) : Int32.ofNat a ≤ Int32.ofNat b ↔ a ≤ b := by
  rw [z_b_le, z_b_ofNat ha, z_b_ofNat hb]
  omega
theorem hI_lt {a b : Nat} (ha : a < 2147483648) (hb : b < 2147483648) : Int32.ofNat a < Int32.ofNat b ↔ a < b := by
  rw [z_b_ltt, z_b_ofNat ha, z_b_ofNat hb]
  omega
theorem hI_cl {a : Nat} (ha : a < 2147483648) : (Int32.ofNat a).toNatClampNeg = a := by
  have h := z_b_ofNat ha
  rw [z_clamp (by omega), h]
  omega
theorem hI_ad {a b : Nat} : Int32.ofNat a + Int32.ofNat b = Int32.ofNat (a + b) := (Int32.ofNat_add a b).symm
theorem hI_s {a : Nat} : Int32.ofNat a + 1 = Int32.ofNat (a + 1) := hI_ad (b := 1)
theorem hI_of {x : Int32} (h : 0 ≤ x) : ∃ a : Nat, a < 2147483648 ∧ x = Int32.ofNat a := by
  have h0 := z_b_le.mp h
  rw [z_b0] at h0
  have h1 := z_b_lt x
  refine ⟨z_b x - 2147483648, by omega, z_b_inj ?_⟩
  rw [z_b_ofNat (by omega)]
  omega
/-! by hand: what the joined run can't tell -/
theorem h_MW {M M' : aM} (h : z_MW [] M M') : M' = M := by
  refine Prod.ext ?_ ?_
  · funext k i j
    exact (h k i j rfl).1
  · funext k i j
    exact (h k i j rfl).2
theorem h_MWr {W : zW} {M : aM} : z_MW W M M := fun _ _ _ _ => ⟨rfl, rfl⟩
theorem h_MG0 {M : aM} : z_MG [] M := fun e he => by cases he
theorem h_M0 {T : zT} {W : zW} {M : aM} (hT : z_MT (T, [], []) M) : z_M (T, W, []) M [] M := ⟨hT, h_MWr, h_MG0⟩
theorem h_ovI {u : zI} {v : Option aV} (h : z_ov (some (.inl u)) v) : ∃ x, v = some (vI x) ∧ z_i u x := by
  cases v with
  | none => exact False.elim h
  | some v =>
    rcases v with x | x | x
    · exact ⟨x, rfl, h⟩
    · exact False.elim h
    · exact False.elim h
theorem h_ovJ {u : Option Int64} {v : Option aV} (h : z_ov (some (.inr (.inl u))) v) : ∃ x, v = some (vL x) := by
  cases v with
  | none => exact False.elim h
  | some v =>
    rcases v with x | x | x
    · cases u <;> exact False.elim h
    · exact ⟨x, rfl⟩
    · cases u <;> exact False.elim h
theorem h_ovN {v : Option aV} (h : z_ov none v) : v = none := by
  cases v with
  | none => rfl
  | some v => exact False.elim h
theorem h_S0 {as : List aV} (h : z_S [] as) : as = [] := z_S_N h
theorem h_S1 {k i : Nat} {as : List aV} (hk : k ≠ 97) (h : z_S [.inr (.inr (k, i))] as) : as = [vR k i] := by
  obtain ⟨i', s, rfl, h1, h2⟩ := z_S_R h
  rw [z_S_N h2]
  rcases h1 with h1 | h1
  · exact absurd h1 hk
  · rw [h1]
theorem h_S2 {k i : Nat} {u : zI} {as : List aV} (hk : k ≠ 97) (h : z_S [.inr (.inr (k, i)), .inl u] as) : ∃ x, as = [vR k i, vI x] ∧ z_i u x := by
  obtain ⟨i', s, rfl, h1, h2⟩ := z_S_R h
  obtain ⟨x, s, rfl, h3, h4⟩ := z_S_I h2
  rw [z_S_N h4]
  rcases h1 with h1 | h1
  · exact absurd h1 hk
  · exact ⟨x, by rw [h1], h3⟩
theorem h_S3 {k i : Nat} {u w : zI} {as : List aV} (hk : k ≠ 97) (h : z_S [.inr (.inr (k, i)), .inl u, .inl w] as) : ∃ x y, as = [vR k i, vI x, vI y] ∧ z_i u x ∧ z_i w y := by
  obtain ⟨i', s, rfl, h1, h2⟩ := z_S_R h
  obtain ⟨x, s, rfl, h3, h4⟩ := z_S_I h2
  obtain ⟨y, s, rfl, h5, h6⟩ := z_S_I h4
  rw [z_S_N h6]
  rcases h1 with h1 | h1
  · exact absurd h1 hk
  · exact ⟨x, y, by rw [h1], h3, h5⟩
theorem h_R {k i : Nat} {r : List zV} {s : List aV} (h : z_S r s) : z_S (.inr (.inr (k, i)) :: r) (vR k i :: s) := ⟨⟨rfl, Or.inr rfl⟩, h⟩
theorem h_I {x : Int32} {r : List zV} {s : List aV} (h : z_S r s) : z_S (.inl (0, 4294967295) :: r) (vI x :: s) := ⟨z_i_top x, h⟩
theorem h_Iv {u : zI} {x : Int32} {r : List zV} {s : List aV} (hx : z_i u x) (h : z_S r s) : z_S (.inl u :: r) (vI x :: s) := ⟨hx, h⟩
theorem h_rk {d r : Nat} (h : r ≤ d) : ∃ e, d = e + r := ⟨d - r, by omega⟩
/-- a contract that writes nothing and answers a whole number -/
theorem h_pI {T : zT} {c : zCt} (hc : z_ctH T c) {u : zI} (h1 : c.2.2.1 = []) (h2 : c.2.2.2.1 = []) (h3 : c.2.2.2.2.1 = [.inl (some (.inl u), [])]) {nS d : Nat} {as : List aV} {M : aM} (hd : c.2.2.2.2.2 ≤ d) (hS : z_S c.2.1 as) (hT : z_MT (T, [], []) M) : aC nS d c.1 as M (fun v M' => (∃ x, v = some (vI x) ∧ z_i u x) ∧ M = M') (fun _ _ => False) := by
  refine aC_post (hc nS d as M hd hS hT (by rw [h1]; exact h_MG0)) (fun v M' hv => ?_) (fun x M' hx => ?_)
  · rw [h2, h3] at hv
    obtain ⟨v', g', h4, h5, h6⟩ := hv
    have h4 := List.mem_singleton.mp h4
    cases h4
    exact ⟨h_ovI h5, (h_MW h6.2.1).symm⟩
  · rw [h2, h3] at hx
    obtain ⟨g', h4, h6⟩ := hx
    have h4 := List.mem_singleton.mp h4
    cases h4
/-- a contract with one outcome -/
theorem h_pW {T : zT} {c : zCt} (hc : z_ctH T c) {o : Option zV} {g0 : zG} (h1 : c.2.2.1 = []) (h3 : c.2.2.2.2.1 = [.inl (o, g0)]) {nS d : Nat} {as : List aV} {M : aM} (hd : c.2.2.2.2.2 ≤ d) (hS : z_S c.2.1 as) (hT : z_MT (T, [], []) M) : aC nS d c.1 as M (fun v M' => z_ov o v ∧ z_M (T, c.2.2.2.1, []) M [] M') (fun _ _ => False) := by
  refine aC_post (hc nS d as M hd hS hT (by rw [h1]; exact h_MG0)) (fun v M' hv => ?_) (fun x M' hx => ?_)
  · rw [h3] at hv
    obtain ⟨v', g', h4, h5, h6⟩ := hv
    have h4 := List.mem_singleton.mp h4
    cases h4
    exact ⟨h5, h6.1, h6.2.1, h_MG0⟩
  · rw [h3] at hx
    obtain ⟨g', h4, h6⟩ := hx
    have h4 := List.mem_singleton.mp h4
    cases h4
theorem h_Mt {T : zT} {W V : zW} {M0 M M' : aM} (h : z_M (T, W, []) M0 [] M) (h2 : z_M (T, V, []) M [] M') (hV : z_WI W V = true) : z_M (T, W, []) M0 [] M' := by
  refine ⟨h2.1, fun k i j hn => ?_, h_MG0⟩
  have hn2 : z_w V k j j = false := by
    cases hq : z_w V k j j with
    | false => rfl
    | true => rw [z_WI_ok hV hq] at hn; cases hn
  obtain ⟨r1, r2⟩ := h.2.1 k i j hn
  obtain ⟨q1, q2⟩ := h2.2.1 k i j hn2
  exact ⟨q1.trans r1, q2.trans r2⟩
theorem h_Mp {T : zT} {W : zW} {M0 M : aM} {k i j : Nat} {v : zI} {x : Int32} (h : z_M (T, W, []) M0 [] M) (hw : z_wok (T, W, []) k i j j v = true) (hv : z_i v x) : z_M (T, W, []) M0 [] (a_pI M k i j x) := by
  have h2 := z_M_pI h hw (Nat.le_refl _) (Nat.le_refl _) hv
  exact ⟨h2.1, h2.2.1, h_MG0⟩
theorem h_pIs {M : aM} {k i j : Nat} {x : Int32} : (a_pI M k i j x).1 k i j = x := if_pos ⟨rfl, rfl, rfl⟩
theorem h_bo {x : Int32} (h : x = 0 ∨ x = 1) : z_i (2147483648, 2147483649) x := by
  rcases h with rfl | rfl
  · unfold z_i
    rw [z_b0]
    exact ⟨Nat.le_refl _, Nat.le_succ _⟩
  · unfold z_i
    rw [z_l1]
    exact ⟨Nat.le_succ _, Nat.le_refl _⟩
theorem h_MT {C : zC} {M0 M : aM} {g : zG} {T : zT} {W F : zW} (h : z_M (T, W, F) M0 g M) : z_MT (T, [], []) M := h.1
theorem w_sln {d nS : Nat} {cal : Nat → List aV → aM → (Option aV → aM → Prop) → Prop} {rt : Option FieldType} {cd : List aE} {post : Option aV → aM → Prop} {px : Nat → aM → Prop} {K : aK} {pc ix y : Nat} {c : Int32} {t : List Nat} {nx : Nat} {L : aL} {r : List aV} {M : aM} {k q : Nat} {bs : List Nat} (hf : a_fnd cd pc = some (.invokevirtual ix, 900, y, c, t, nx)) (hk : a_stx k = some bs) (h : (Nat.ble 6 d && Nat.ble (a_wid r) 8) = true ∧ K nx L (.inl (Int32.ofNat bs.length) :: r) M) : a_wp d nS cal rt cd post px K pc L (.inr (.inr (k, q)) :: r) M := by
  unfold a_wp
  rw [hf]
  show (match a_stx k with
    | some bs => (Nat.ble 6 d && Nat.ble (a_wid r) 8) = true ∧ K nx L (.inl (Int32.ofNat bs.length) :: r) M
    | none => False)
  rw [hk]
  exact h
theorem w_sch {d nS : Nat} {cal : Nat → List aV → aM → (Option aV → aM → Prop) → Prop} {rt : Option FieldType} {cd : List aE} {post : Option aV → aM → Prop} {px : Nat → aM → Prop} {K : aK} {pc ix y : Nat} {c : Int32} {t : List Nat} {nx : Nat} {L : aL} {r : List aV} {M : aM} {j : Int32} {k q : Nat} {bs : List Nat} (hf : a_fnd cd pc = some (.invokevirtual ix, 901, y, c, t, nx)) (hk : a_stx k = some bs) (h : (Nat.ble 6 d && Nat.ble (a_wid r) 8) = true ∧ vp_in j bs.length ∧ K nx L (.inl (Int32.ofNat (bs.getD j.toNatClampNeg 0)) :: r) M) : a_wp d nS cal rt cd post px K pc L (.inl j :: .inr (.inr (k, q)) :: r) M := by
  unfold a_wp
  rw [hf]
  show (match a_stx k with
    | some bs => (Nat.ble 6 d && Nat.ble (a_wid r) 8) = true ∧ vp_in j bs.length ∧ K nx L (.inl (Int32.ofNat (bs.getD j.toNatClampNeg 0)) :: r) M
    | none => False)
  rw [hk]
  exact h
theorem b_6 {d n : Nat} (h : Nat.ble n 8 = true) : (Nat.ble 6 (d + 7) && Nat.ble n 8) = true := by
  rw [h, Nat.ble_eq_true_of_le (show 6 ≤ d + 7 by omega)]
  rfl
/-- a contract with two outcomes -/
theorem h_p2 {T : zT} {c : zCt} (hc : z_ctH T c) {u w : zI} {g1 g2 : zG} (h3 : c.2.2.2.2.1 = [.inl (some (.inl u), g1), .inl (some (.inl w), g2)]) {nS d : Nat} {as : List aV} {M : aM} (hd : c.2.2.2.2.2 ≤ d) (hS : z_S c.2.1 as) (hT : z_MT (T, [], []) M) (hG : z_MG c.2.2.1 M) : aC nS d c.1 as M (fun v M' => ∃ x, v = some (vI x) ∧ (z_i u x ∧ z_M (T, c.2.2.2.1, []) M g1 M' ∨ z_i w x ∧ z_M (T, c.2.2.2.1, []) M g2 M')) (fun _ _ => False) := by
  refine aC_post (hc nS d as M hd hS hT hG) (fun v M' hv => ?_) (fun x M' hx => ?_)
  · rw [h3] at hv
    obtain ⟨v', g', h4, h5, h6⟩ := hv
    rcases List.mem_cons.mp h4 with h4 | h4
    · cases h4
      obtain ⟨x, rfl, hx⟩ := h_ovI h5
      exact ⟨x, rfl, Or.inl ⟨hx, h6⟩⟩
    · have h4 := List.mem_singleton.mp h4
      cases h4
      obtain ⟨x, rfl, hx⟩ := h_ovI h5
      exact ⟨x, rfl, Or.inr ⟨hx, h6⟩⟩
  · rw [h3] at hx
    obtain ⟨g', h4, h6⟩ := hx
    rcases List.mem_cons.mp h4 with h4 | h4
    · cases h4
    · have h4 := List.mem_singleton.mp h4
      cases h4
theorem h_Md {C : zC} {M0 M : aM} {g : zG} (h : z_M C M0 g M) : z_M C M0 [] M := ⟨h.1, h.2.1, h_MG0⟩
/-- what is told of a cell -/
theorem h_Mc {C : zC} {M0 M : aM} {g : zG} {n k j : Nat} {v : zI} (h : z_M C M0 g M) (hm : (n, v) ∈ g) (h2 : j < 4096) (h3 : z_ky k 0 j = n) : z_i v (M.1 k 0 j) := h.2.2 _ hm k 0 j (by decide) h2 h3
theorem h_TR {T : zT} {M : aM} {k i j : Nat} (hT : z_MT (T, [], []) M) : z_i (z_tRi T k i j j) (M.1 k i j) := z_tRi_ok (Nat.le_refl _) (Nat.le_refl _) hT
