def a_adOK (ad : Nat → Nat → Nat) : Prop := (∀ i, ad 99 i = ad 99 0) ∧ (∀ k i : Nat, 100 ≤ k → ad k i = ad k 0) ∧ ∀ i, ad 97 i = i
theorem a_stx_at {k : Nat} {bs : List Nat} (h : a_stx k = some bs) : ∃ (t : Nat) (q : Nat × Nat × List Nat), k = 100 + t ∧ a_stL[t]? = some q ∧ q.2.2 = bs := by
  unfold a_stx at h
  cases hb : Nat.blt k 100 with
  | true => rw [hb] at h; cases h
  | false =>
    rw [hb] at h
    simp only [cond_false] at h
    cases hq : a_stL[k - 100]? with
    | none => rw [hq] at h; cases h
    | some q =>
      rw [hq] at h
      refine ⟨k - 100, q, ?_, hq, by simpa using h⟩
      have : ¬ k < 100 := fun z => by
        have h9 : Nat.blt k 100 = true := by
          unfold Nat.blt
          exact Nat.ble_eq_true_of_le z
        rw [h9] at hb; cases hb
      omega
set_option maxHeartbeats 1000000 in
theorem a_RuX {l : Launch} {D : va_G} {cA cL : ClassId} {ad : Nat → Nat → Nat} {adV : Nat → Nat} {lv : List (Nat × Nat)} {nS : Nat} {xs : Nat → Int32} (hO1 : a_adOK ad) : a_RuAll l D cA cL ad lv nS xs (a_X ad adV nS xs) := by
  intro p e R s m args below meth c nL kc ks b own d rt Q Cx hR hCr
  obtain ⟨hx, hb, hr, hml, hown, hts, hlocks, hK, hDall, hinj, hclo, hXs⟩ := Cx
  have hXs' := hXs
  obtain ⟨⟨hscr, hscl, hscA⟩, hstr, hcs, hfm, -, -⟩ := hXs
  refine ⟨⟨hscr, hscl, hscA, hO1.1⟩, ?_, ?_, ?_, fun pc ik is ic x H locs ls M _ _ _ _ _ h => False.elim h⟩
  · intro x o ix bs hx9 h ho
    obtain ⟨tx, h1⟩ := (hstr _ _ h).1
    rw [show 100 + (x - 100) = x by omega] at h1
    subst ho
    exact ⟨tx, h1⟩
  · intro pc ix k i bs H locs ls rest hst hd hlk h6 hS hls hw kk
    obtain ⟨t, q, rfl, hq, rfl⟩ := a_stx_at hst
    obtain ⟨-, hO, hC, hV, hT⟩ := hstr t q hq
    rw [hO1.2.1 (100 + t) i (by omega)]
    have cw : CallW R s args (a_cls own) "java/lang/String" ix yJ0_length_8abf5 cJ0_length_8abf5 1 (some .int) (Cond.code yJ0_length_8abf5 cJ0_length_8abf5 1 (some .int) :: a_tbl) (a_rm 1 0) 0 0 0 :=
      ⟨⟨rfl, rfl, by show 1 + 1 ≤ R.frames; omega, by show 8 + (1 + 11) + 64 * 1 ≤ R.locals; omega, a_tbl_hts hts jc_J0_length_8abf5, List.mem_cons_self, hts _ jc_J0_length_8abf5, hts _ ji_J0_length_8abf5, ⟨by decide +kernel, by decide +kernel⟩, fun sig hsig => by have h9 := jp_J0_length_8abf5; rw [hsig] at h9; exact (Option.some.inj h9).symm, hts _ hlk⟩, hts _ jn_J0_length_8abf5, hts _ jl_J0_length_8abf5⟩
    refine s_after (aa := #[]) (va_runV (C := "java/lang/String") (As := []) (rest := rest) ⟨hx, hb, hml, hown, hts⟩ (s_len (l := l) (ad := ad) (adV := adV) (lv := lv) (nS := nS) (xs := xs) (sz := H.size) hq) cw ⟨s_blind a_Xok, by obtain ⟨cell, z1, z2, z3, -⟩ := hO.kept hS.2.1; exact ⟨cell, z1, z2, z3⟩, s_at a_Xok hXs' hS⟩ rfl rfl hls rfl (lv_room hw) hd hCr) (fun v hv => ?_)
    subst hv
    exact kk
  · intro pc ix k i j bs H locs ls rest hst hd hlk h6 hS hls hw hj kk
    obtain ⟨t, q, rfl, hq, rfl⟩ := a_stx_at hst
    obtain ⟨-, hO, hC, hV, hT⟩ := hstr t q hq
    rw [hO1.2.1 (100 + t) i (by omega)]
    have cw : CallW R s args (a_cls own) "java/lang/String" ix yJ0_charAt_5068e cJ0_charAt_5068e 2 (some .char) (Cond.code yJ0_charAt_5068e cJ0_charAt_5068e 2 (some .char) :: a_tbl) (a_rm 3 0) 0 0 1 :=
      ⟨⟨rfl, rfl, by show 3 + 1 ≤ R.frames; omega, by show 8 + (2 + 11) + 64 * 3 ≤ R.locals; omega, a_tbl_hts hts jc_J0_charAt_5068e, List.mem_cons_self, hts _ jc_J0_charAt_5068e, hts _ ji_J0_charAt_5068e, ⟨by decide +kernel, by decide +kernel⟩, fun sig hsig => by have h9 := jp_J0_charAt_5068e; rw [hsig] at h9; exact (Option.some.inj h9).symm, hts _ hlk⟩, hts _ jn_J0_charAt_5068e, hts _ jl_J0_charAt_5068e⟩
    refine s_after (aa := #[]) (va_runV (C := "java/lang/String") (As := [.int j]) (rest := rest) ⟨hx, hb, hml, hown, hts⟩ (s_chr (l := l) (ad := ad) (adV := adV) (lv := lv) (nS := nS) (xs := xs) (sz := H.size) hq hj) cw ⟨s_blind a_Xok, by obtain ⟨cell, z1, z2, z3, -⟩ := hO.kept hS.2.1; exact ⟨cell, z1, z2, z3⟩, s_at a_Xok hXs' hS⟩ rfl rfl hls rfl (lv_room hw) hd hCr) (fun v hv => ?_)
    subst hv
    exact kk
