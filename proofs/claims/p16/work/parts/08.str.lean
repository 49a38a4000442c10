/-! the rest of the world: the script, String constants, three statics -/
def a_Xs (ad : Nat → Nat → Nat) (adV : Nat → Nat) (nS : Nat) (xs : Nat → Int32) (A : Nat → Prop) (U : State) (H : Heap) : Prop :=
  (va_X (ad 99 0) nS xs U H ∧ ad 99 0 < H.size ∧ ¬ A (ad 99 0)) ∧
  (∀ (t : Nat) (q : Nat × Nat × List Nat), a_stL[t]? = some q → (∃ tx, vk_R (a_cls q.1) q.2.1 tx (ad (100 + t) 0) U) ∧ va_O "java/lang/String" (ad (100 + t) 0) A U H ∧ va_OF "java/lang/String" "coder" "B" (.int 0) (ad (100 + t) 0) A U H ∧ va_OF "java/lang/String" "value" "[B" (.ref (adV t)) (ad (100 + t) 0) A U H ∧ va_T .byte (adV t) q.2.2.length (fun j => .int (Int32.ofNat (q.2.2.getD j 0))) A U H) ∧
  va_Z "java/lang/String" "COMPACT_STRINGS" "Z" (.int 1) A U H ∧ va_Zq "jdk/internal/util/Preconditions" "SIOOBE_FORMATTER" "Ljava/util/function/BiFunction;" A U H ∧
  (vx_Zq Bundle.tN "UNASSIGNED_STACK" Bundle.steD A U H ∧ vx_Zq Bundle.tN "SUPPRESSED_SENTINEL" Bundle.listD A U H) ∧ (∀ q ∈ a_thT, ∃ (tx : String) (a : Nat), vk_R (a_cls q.1) q.2.2.1 tx a U) ∧ a_exX U ∧ a_ncX U
def a_X (ad : Nat → Nat → Nat) (adV : Nat → Nat) (nS : Nat) (xs : Nat → Int32) (A : Nat → Prop) (U : State) : Prop := a_Xs ad adV nS xs A U U.heap
theorem a_Xok {ad : Nat → Nat → Nat} {adV : Nat → Nat} {nS : Nat} {xs : Nat → Int32} : a_XOK (a_X ad adV nS xs) := by
  refine ⟨fun A U g mk a h => ?_, fun A B s U h hBA hsz hk hW => ?_⟩
  · obtain ⟨⟨h1, h2, h3⟩, h4, h5, h6, ⟨h7, h8⟩, h9, h10, h11⟩ := h
    have hv : U.vm.Alike (U.calling g mk a).vm := Vm.Alike.refl U.vm
    refine ⟨⟨h1.moved hv, h2, h3⟩, fun t q hq => ?_, h5.moved hv, h6.moved hv, ⟨h7.moved hv, h8.moved hv⟩, fun q hq => by obtain ⟨tx, a, z⟩ := h9 q hq; exact ⟨tx, a, z.same rfl⟩, h10.warm (State.WarmedH.refl U), fun q hq => va_Nc.moved hv (h11 q hq)⟩
    obtain ⟨⟨tx, g1⟩, g2, g3, g4, g5⟩ := h4 t q hq
    exact ⟨⟨tx, g1.same rfl⟩, va_O.moved hv g2, va_OF.moved hv g3, va_OF.moved hv g4, va_T.moved hv g5⟩
  · obtain ⟨⟨h1, h2, h3⟩, h4, h5, h6, ⟨h7, h8⟩, h9, h10, h11⟩ := h
    have hv := hW.alike
    refine ⟨⟨(h1.kept (hk _ h2 h3)).moved hv, Nat.lt_of_lt_of_le h2 hsz, fun z => h3 (hBA _ z)⟩, fun t q hq => ?_, ((h5.kept hk).moved hv).narrow hBA, ((h6.kept hk).moved hv).narrow hBA, ⟨((h7.kept hk).moved hv).narrow hBA, ((h8.kept hk).moved hv).narrow hBA⟩, fun q hq => by obtain ⟨tx, a, z⟩ := h9 q hq; exact ⟨tx, a, z.warm hW⟩, h10.warm hW, fun q hq => va_Nc.moved hv (h11 q hq)⟩
    obtain ⟨⟨tx, g1⟩, g2, g3, g4, g5⟩ := h4 t q hq
    exact ⟨⟨tx, g1.warm hW⟩, (va_O.moved hv (g2.kept hk)).narrow hBA, (va_OF.moved hv (g3.kept hk)).narrow hBA, (va_OF.moved hv (g4.kept hk)).narrow hBA, (va_T.moved hv (g5.kept hk)).narrow hBA⟩
def s_Pc (X : (Nat → Prop) → State → Prop) (ad : Nat → Nat → Nat) (lv : List (Nat × Nat)) (sz : Nat) (av : List Value) : Array Value → State → Prop := va_Pc av (fun U => U.heap.size = sz ∧ X (a_A ad lv sz) U)
theorem s_blind {X : (Nat → Prop) → State → Prop} (hX : a_XOK X) {ad : Nat → Nat → Nat} {lv : List (Nat × Nat)} {sz : Nat} {av : List Value} : FrameBlind (s_Pc X ad lv sz av) := by
  intro a U g mk ⟨e1, q1, q2⟩
  exact ⟨e1, q1, hX.1 _ _ _ _ _ q2⟩
theorem s_at {X : (Nat → Prop) → State → Prop} (hX : a_XOK X) {ad : Nat → Nat → Nat} {lv : List (Nat × Nat)} {s : State} {H : Heap} {locs : List Loc} (h : X (a_A ad lv s.heap.size) s) (hS : va_S (a_A ad lv s.heap.size) s.heap H locs) {av : List Value} (U : State) (hU : U.heap = H) (hW : s.WarmedH U.vm) : s_Pc X ad lv H.size av av.toArray U := by
  refine ⟨rfl, by rw [hU], hX.2 (a_A ad lv s.heap.size) (a_A ad lv H.size) s U h (fun q hq => ?_) (by rw [hU]; exact hS.1) (fun q h1 h2 => by rw [hU]; exact hS.2.1 q h1 h2) hW⟩
  rcases hq with hq | hq
  · exact Or.inl hq
  · exact Or.inr (Nat.le_trans hS.1 hq)
/-- behind a call that changes nothing -/
theorem s_after {kc ks : Nat} {p : Program} {l : Launch} {e : Env} {R : Room} {s : State} {m : MethodId} {args : Array Value} {below : List Frame} {meth : Method} {c : Code} {Q : State → Prop} {pc : Nat} {rest st0 : List Value} {H : Heap} {locs : List Loc} {ls : Array Slot} {aa : Array Value} {P : Option Value → Prop}
    (hrun : va_Run p l e R s m args below meth c H locs kc ks 0 0 (F0 m pc ls st0) rest ((fun _ st oc t => ∃ v : Option Value, oc = .returned v ∧ P v ∧ t.heap = st.heap : Array Value → State → Outcome → State → Prop) aa) (fun _ => False))
    (hk : ∀ v, P v → W p l e R s m args below meth c H locs kc ks Q (F0 m (pc + 3) ls (v.toList ++ rest))) : W p l e R s m args below meth c H locs kc ks Q (F0 m pc ls st0) := by
  intro T hT XX
  obtain ⟨v, st₀, t, T', Lx, h0, X', hL, e1, e2, ⟨v0, hv, hp, hh⟩, st⟩ := hrun T hT XX
  have hv : v = v0 := by injection hv
  subst hv
  have hLx : Lx = [] := by
    cases Lx with
    | nil => rfl
    | cons a r => exact False.elim (hL a List.mem_cons_self)
  subst hLx
  rw [List.append_nil] at X'
  obtain ⟨t2, a1, b1⟩ := hk v hp T' (by rw [e1, hh, h0]) X'
  exact ⟨t2, st t2 a1, b1⟩
abbrev s_Qc (P : Option Value → Prop) : Array Value → State → Outcome → State → Prop := fun _ st oc t => ∃ v : Option Value, oc = .returned v ∧ P v ∧ t.heap = st.heap
theorem dJ0_length_8abf5_0 : decode cJ0_length_8abf5 0 = .ok (.aload_n 0, 1) := by decide +kernel
theorem dJ0_length_8abf5_1 : decode cJ0_length_8abf5 1 = .ok (.getfield 9, 3) := by decide +kernel
theorem dJ0_length_8abf5_4 : decode cJ0_length_8abf5 4 = .ok (.arraylength, 1) := by decide +kernel
theorem dJ0_length_8abf5_5 : decode cJ0_length_8abf5 5 = .ok (.aload_n 0, 1) := by decide +kernel
theorem dJ0_length_8abf5_6 : decode cJ0_length_8abf5 6 = .ok (.invokevirtual 335, 3) := by decide +kernel
theorem dJ0_length_8abf5_9 : decode cJ0_length_8abf5 9 = .ok (.ishr, 1) := by decide +kernel
theorem dJ0_length_8abf5_10 : decode cJ0_length_8abf5 10 = .ok (.ireturn, 1) := by decide +kernel
theorem jc_J0_length_8abf5 : Cond.code yJ0_length_8abf5 cJ0_length_8abf5 1 (some .int) ∈ a_tbl := a_w_in (p := 820) (by decide +kernel)
theorem ji_J0_length_8abf5 : Cond.initialized yJ0_length_8abf5.cls ∈ a_tbl := a_w_in (p := 103) (by decide +kernel)
theorem jn_J0_length_8abf5 : Cond.instanceMethod yJ0_length_8abf5 ∈ a_tbl := a_w_in (p := 818) (by decide +kernel)
theorem jl_J0_length_8abf5 : Cond.selects yJ0_length_8abf5.cls yJ0_length_8abf5 yJ0_length_8abf5 ∈ a_tbl := a_w_in (p := 819) (by decide +kernel)
theorem jp_J0_length_8abf5 : (parseMethodDescriptor yJ0_length_8abf5.desc).map (fun d => d.parameters.length) = some 0 := by decide +kernel
theorem dJ0_charAt_5068e_0 : decode cJ0_charAt_5068e 0 = .ok (.aload_n 0, 1) := by decide +kernel
theorem dJ0_charAt_5068e_1 : decode cJ0_charAt_5068e 1 = .ok (.invokevirtual 492, 3) := by decide +kernel
theorem dJ0_charAt_5068e_4 : decode cJ0_charAt_5068e 4 = .ok (.ifCond .eq 12, 3) := by decide +kernel
theorem dJ0_charAt_5068e_7 : decode cJ0_charAt_5068e 7 = .ok (.aload_n 0, 1) := by decide +kernel
theorem dJ0_charAt_5068e_8 : decode cJ0_charAt_5068e 8 = .ok (.getfield 9, 3) := by decide +kernel
theorem dJ0_charAt_5068e_11 : decode cJ0_charAt_5068e 11 = .ok (.iload_n 1, 1) := by decide +kernel
theorem dJ0_charAt_5068e_12 : decode cJ0_charAt_5068e 12 = .ok (.invokestatic 495, 3) := by decide +kernel
theorem dJ0_charAt_5068e_15 : decode cJ0_charAt_5068e 15 = .ok (.ireturn, 1) := by decide +kernel
theorem jc_J0_charAt_5068e : Cond.code yJ0_charAt_5068e cJ0_charAt_5068e 2 (some .char) ∈ a_tbl := a_w_in (p := 830) (by decide +kernel)
theorem ji_J0_charAt_5068e : Cond.initialized yJ0_charAt_5068e.cls ∈ a_tbl := a_w_in (p := 103) (by decide +kernel)
theorem jn_J0_charAt_5068e : Cond.instanceMethod yJ0_charAt_5068e ∈ a_tbl := a_w_in (p := 828) (by decide +kernel)
theorem jl_J0_charAt_5068e : Cond.selects yJ0_charAt_5068e.cls yJ0_charAt_5068e yJ0_charAt_5068e ∈ a_tbl := a_w_in (p := 829) (by decide +kernel)
theorem jp_J0_charAt_5068e : (parseMethodDescriptor yJ0_charAt_5068e.desc).map (fun d => d.parameters.length) = some 1 := by decide +kernel
theorem dJ0_coder_7d493_0 : decode cJ0_coder_7d493 0 = .ok (.getstatic 38, 3) := by decide +kernel
theorem dJ0_coder_7d493_3 : decode cJ0_coder_7d493 3 = .ok (.ifCond .eq 10, 3) := by decide +kernel
theorem dJ0_coder_7d493_6 : decode cJ0_coder_7d493 6 = .ok (.aload_n 0, 1) := by decide +kernel
theorem dJ0_coder_7d493_7 : decode cJ0_coder_7d493 7 = .ok (.getfield 15, 3) := by decide +kernel
theorem dJ0_coder_7d493_10 : decode cJ0_coder_7d493 10 = .ok (.goto 4, 3) := by decide +kernel
theorem dJ0_coder_7d493_14 : decode cJ0_coder_7d493 14 = .ok (.ireturn, 1) := by decide +kernel
theorem jc_J0_coder_7d493 : Cond.code yJ0_coder_7d493 cJ0_coder_7d493 1 (some .byte) ∈ a_tbl := a_w_in (p := 824) (by decide +kernel)
theorem ji_J0_coder_7d493 : Cond.initialized yJ0_coder_7d493.cls ∈ a_tbl := a_w_in (p := 103) (by decide +kernel)
theorem jn_J0_coder_7d493 : Cond.instanceMethod yJ0_coder_7d493 ∈ a_tbl := a_w_in (p := 822) (by decide +kernel)
theorem jl_J0_coder_7d493 : Cond.selects yJ0_coder_7d493.cls yJ0_coder_7d493 yJ0_coder_7d493 ∈ a_tbl := a_w_in (p := 823) (by decide +kernel)
theorem jp_J0_coder_7d493 : (parseMethodDescriptor yJ0_coder_7d493.desc).map (fun d => d.parameters.length) = some 0 := by decide +kernel
theorem dJ0_isLatin1_aae02_0 : decode cJ0_isLatin1_aae02 0 = .ok (.getstatic 38, 3) := by decide +kernel
theorem dJ0_isLatin1_aae02_3 : decode cJ0_isLatin1_aae02 3 = .ok (.ifCond .eq 14, 3) := by decide +kernel
theorem dJ0_isLatin1_aae02_6 : decode cJ0_isLatin1_aae02 6 = .ok (.aload_n 0, 1) := by decide +kernel
theorem dJ0_isLatin1_aae02_7 : decode cJ0_isLatin1_aae02 7 = .ok (.getfield 15, 3) := by decide +kernel
theorem dJ0_isLatin1_aae02_10 : decode cJ0_isLatin1_aae02 10 = .ok (.ifCond .ne 7, 3) := by decide +kernel
theorem dJ0_isLatin1_aae02_13 : decode cJ0_isLatin1_aae02 13 = .ok (.iconst 1, 1) := by decide +kernel
theorem dJ0_isLatin1_aae02_14 : decode cJ0_isLatin1_aae02 14 = .ok (.goto 4, 3) := by decide +kernel
theorem dJ0_isLatin1_aae02_18 : decode cJ0_isLatin1_aae02 18 = .ok (.ireturn, 1) := by decide +kernel
theorem jc_J0_isLatin1_aae02 : Cond.code yJ0_isLatin1_aae02 cJ0_isLatin1_aae02 1 (some .boolean) ∈ a_tbl := a_w_in (p := 834) (by decide +kernel)
theorem ji_J0_isLatin1_aae02 : Cond.initialized yJ0_isLatin1_aae02.cls ∈ a_tbl := a_w_in (p := 103) (by decide +kernel)
theorem jn_J0_isLatin1_aae02 : Cond.instanceMethod yJ0_isLatin1_aae02 ∈ a_tbl := a_w_in (p := 832) (by decide +kernel)
theorem jl_J0_isLatin1_aae02 : Cond.selects yJ0_isLatin1_aae02.cls yJ0_isLatin1_aae02 yJ0_isLatin1_aae02 ∈ a_tbl := a_w_in (p := 833) (by decide +kernel)
theorem jp_J0_isLatin1_aae02 : (parseMethodDescriptor yJ0_isLatin1_aae02.desc).map (fun d => d.parameters.length) = some 0 := by decide +kernel
theorem dJ0_checkIndex_df160_0 : decode cJ0_checkIndex_df160 0 = .ok (.iload_n 0, 1) := by decide +kernel
theorem dJ0_checkIndex_df160_1 : decode cJ0_checkIndex_df160 1 = .ok (.iload_n 1, 1) := by decide +kernel
theorem dJ0_checkIndex_df160_2 : decode cJ0_checkIndex_df160 2 = .ok (.getstatic 1053, 3) := by decide +kernel
theorem dJ0_checkIndex_df160_5 : decode cJ0_checkIndex_df160 5 = .ok (.invokestatic 1059, 3) := by decide +kernel
theorem dJ0_checkIndex_df160_8 : decode cJ0_checkIndex_df160 8 = .ok (.pop, 1) := by decide +kernel
theorem dJ0_checkIndex_df160_9 : decode cJ0_checkIndex_df160 9 = .ok (.return_, 1) := by decide +kernel
theorem jc_J0_checkIndex_df160 : Cond.code yJ0_checkIndex_df160 cJ0_checkIndex_df160 2 none ∈ a_tbl := a_w_in (p := 840) (by decide +kernel)
theorem ji_J0_checkIndex_df160 : Cond.initialized yJ0_checkIndex_df160.cls ∈ a_tbl := a_w_in (p := 103) (by decide +kernel)
theorem js_J0_checkIndex_df160 : Cond.static yJ0_checkIndex_df160 ∈ a_tbl := a_w_in (p := 839) (by decide +kernel)
theorem jp_J0_checkIndex_df160 : (parseMethodDescriptor yJ0_checkIndex_df160.desc).map (fun d => d.parameters.length) = some 2 := by decide +kernel
theorem dJ1_charAt_3b067_0 : decode cJ1_charAt_3b067 0 = .ok (.iload_n 1, 1) := by decide +kernel
theorem dJ1_charAt_3b067_1 : decode cJ1_charAt_3b067 1 = .ok (.aload_n 0, 1) := by decide +kernel
theorem dJ1_charAt_3b067_2 : decode cJ1_charAt_3b067 2 = .ok (.arraylength, 1) := by decide +kernel
theorem dJ1_charAt_3b067_3 : decode cJ1_charAt_3b067 3 = .ok (.invokestatic 9, 3) := by decide +kernel
theorem dJ1_charAt_3b067_6 : decode cJ1_charAt_3b067 6 = .ok (.aload_n 0, 1) := by decide +kernel
theorem dJ1_charAt_3b067_7 : decode cJ1_charAt_3b067 7 = .ok (.iload_n 1, 1) := by decide +kernel
theorem dJ1_charAt_3b067_8 : decode cJ1_charAt_3b067 8 = .ok (.baload, 1) := by decide +kernel
theorem dJ1_charAt_3b067_9 : decode cJ1_charAt_3b067 9 = .ok (.sipush 255, 3) := by decide +kernel
theorem dJ1_charAt_3b067_12 : decode cJ1_charAt_3b067 12 = .ok (.iand, 1) := by decide +kernel
theorem dJ1_charAt_3b067_13 : decode cJ1_charAt_3b067 13 = .ok (.i2c, 1) := by decide +kernel
theorem dJ1_charAt_3b067_14 : decode cJ1_charAt_3b067 14 = .ok (.ireturn, 1) := by decide +kernel
theorem jc_J1_charAt_3b067 : Cond.code yJ1_charAt_3b067 cJ1_charAt_3b067 2 (some .char) ∈ a_tbl := a_w_in (p := 837) (by decide +kernel)
theorem ji_J1_charAt_3b067 : Cond.initialized yJ1_charAt_3b067.cls ∈ a_tbl := a_w_in (p := 104) (by decide +kernel)
theorem js_J1_charAt_3b067 : Cond.static yJ1_charAt_3b067 ∈ a_tbl := a_w_in (p := 836) (by decide +kernel)
theorem jp_J1_charAt_3b067 : (parseMethodDescriptor yJ1_charAt_3b067.desc).map (fun d => d.parameters.length) = some 2 := by decide +kernel
theorem dJ3_checkIndex_8e157_0 : decode cJ3_checkIndex_8e157 0 = .ok (.iload_n 0, 1) := by decide +kernel
theorem dJ3_checkIndex_8e157_1 : decode cJ3_checkIndex_8e157 1 = .ok (.ifCond .lt 8, 3) := by decide +kernel
theorem dJ3_checkIndex_8e157_4 : decode cJ3_checkIndex_8e157 4 = .ok (.iload_n 0, 1) := by decide +kernel
theorem dJ3_checkIndex_8e157_5 : decode cJ3_checkIndex_8e157 5 = .ok (.iload_n 1, 1) := by decide +kernel
theorem dJ3_checkIndex_8e157_6 : decode cJ3_checkIndex_8e157 6 = .ok (.if_icmp .lt 10, 3) := by decide +kernel
theorem dJ3_checkIndex_8e157_16 : decode cJ3_checkIndex_8e157 16 = .ok (.iload_n 0, 1) := by decide +kernel
theorem dJ3_checkIndex_8e157_17 : decode cJ3_checkIndex_8e157 17 = .ok (.ireturn, 1) := by decide +kernel
theorem jc_J3_checkIndex_8e157 : Cond.code yJ3_checkIndex_8e157 cJ3_checkIndex_8e157 3 (some .int) ∈ a_tbl := a_w_in (p := 845) (by decide +kernel)
theorem ji_J3_checkIndex_8e157 : Cond.initialized yJ3_checkIndex_8e157.cls ∈ a_tbl := a_w_in (p := 105) (by decide +kernel)
theorem js_J3_checkIndex_8e157 : Cond.static yJ3_checkIndex_8e157 ∈ a_tbl := a_w_in (p := 844) (by decide +kernel)
theorem jp_J3_checkIndex_8e157 : (parseMethodDescriptor yJ3_checkIndex_8e157.desc).map (fun d => d.parameters.length) = some 3 := by decide +kernel
theorem jf_value : Cond.fieldLink "java/lang/String" 9 "java/lang/String" "value" "[B" ∈ a_tbl := a_w_in (p := 1901) (by decide +kernel)
theorem jf_cs : Cond.fieldLink "java/lang/String" 38 "java/lang/String" "COMPACT_STRINGS" "Z" ∈ a_tbl := a_w_in (p := 825) (by decide +kernel)
theorem jf_coder : Cond.fieldLink "java/lang/String" 15 "java/lang/String" "coder" "B" ∈ a_tbl := a_w_in (p := 1902) (by decide +kernel)
theorem jf_fmt : Cond.fieldLink "java/lang/String" 1053 "jdk/internal/util/Preconditions" "SIOOBE_FORMATTER" "Ljava/util/function/BiFunction;" ∈ a_tbl := a_w_in (p := 841) (by decide +kernel)
theorem jm_coder : Cond.methodLink "java/lang/String" 335 yJ0_coder_7d493 ∈ a_tbl := a_w_in (p := 821) (by decide +kernel)
theorem jm_lat : Cond.methodLink "java/lang/String" 492 yJ0_isLatin1_aae02 ∈ a_tbl := a_w_in (p := 831) (by decide +kernel)
theorem jm_ch : Cond.methodLink "java/lang/String" 495 yJ1_charAt_3b067 ∈ a_tbl := a_w_in (p := 835) (by decide +kernel)
theorem jm_ci : Cond.methodLink "java/lang/StringLatin1" 9 yJ0_checkIndex_df160 ∈ a_tbl := a_w_in (p := 838) (by decide +kernel)
theorem jm_pc : Cond.methodLink "java/lang/String" 1059 yJ3_checkIndex_8e157 ∈ a_tbl := a_w_in (p := 843) (by decide +kernel)
set_option maxHeartbeats 1000000 in
theorem s_coder {l : Launch} {ad : Nat → Nat → Nat} {adV : Nat → Nat} {lv : List (Nat × Nat)} {nS : Nat} {xs : Nat → Int32} {sz : Nat} {t : Nat} {q : Nat × Nat × List Nat} (hq : a_stL[t]? = some q) : Met l yJ0_coder_7d493 (Cond.code yJ0_coder_7d493 cJ0_coder_7d493 1 (some .byte) :: a_tbl) (a_rm 0 0) (s_Pc (a_X ad adV nS xs) ad lv sz [.ref (ad (100 + t) 0)]) (s_Qc (fun v => v = some (.int 0))) 0 0 (fun _ => False) := by
  refine Met.ofW (cc := cJ0_coder_7d493) (maxL := 1) (ret := (some .byte)) (by decide +kernel) rfl ?_
  intro p e s m args below meth c s₁ B hml hv
  obtain ⟨rfl, hsz, hXs⟩ := hv
  subst hsz
  have hx := B.exec
  have hb := B.bytes
  have hr := B.returns
  have hlocks := B.notSynchronized
  have hts0 := atoms_spec (ws := Cond.code yJ0_coder_7d493 cJ0_coder_7d493 1 (some .byte) :: a_tbl) B.pre
  have hts : ∀ w ∈ a_tbl, w.before ([.ref (ad (100 + t) 0)] : List Value).toArray s = true := fun w hw => hts0 w (List.mem_cons_of_mem _ hw)
  have hown : s.vm.findClass "java/lang/String" = some m.cls := findClass_of_methodNamed B.named
  have hS : va_S (a_A ad lv s.heap.size) s.heap s.heap [] := va_S.rf
  have hXs' := hXs
  obtain ⟨hscr, hstr, hcs, hfm, -, -⟩ := hXs
  have hl := lv_entry ([.ref (ad (100 + t) 0)]) (n := 1) (Nat.le_of_ble_eq_true rfl)
  rw [lg_entry_eq]
  generalize (lg_sl ([.ref (ad (100 + t) 0)]) ++ List.replicate (1 - (lg_sl ([.ref (ad (100 + t) 0)])).length) Slot.unset).toArray = ls at hl ⊢
  have hl : lv_has ls 1 [(0, .ref (ad (100 + t) 0))] := hl
  obtain ⟨-, hO, hC, hV, hT⟩ := hstr t q hq
  refine va_gets (ref := "java/lang/String") hx hb hcs hS hown (hts _ jf_cs) (fun _ z => z) dJ0_coder_7d493_0 ?_
  refine lv_if_eq (tgt := 13) hx hb dJ0_coder_7d493_3 (by decide) (fun h => absurd h (by decide)) (fun _ => ?_)
  refine lv_aload_n hx hb dJ0_coder_7d493_6 rfl (lv_at hl 0 rfl) ?_
  refine vk_getf (ref := "java/lang/String") hx hb hC hS hown (hts _ jf_coder) (fun _ z => z) dJ0_coder_7d493_7 ?_
  refine lv_goto (tgt := 14) hx hb dJ0_coder_7d493_10 (by decide) ?_
  exact W.zret (v := 0) hx hb hr rfl (fun t9 ht hW => ⟨_, rfl, rfl, ht⟩) (fun _ h => by cases h) dJ0_coder_7d493_14

set_option maxHeartbeats 1000000 in
theorem s_lat {l : Launch} {ad : Nat → Nat → Nat} {adV : Nat → Nat} {lv : List (Nat × Nat)} {nS : Nat} {xs : Nat → Int32} {sz : Nat} {t : Nat} {q : Nat × Nat × List Nat} (hq : a_stL[t]? = some q) : Met l yJ0_isLatin1_aae02 (Cond.code yJ0_isLatin1_aae02 cJ0_isLatin1_aae02 1 (some .boolean) :: a_tbl) (a_rm 0 0) (s_Pc (a_X ad adV nS xs) ad lv sz [.ref (ad (100 + t) 0)]) (s_Qc (fun v => v = some (.int 1))) 0 0 (fun _ => False) := by
  refine Met.ofW (cc := cJ0_isLatin1_aae02) (maxL := 1) (ret := (some .boolean)) (by decide +kernel) rfl ?_
  intro p e s m args below meth c s₁ B hml hv
  obtain ⟨rfl, hsz, hXs⟩ := hv
  subst hsz
  have hx := B.exec
  have hb := B.bytes
  have hr := B.returns
  have hlocks := B.notSynchronized
  have hts0 := atoms_spec (ws := Cond.code yJ0_isLatin1_aae02 cJ0_isLatin1_aae02 1 (some .boolean) :: a_tbl) B.pre
  have hts : ∀ w ∈ a_tbl, w.before ([.ref (ad (100 + t) 0)] : List Value).toArray s = true := fun w hw => hts0 w (List.mem_cons_of_mem _ hw)
  have hown : s.vm.findClass "java/lang/String" = some m.cls := findClass_of_methodNamed B.named
  have hS : va_S (a_A ad lv s.heap.size) s.heap s.heap [] := va_S.rf
  have hXs' := hXs
  obtain ⟨hscr, hstr, hcs, hfm, -, -⟩ := hXs
  have hl := lv_entry ([.ref (ad (100 + t) 0)]) (n := 1) (Nat.le_of_ble_eq_true rfl)
  rw [lg_entry_eq]
  generalize (lg_sl ([.ref (ad (100 + t) 0)]) ++ List.replicate (1 - (lg_sl ([.ref (ad (100 + t) 0)])).length) Slot.unset).toArray = ls at hl ⊢
  have hl : lv_has ls 1 [(0, .ref (ad (100 + t) 0))] := hl
  obtain ⟨-, hO, hC, hV, hT⟩ := hstr t q hq
  refine va_gets (ref := "java/lang/String") hx hb hcs hS hown (hts _ jf_cs) (fun _ z => z) dJ0_isLatin1_aae02_0 ?_
  refine lv_if_eq (tgt := 17) hx hb dJ0_isLatin1_aae02_3 (by decide) (fun h => absurd h (by decide)) (fun _ => ?_)
  refine lv_aload_n hx hb dJ0_isLatin1_aae02_6 rfl (lv_at hl 0 rfl) ?_
  refine vk_getf (ref := "java/lang/String") hx hb hC hS hown (hts _ jf_coder) (fun _ z => z) dJ0_isLatin1_aae02_7 ?_
  refine lv_if_ne (tgt := 17) hx hb dJ0_isLatin1_aae02_10 (by decide) (fun h => absurd rfl h) (fun _ => ?_)
  refine lv_iconst (v := 1) hx hb dJ0_isLatin1_aae02_13 (by decide) ?_
  refine lv_goto (tgt := 18) hx hb dJ0_isLatin1_aae02_14 (by decide) ?_
  exact W.zret (v := 1) hx hb hr rfl (fun t9 ht hW => ⟨_, rfl, rfl, ht⟩) (fun _ h => by cases h) dJ0_isLatin1_aae02_18

set_option maxHeartbeats 1000000 in
theorem s_pc {l : Launch} {ad : Nat → Nat → Nat} {adV : Nat → Nat} {lv : List (Nat × Nat)} {nS : Nat} {xs : Nat → Int32} {sz : Nat} {i n : Int32} {fv : Value} (h1 : ¬ i < 0) (h2 : i < n) (hfv : (lg_sl [.int i, .int n, fv]).length ≤ 3) : Met l yJ3_checkIndex_8e157 (Cond.code yJ3_checkIndex_8e157 cJ3_checkIndex_8e157 3 (some .int) :: a_tbl) (a_rm 0 0) (s_Pc (a_X ad adV nS xs) ad lv sz [.int i, .int n, fv]) (s_Qc (fun v => v = some (.int i))) 0 0 (fun _ => False) := by
  refine Met.ofW (cc := cJ3_checkIndex_8e157) (maxL := 3) (ret := (some .int)) (by decide +kernel) rfl ?_
  intro p e s m args below meth c s₁ B hml hv
  obtain ⟨rfl, hsz, hXs⟩ := hv
  subst hsz
  have hx := B.exec
  have hb := B.bytes
  have hr := B.returns
  have hlocks := B.notSynchronized
  have hts0 := atoms_spec (ws := Cond.code yJ3_checkIndex_8e157 cJ3_checkIndex_8e157 3 (some .int) :: a_tbl) B.pre
  have hts : ∀ w ∈ a_tbl, w.before ([.int i, .int n, fv] : List Value).toArray s = true := fun w hw => hts0 w (List.mem_cons_of_mem _ hw)
  have hown : s.vm.findClass "jdk/internal/util/Preconditions" = some m.cls := findClass_of_methodNamed B.named
  have hS : va_S (a_A ad lv s.heap.size) s.heap s.heap [] := va_S.rf
  have hXs' := hXs
  obtain ⟨hscr, hstr, hcs, hfm, -, -⟩ := hXs
  have hl := lv_entry (n := 3) ([.int i, .int n, fv]) hfv
  rw [lg_entry_eq]
  generalize (lg_sl ([.int i, .int n, fv]) ++ List.replicate (3 - (lg_sl ([.int i, .int n, fv])).length) Slot.unset).toArray = ls at hl ⊢
  have hl0 : lv_has ls 3 ((0, .int i) :: (1, .int n) :: lv_args 2 [fv]) := hl
  refine lv_iload_n hx hb dJ3_checkIndex_8e157_0 rfl (lv_at hl0 0 rfl) ?_
  refine lv_if_lt (tgt := 9) hx hb dJ3_checkIndex_8e157_1 (by decide) (fun h => absurd h h1) (fun _ => ?_)
  refine lv_iload_n hx hb dJ3_checkIndex_8e157_4 rfl (lv_at hl0 0 rfl) ?_
  refine lv_iload_n hx hb dJ3_checkIndex_8e157_5 rfl (lv_at hl0 1 rfl) ?_
  refine lv_icmp_lt (tgt := 16) hx hb dJ3_checkIndex_8e157_6 (by decide) (fun _ => ?_) (fun h => absurd h2 h)
  refine lv_iload_n hx hb dJ3_checkIndex_8e157_16 rfl (lv_at hl0 0 rfl) ?_
  exact W.iret (v := i) hx hb hr (fun t9 ht hW => ⟨_, rfl, rfl, ht⟩) (fun _ h => by cases h) dJ3_checkIndex_8e157_17

set_option maxHeartbeats 1000000 in
theorem s_ci {l : Launch} {ad : Nat → Nat → Nat} {adV : Nat → Nat} {lv : List (Nat × Nat)} {nS : Nat} {xs : Nat → Int32} {sz : Nat} {i n : Int32} (h1 : ¬ i < 0) (h2 : i < n) : Met l yJ0_checkIndex_df160 (Cond.code yJ0_checkIndex_df160 cJ0_checkIndex_df160 2 none :: a_tbl) (a_rm 1 0) (s_Pc (a_X ad adV nS xs) ad lv sz [.int i, .int n]) (s_Qc (fun v => v = none)) 0 0 (fun _ => False) := by
  refine Met.ofW (cc := cJ0_checkIndex_df160) (maxL := 2) (ret := none) (by decide +kernel) rfl ?_
  intro p e s m args below meth c s₁ B hml hv
  obtain ⟨rfl, hsz, hXs⟩ := hv
  subst hsz
  have hx := B.exec
  have hb := B.bytes
  have hr := B.returns
  have hlocks := B.notSynchronized
  have hts0 := atoms_spec (ws := Cond.code yJ0_checkIndex_df160 cJ0_checkIndex_df160 2 none :: a_tbl) B.pre
  have hts : ∀ w ∈ a_tbl, w.before ([.int i, .int n] : List Value).toArray s = true := fun w hw => hts0 w (List.mem_cons_of_mem _ hw)
  have hown : s.vm.findClass "java/lang/String" = some m.cls := findClass_of_methodNamed B.named
  have hS : va_S (a_A ad lv s.heap.size) s.heap s.heap [] := va_S.rf
  have hXs' := hXs
  obtain ⟨hscr, hstr, hcs, hfm, -, -⟩ := hXs
  have hl := lv_entry ([.int i, .int n]) (n := 2) (Nat.le_of_ble_eq_true rfl)
  rw [lg_entry_eq]
  generalize (lg_sl ([.int i, .int n]) ++ List.replicate (2 - (lg_sl ([.int i, .int n])).length) Slot.unset).toArray = ls at hl ⊢
  have hl : lv_has ls 2 [(0, .int i), (1, .int n)] := hl
  refine lv_iload_n hx hb dJ0_checkIndex_df160_0 rfl (lv_at hl 0 rfl) ?_
  refine lv_iload_n hx hb dJ0_checkIndex_df160_1 rfl (lv_at hl 1 rfl) ?_
  have go : ∀ fv : Value, (lg_sl [.int i, .int n, fv]).length ≤ 3 → va_Z "jdk/internal/util/Preconditions" "SIOOBE_FORMATTER" "Ljava/util/function/BiFunction;" fv (a_A ad lv s.heap.size) s s.heap → W p l e (a_rm 1 0) s m ([.int i, .int n] : List Value).toArray below meth c s.heap [] 0 0 (MQ below (s_Qc (fun v => v = none)) ([.int i, .int n] : List Value).toArray s 0 0 (fun _ => False)) (F0 m 2 ls [.int n, .int i]) := by
    intro fv hfv hZ
    refine va_gets (ref := "jdk/internal/util/Preconditions") hx hb hZ hS hown (hts _ jf_fmt) (fun _ z => z) dJ0_checkIndex_df160_2 ?_
    refine s_after (aa := #[]) (va_runS (As := [.int i, .int n, fv]) (rest := []) ⟨hx, hb, hml, hown, hts⟩ (s_pc (l := l) (ad := ad) (adV := adV) (lv := lv) (nS := nS) (xs := xs) (sz := s.heap.size) h1 h2 hfv) (⟨⟨rfl, rfl, by show 0 + 1 ≤ _; first | exact Nat.le_of_ble_eq_true rfl | omega, by show 8 + (3 + 11) + 64 * 0 ≤ _; first | exact Nat.le_of_ble_eq_true rfl | omega, a_tbl_hts hts jc_J3_checkIndex_8e157, List.mem_cons_self, hts _ jc_J3_checkIndex_8e157, hts _ ji_J3_checkIndex_8e157, ⟨by decide +kernel, by decide +kernel⟩, fun sig hsig => by have h9 := jp_J3_checkIndex_8e157; rw [hsig] at h9; exact (Option.some.inj h9).symm, hts _ jm_pc⟩, hts _ js_J3_checkIndex_8e157⟩ : CallB _ s _ _ _ _ _ _ _ _ _ 0 0 3 ∧ _) ⟨s_blind a_Xok, s_at a_Xok hXs' hS⟩ rfl rfl hl.1 rfl (lv_room (Nat.le_of_ble_eq_true rfl)) dJ0_checkIndex_df160_5 ⟨Nat.zero_le _, Nat.zero_le _⟩) (fun v hv => ?_)
    subst hv
    refine lv_pop hx hb dJ0_checkIndex_df160_8 rfl ?_
    exact W.vret hx hb hr (fun t9 ht hW => ⟨_, rfl, rfl, ht⟩) (fun _ h => by cases h) dJ0_checkIndex_df160_9
  rcases hfm with hz | ⟨a9, hz⟩
  · exact go .null (Nat.le_of_ble_eq_true rfl) hz
  · exact go (.ref a9) (Nat.le_of_ble_eq_true rfl) hz

def a_stB (q : Nat × Nat × List Nat) : Bool := Nat.blt q.2.2.length 1000 && q.2.2.all (fun b => decide (((Int32.ofNat b &&& 255).toUInt32 % 65536).toInt32 = Int32.ofNat b) && decide (narrow .char (.int (Int32.ofNat b)) = .int (Int32.ofNat b)))
theorem a_stB_ok : a_stL.all a_stB = true := by decide +kernel
theorem a_st_ok {t : Nat} {q : Nat × Nat × List Nat} (h : a_stL[t]? = some q) : q.2.2.length < 1000 ∧ ∀ j, j < q.2.2.length → ((Int32.ofNat (q.2.2.getD j 0) &&& 255).toUInt32 % 65536).toInt32 = Int32.ofNat (q.2.2.getD j 0) ∧ narrow .char (.int (Int32.ofNat (q.2.2.getD j 0))) = .int (Int32.ofNat (q.2.2.getD j 0)) := by
  have h1 := List.all_eq_true.mp a_stB_ok q (List.mem_of_getElem? h)
  unfold a_stB at h1
  rw [Bool.and_eq_true] at h1
  refine ⟨Nat.le_of_ble_eq_true h1.1, fun j hj => ?_⟩
  have e1 : q.2.2.getD j 0 = q.2.2[j] := by simp [List.getD, hj]
  have h2 := List.all_eq_true.mp h1.2 (q.2.2.getD j 0) (by rw [e1]; exact List.getElem_mem hj)
  simp only [Bool.and_eq_true, decide_eq_true_eq] at h2
  exact h2
set_option maxHeartbeats 1000000 in
theorem s_c1 {l : Launch} {ad : Nat → Nat → Nat} {adV : Nat → Nat} {lv : List (Nat × Nat)} {nS : Nat} {xs : Nat → Int32} {sz : Nat} {t : Nat} {q : Nat × Nat × List Nat} (hq : a_stL[t]? = some q) {j : Int32} (hj : vp_in j q.2.2.length) : Met l yJ1_charAt_3b067 (Cond.code yJ1_charAt_3b067 cJ1_charAt_3b067 2 (some .char) :: a_tbl) (a_rm 2 0) (s_Pc (a_X ad adV nS xs) ad lv sz [.ref (adV t), .int j]) (s_Qc (fun v => v = some (.int (Int32.ofNat (q.2.2.getD j.toNatClampNeg 0))))) 0 0 (fun _ => False) := by
  refine Met.ofW (cc := cJ1_charAt_3b067) (maxL := 2) (ret := (some .char)) (by decide +kernel) rfl ?_
  intro p e s m args below meth c s₁ B hml hv
  obtain ⟨rfl, hsz, hXs⟩ := hv
  subst hsz
  have hx := B.exec
  have hb := B.bytes
  have hr := B.returns
  have hlocks := B.notSynchronized
  have hts0 := atoms_spec (ws := Cond.code yJ1_charAt_3b067 cJ1_charAt_3b067 2 (some .char) :: a_tbl) B.pre
  have hts : ∀ w ∈ a_tbl, w.before ([.ref (adV t), .int j] : List Value).toArray s = true := fun w hw => hts0 w (List.mem_cons_of_mem _ hw)
  have hown : s.vm.findClass "java/lang/StringLatin1" = some m.cls := findClass_of_methodNamed B.named
  have hS : va_S (a_A ad lv s.heap.size) s.heap s.heap [] := va_S.rf
  have hXs' := hXs
  obtain ⟨hscr, hstr, hcs, hfm, -, -⟩ := hXs
  have hl := lv_entry ([.ref (adV t), .int j]) (n := 2) (Nat.le_of_ble_eq_true rfl)
  rw [lg_entry_eq]
  generalize (lg_sl ([.ref (adV t), .int j]) ++ List.replicate (2 - (lg_sl ([.ref (adV t), .int j])).length) Slot.unset).toArray = ls at hl ⊢
  have hl : lv_has ls 2 [(0, .ref (adV t)), (1, .int j)] := hl
  obtain ⟨-, hO, hC, hV, hT⟩ := hstr t q hq
  obtain ⟨g1, g2⟩ := a_st_ok hq
  obtain ⟨jn, hjn, rfl⟩ := vp_in_of hj (by omega)
  refine lv_iload_n hx hb dJ1_charAt_3b067_0 rfl (lv_at hl 1 rfl) ?_
  refine lv_aload_n hx hb dJ1_charAt_3b067_1 rfl (lv_at hl 0 rfl) ?_
  refine va_tlen hx hb hT hS rfl dJ1_charAt_3b067_2 ?_
  refine s_after (aa := #[]) (va_runS (As := [.int (nI jn), .int (Int32.ofNat q.2.2.length)]) (rest := []) ⟨hx, hb, hml, hown, hts⟩ (s_ci (l := l) (ad := ad) (adV := adV) (lv := lv) (nS := nS) (xs := xs) (sz := s.heap.size) (nI_pos (by omega)) (nI_lt hjn (by omega))) (⟨⟨rfl, rfl, by show 1 + 1 ≤ _; first | exact Nat.le_of_ble_eq_true rfl | omega, by show 8 + (2 + 11) + 64 * 1 ≤ _; first | exact Nat.le_of_ble_eq_true rfl | omega, a_tbl_hts hts jc_J0_checkIndex_df160, List.mem_cons_self, hts _ jc_J0_checkIndex_df160, hts _ ji_J0_checkIndex_df160, ⟨by decide +kernel, by decide +kernel⟩, fun sig hsig => by have h9 := jp_J0_checkIndex_df160; rw [hsig] at h9; exact (Option.some.inj h9).symm, hts _ jm_ci⟩, hts _ js_J0_checkIndex_df160⟩ : CallB _ s _ _ _ _ _ _ _ _ _ 0 0 2 ∧ _) ⟨s_blind a_Xok, s_at a_Xok hXs' hS⟩ rfl rfl hl.1 rfl (lv_room (Nat.le_of_ble_eq_true rfl)) dJ1_charAt_3b067_3 ⟨Nat.zero_le _, Nat.zero_le _⟩) (fun v hv => ?_)
  subst hv
  refine lv_aload_n hx hb dJ1_charAt_3b067_6 rfl (lv_at hl 0 rfl) ?_
  refine lv_iload_n hx hb dJ1_charAt_3b067_7 rfl (lv_at hl 1 rfl) ?_
  refine va_tb (v := .int (Int32.ofNat (q.2.2.getD (nI jn).toNatClampNeg 0))) hx hb hT hS (vp_in_nI hjn (by omega)) rfl dJ1_charAt_3b067_8 ?_
  refine lv_sipush (v := 255) hx hb dJ1_charAt_3b067_9 (by decide) ?_
  refine lv_iand hx hb dJ1_charAt_3b067_12 ?_
  rw [nI_clamp (by omega)]
  refine lv_i2c (v := Int32.ofNat (q.2.2.getD jn 0)) hx hb dJ1_charAt_3b067_13 (g2 jn hjn).1 ?_
  exact W.zret (v := Int32.ofNat (q.2.2.getD jn 0)) hx hb hr (g2 jn hjn).2 (fun t9 ht hW => ⟨_, rfl, rfl, ht⟩) (fun _ h => by cases h) dJ1_charAt_3b067_14

set_option maxHeartbeats 1000000 in
theorem s_len {l : Launch} {ad : Nat → Nat → Nat} {adV : Nat → Nat} {lv : List (Nat × Nat)} {nS : Nat} {xs : Nat → Int32} {sz : Nat} {t : Nat} {q : Nat × Nat × List Nat} (hq : a_stL[t]? = some q) : Met l yJ0_length_8abf5 (Cond.code yJ0_length_8abf5 cJ0_length_8abf5 1 (some .int) :: a_tbl) (a_rm 1 0) (s_Pc (a_X ad adV nS xs) ad lv sz [.ref (ad (100 + t) 0)]) (s_Qc (fun v => v = some (.int (Int32.ofNat q.2.2.length)))) 0 0 (fun _ => False) := by
  refine Met.ofW (cc := cJ0_length_8abf5) (maxL := 1) (ret := (some .int)) (by decide +kernel) rfl ?_
  intro p e s m args below meth c s₁ B hml hv
  obtain ⟨rfl, hsz, hXs⟩ := hv
  subst hsz
  have hx := B.exec
  have hb := B.bytes
  have hr := B.returns
  have hlocks := B.notSynchronized
  have hts0 := atoms_spec (ws := Cond.code yJ0_length_8abf5 cJ0_length_8abf5 1 (some .int) :: a_tbl) B.pre
  have hts : ∀ w ∈ a_tbl, w.before ([.ref (ad (100 + t) 0)] : List Value).toArray s = true := fun w hw => hts0 w (List.mem_cons_of_mem _ hw)
  have hown : s.vm.findClass "java/lang/String" = some m.cls := findClass_of_methodNamed B.named
  have hS : va_S (a_A ad lv s.heap.size) s.heap s.heap [] := va_S.rf
  have hXs' := hXs
  obtain ⟨hscr, hstr, hcs, hfm, -, -⟩ := hXs
  have hl := lv_entry ([.ref (ad (100 + t) 0)]) (n := 1) (Nat.le_of_ble_eq_true rfl)
  rw [lg_entry_eq]
  generalize (lg_sl ([.ref (ad (100 + t) 0)]) ++ List.replicate (1 - (lg_sl ([.ref (ad (100 + t) 0)])).length) Slot.unset).toArray = ls at hl ⊢
  have hl : lv_has ls 1 [(0, .ref (ad (100 + t) 0))] := hl
  obtain ⟨-, hO, hC, hV, hT⟩ := hstr t q hq
  refine lv_aload_n hx hb dJ0_length_8abf5_0 rfl (lv_at hl 0 rfl) ?_
  refine vk_getf (ref := "java/lang/String") hx hb hV hS hown (hts _ jf_value) (fun _ z => z) dJ0_length_8abf5_1 ?_
  refine va_tlen hx hb hT hS rfl dJ0_length_8abf5_4 ?_
  refine lv_aload_n hx hb dJ0_length_8abf5_5 rfl (lv_at hl 0 rfl) ?_
  refine s_after (aa := #[]) (va_runV (C := "java/lang/String") (As := []) (rest := [.int (Int32.ofNat q.2.2.length)]) ⟨hx, hb, hml, hown, hts⟩ (s_coder (l := l) (ad := ad) (adV := adV) (lv := lv) (nS := nS) (xs := xs) (sz := s.heap.size) hq) (⟨⟨rfl, rfl, by show 0 + 1 ≤ _; first | exact Nat.le_of_ble_eq_true rfl | omega, by show 8 + (1 + 11) + 64 * 0 ≤ _; first | exact Nat.le_of_ble_eq_true rfl | omega, a_tbl_hts hts jc_J0_coder_7d493, List.mem_cons_self, hts _ jc_J0_coder_7d493, hts _ ji_J0_coder_7d493, ⟨by decide +kernel, by decide +kernel⟩, fun sig hsig => by have h9 := jp_J0_coder_7d493; rw [hsig] at h9; exact (Option.some.inj h9).symm, hts _ jm_coder⟩, hts _ jn_J0_coder_7d493, hts _ jl_J0_coder_7d493⟩ : CallW _ s _ _ _ _ _ _ _ _ _ _ 0 0 0) ⟨s_blind a_Xok, by obtain ⟨cell, z1, z2, z3, -⟩ := hO; exact ⟨cell, z1, z2, z3⟩, s_at a_Xok hXs' hS⟩ rfl rfl hl.1 rfl (lv_room (Nat.le_of_ble_eq_true rfl)) dJ0_length_8abf5_6 ⟨Nat.zero_le _, Nat.zero_le _⟩) (fun v hv => ?_)
  subst hv
  refine lv_ishr hx hb dJ0_length_8abf5_9 ?_
  have e9 : Int32.ofNat q.2.2.length >>> ((0 : Int32) &&& 31) = Int32.ofNat q.2.2.length := by
    have h9 := pk_shrN (n := q.2.2.length) (by have := (a_st_ok hq).1; omega) ((0 : Int32) &&& 31) 0 (by decide)
    rwa [Nat.pow_zero, Nat.div_one] at h9
  rw [e9]
  exact W.iret (v := Int32.ofNat q.2.2.length) hx hb hr (fun t9 ht hW => ⟨_, rfl, rfl, ht⟩) (fun _ h => by cases h) dJ0_length_8abf5_10

set_option maxHeartbeats 1000000 in
theorem s_chr {l : Launch} {ad : Nat → Nat → Nat} {adV : Nat → Nat} {lv : List (Nat × Nat)} {nS : Nat} {xs : Nat → Int32} {sz : Nat} {t : Nat} {q : Nat × Nat × List Nat} (hq : a_stL[t]? = some q) {j : Int32} (hj : vp_in j q.2.2.length) : Met l yJ0_charAt_5068e (Cond.code yJ0_charAt_5068e cJ0_charAt_5068e 2 (some .char) :: a_tbl) (a_rm 3 0) (s_Pc (a_X ad adV nS xs) ad lv sz [.ref (ad (100 + t) 0), .int j]) (s_Qc (fun v => v = some (.int (Int32.ofNat (q.2.2.getD j.toNatClampNeg 0))))) 0 0 (fun _ => False) := by
  refine Met.ofW (cc := cJ0_charAt_5068e) (maxL := 2) (ret := (some .char)) (by decide +kernel) rfl ?_
  intro p e s m args below meth c s₁ B hml hv
  obtain ⟨rfl, hsz, hXs⟩ := hv
  subst hsz
  have hx := B.exec
  have hb := B.bytes
  have hr := B.returns
  have hlocks := B.notSynchronized
  have hts0 := atoms_spec (ws := Cond.code yJ0_charAt_5068e cJ0_charAt_5068e 2 (some .char) :: a_tbl) B.pre
  have hts : ∀ w ∈ a_tbl, w.before ([.ref (ad (100 + t) 0), .int j] : List Value).toArray s = true := fun w hw => hts0 w (List.mem_cons_of_mem _ hw)
  have hown : s.vm.findClass "java/lang/String" = some m.cls := findClass_of_methodNamed B.named
  have hS : va_S (a_A ad lv s.heap.size) s.heap s.heap [] := va_S.rf
  have hXs' := hXs
  obtain ⟨hscr, hstr, hcs, hfm, -, -⟩ := hXs
  have hl := lv_entry ([.ref (ad (100 + t) 0), .int j]) (n := 2) (Nat.le_of_ble_eq_true rfl)
  rw [lg_entry_eq]
  generalize (lg_sl ([.ref (ad (100 + t) 0), .int j]) ++ List.replicate (2 - (lg_sl ([.ref (ad (100 + t) 0), .int j])).length) Slot.unset).toArray = ls at hl ⊢
  have hl : lv_has ls 2 [(0, .ref (ad (100 + t) 0)), (1, .int j)] := hl
  obtain ⟨-, hO, hC, hV, hT⟩ := hstr t q hq
  refine lv_aload_n hx hb dJ0_charAt_5068e_0 rfl (lv_at hl 0 rfl) ?_
  refine s_after (aa := #[]) (va_runV (C := "java/lang/String") (As := []) (rest := []) ⟨hx, hb, hml, hown, hts⟩ (s_lat (l := l) (ad := ad) (adV := adV) (lv := lv) (nS := nS) (xs := xs) (sz := s.heap.size) hq) (⟨⟨rfl, rfl, by show 0 + 1 ≤ _; first | exact Nat.le_of_ble_eq_true rfl | omega, by show 8 + (1 + 11) + 64 * 0 ≤ _; first | exact Nat.le_of_ble_eq_true rfl | omega, a_tbl_hts hts jc_J0_isLatin1_aae02, List.mem_cons_self, hts _ jc_J0_isLatin1_aae02, hts _ ji_J0_isLatin1_aae02, ⟨by decide +kernel, by decide +kernel⟩, fun sig hsig => by have h9 := jp_J0_isLatin1_aae02; rw [hsig] at h9; exact (Option.some.inj h9).symm, hts _ jm_lat⟩, hts _ jn_J0_isLatin1_aae02, hts _ jl_J0_isLatin1_aae02⟩ : CallW _ s _ _ _ _ _ _ _ _ _ _ 0 0 0) ⟨s_blind a_Xok, by obtain ⟨cell, z1, z2, z3, -⟩ := hO; exact ⟨cell, z1, z2, z3⟩, s_at a_Xok hXs' hS⟩ rfl rfl hl.1 rfl (lv_room (Nat.le_of_ble_eq_true rfl)) dJ0_charAt_5068e_1 ⟨Nat.zero_le _, Nat.zero_le _⟩) (fun v hv => ?_)
  subst hv
  refine lv_if_eq (tgt := 16) hx hb dJ0_charAt_5068e_4 (by decide) (fun h => absurd h (by decide)) (fun _ => ?_)
  refine lv_aload_n hx hb dJ0_charAt_5068e_7 rfl (lv_at hl 0 rfl) ?_
  refine vk_getf (ref := "java/lang/String") hx hb hV hS hown (hts _ jf_value) (fun _ z => z) dJ0_charAt_5068e_8 ?_
  refine lv_iload_n hx hb dJ0_charAt_5068e_11 rfl (lv_at hl 1 rfl) ?_
  refine s_after (aa := #[]) (va_runS (As := [.ref (adV t), .int j]) (rest := []) ⟨hx, hb, hml, hown, hts⟩ (s_c1 (l := l) (ad := ad) (adV := adV) (lv := lv) (nS := nS) (xs := xs) (sz := s.heap.size) hq hj) (⟨⟨rfl, rfl, by show 2 + 1 ≤ _; first | exact Nat.le_of_ble_eq_true rfl | omega, by show 8 + (2 + 11) + 64 * 2 ≤ _; first | exact Nat.le_of_ble_eq_true rfl | omega, a_tbl_hts hts jc_J1_charAt_3b067, List.mem_cons_self, hts _ jc_J1_charAt_3b067, hts _ ji_J1_charAt_3b067, ⟨by decide +kernel, by decide +kernel⟩, fun sig hsig => by have h9 := jp_J1_charAt_3b067; rw [hsig] at h9; exact (Option.some.inj h9).symm, hts _ jm_ch⟩, hts _ js_J1_charAt_3b067⟩ : CallB _ s _ _ _ _ _ _ _ _ _ 0 0 2 ∧ _) ⟨s_blind a_Xok, s_at a_Xok hXs' hS⟩ rfl rfl hl.1 rfl (lv_room (Nat.le_of_ble_eq_true rfl)) dJ0_charAt_5068e_12 ⟨Nat.zero_le _, Nat.zero_le _⟩) (fun v hv => ?_)
  subst hv
  obtain ⟨g1, g2⟩ := a_st_ok hq
  obtain ⟨jn, hjn, rfl⟩ := vp_in_of hj (by omega)
  rw [nI_clamp (by omega)]
  exact W.zret (v := Int32.ofNat (q.2.2.getD jn 0)) hx hb hr (g2 jn hjn).2 (fun t9 ht hW => ⟨_, rfl, rfl, ht⟩) (fun _ h => by cases h) dJ0_charAt_5068e_15

