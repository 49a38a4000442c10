theorem a_swc_mono {K K' : Nat → Prop} (h : ∀ q, K q → K' q) {v : Int32} : ∀ {n : Nat} {t : List Nat}, a_swc K v n t → a_swc K' v n t
  | _, [], _ => trivial
  | _, _ :: _, hs => ⟨fun z => h _ (hs.1 z), a_swc_mono h hs.2⟩
set_option maxHeartbeats 2000000 in
theorem a_wp_mono {d nS : Nat} {cal : Nat → List aV → aM → (Option aV → aM → Prop) → Prop} {rt : Option FieldType} {cd : List aE} {post : Option aV → aM → Prop} {px : Nat → aM → Prop} {K K' : aK} (hK : ∀ pc L S M, K pc L S M → K' pc L S M) {pc : Nat} {L : aL} {S : List aV} {M : aM} (h : a_wp d nS cal rt cd post px K pc L S M) : a_wp d nS cal rt cd post px K' pc L S M := by
  unfold a_wp at h ⊢
  cases hf : a_fnd cd pc with
  | none => rw [hf] at h; exact False.elim h
  | some ee =>
  obtain ⟨i, x, y, c0, t, nx⟩ := ee
  rw [hf] at h
  dsimp only at h ⊢
  cases i with
  | iconst n =>
    exact hK _ _ _ _ h
  | bipush n =>
    exact hK _ _ _ _ h
  | sipush n =>
    exact hK _ _ _ _ h
  | ldc_w n =>
    exact hK _ _ _ _ h
  | goto n =>
    exact hK _ _ _ _ h
  | ldc n =>
    cases y with
    | zero => exact hK _ _ _ _ h
    | succ y => exact hK _ _ _ _ h
  | lconst n =>
    cases x with
    | zero => exact hK _ _ _ _ h
    | succ x => exact hK _ _ _ _ h
  | iload_n n =>
    unfold a_w1 at h ⊢
    dsimp only at h ⊢
    split at h
    · exact hK _ _ _ _ h
    · exact False.elim h
  | iload n =>
    unfold a_w1 at h ⊢
    dsimp only at h ⊢
    split at h
    · exact hK _ _ _ _ h
    · exact False.elim h
  | lload_n n =>
    unfold a_w1 at h ⊢
    dsimp only at h ⊢
    split at h
    · exact hK _ _ _ _ h
    · exact False.elim h
  | lload n =>
    unfold a_w1 at h ⊢
    dsimp only at h ⊢
    split at h
    · exact hK _ _ _ _ h
    · exact False.elim h
  | aload_n n =>
    unfold a_w1 at h ⊢
    dsimp only at h ⊢
    split at h
    · exact hK _ _ _ _ h
    · exact False.elim h
  | aload n =>
    unfold a_w1 at h ⊢
    dsimp only at h ⊢
    split at h
    · exact hK _ _ _ _ h
    · exact False.elim h
  | iinc n k =>
    unfold a_w1 at h ⊢
    dsimp only at h ⊢
    split at h
    · exact hK _ _ _ _ h
    · exact False.elim h
  | istore_n n =>
    unfold a_w1 at h ⊢
    dsimp only at h ⊢
    split at h
    · exact hK _ _ _ _ h
    · exact False.elim h
  | istore n =>
    unfold a_w1 at h ⊢
    dsimp only at h ⊢
    split at h
    · exact hK _ _ _ _ h
    · exact False.elim h
  | lstore_n n =>
    unfold a_w1 at h ⊢
    dsimp only at h ⊢
    split at h
    · exact hK _ _ _ _ h
    · exact False.elim h
  | lstore n =>
    unfold a_w1 at h ⊢
    dsimp only at h ⊢
    split at h
    · exact hK _ _ _ _ h
    · exact False.elim h
  | astore_n n =>
    unfold a_w1 at h ⊢
    dsimp only at h ⊢
    split at h
    · exact hK _ _ _ _ h
    · exact False.elim h
  | astore n =>
    unfold a_w1 at h ⊢
    dsimp only at h ⊢
    split at h
    · exact hK _ _ _ _ h
    · exact False.elim h
  | iadd =>
    unfold a_w1 at h ⊢
    dsimp only at h ⊢
    split at h
    · exact hK _ _ _ _ h
    · exact False.elim h
  | isub =>
    unfold a_w1 at h ⊢
    dsimp only at h ⊢
    split at h
    · exact hK _ _ _ _ h
    · exact False.elim h
  | imul =>
    unfold a_w1 at h ⊢
    dsimp only at h ⊢
    split at h
    · exact hK _ _ _ _ h
    · exact False.elim h
  | iand =>
    unfold a_w1 at h ⊢
    dsimp only at h ⊢
    split at h
    · exact hK _ _ _ _ h
    · exact False.elim h
  | ior =>
    unfold a_w1 at h ⊢
    dsimp only at h ⊢
    split at h
    · exact hK _ _ _ _ h
    · exact False.elim h
  | ixor =>
    unfold a_w1 at h ⊢
    dsimp only at h ⊢
    split at h
    · exact hK _ _ _ _ h
    · exact False.elim h
  | ishl =>
    unfold a_w1 at h ⊢
    dsimp only at h ⊢
    split at h
    · exact hK _ _ _ _ h
    · exact False.elim h
  | ishr =>
    unfold a_w1 at h ⊢
    dsimp only at h ⊢
    split at h
    · exact hK _ _ _ _ h
    · exact False.elim h
  | iushr =>
    unfold a_w1 at h ⊢
    dsimp only at h ⊢
    split at h
    · exact hK _ _ _ _ h
    · exact False.elim h
  | ineg =>
    unfold a_w1 at h ⊢
    dsimp only at h ⊢
    split at h
    · exact hK _ _ _ _ h
    · exact False.elim h
  | i2l =>
    unfold a_w1 at h ⊢
    dsimp only at h ⊢
    split at h
    · exact hK _ _ _ _ h
    · exact False.elim h
  | ladd =>
    unfold a_w1 at h ⊢
    dsimp only at h ⊢
    split at h
    · exact hK _ _ _ _ h
    · exact False.elim h
  | lcmp =>
    unfold a_w1 at h ⊢
    dsimp only at h ⊢
    split at h
    · exact hK _ _ _ _ h
    · exact False.elim h
  | lmul =>
    unfold a_w1 at h ⊢
    dsimp only at h ⊢
    split at h
    · exact hK _ _ _ _ h
    · exact False.elim h
  | pop2 =>
    unfold a_w1 at h ⊢
    dsimp only at h ⊢
    split at h
    · exact hK _ _ _ _ h
    · exact False.elim h
  | dup2 =>
    unfold a_w1 at h ⊢
    dsimp only at h ⊢
    split at h
    · exact hK _ _ _ _ h
    · exact False.elim h
  | idiv =>
    unfold a_w1 at h ⊢
    dsimp only at h ⊢
    split at h
    · exact ⟨h.1, hK _ _ _ _ h.2⟩
    · exact False.elim h
  | irem =>
    unfold a_w1 at h ⊢
    dsimp only at h ⊢
    split at h
    · exact ⟨h.1, hK _ _ _ _ h.2⟩
    · exact False.elim h
  | pop =>
    unfold a_w1 at h ⊢
    dsimp only at h ⊢
    split at h
    · exact hK _ _ _ _ h
    · exact hK _ _ _ _ h
    · exact False.elim h
  | dup =>
    unfold a_w1 at h ⊢
    dsimp only at h ⊢
    split at h
    · exact hK _ _ _ _ h
    · exact hK _ _ _ _ h
    · exact False.elim h
  | ifCond cnd off =>
    unfold a_w1 at h ⊢
    dsimp only at h ⊢
    split at h
    · cases cnd <;> exact ⟨fun z => hK _ _ _ _ (h.1 z), fun z => hK _ _ _ _ (h.2 z)⟩
    · exact False.elim h
  | if_icmp cnd off =>
    unfold a_w1 at h ⊢
    dsimp only at h ⊢
    split at h
    · cases cnd <;> exact ⟨fun z => hK _ _ _ _ (h.1 z), fun z => hK _ _ _ _ (h.2 z)⟩
    · exact False.elim h
  | tableswitch a b c d =>
    unfold a_w1 at h ⊢
    dsimp only at h ⊢
    split at h
    · exact ⟨a_swc_mono (fun q z => hK _ _ _ _ z) h.1, fun z => hK _ _ _ _ (h.2 z)⟩
    · exact False.elim h
  | getfield n =>
    unfold a_w1 at h ⊢
    dsimp only at h ⊢
    split at h
    · split at h
      · rename_i ci fl hsh
        cases hb : Nat.beq ci y with
        | false => rw [hb] at h; exact False.elim h
        | true =>
          rw [hb] at h
          simp only [cond_true] at h ⊢
          split at h
          · exact hK _ _ _ _ h
          · exact hK _ _ _ _ h
          · exact hK _ _ _ _ h
          · exact False.elim h
      · exact False.elim h
    · exact False.elim h
  | putfield n =>
    unfold a_w1 at h ⊢
    dsimp only at h ⊢
    split at h
    · split at h
      · rename_i ci fl hsh
        cases hb : Nat.beq ci y with
        | false => rw [hb] at h; exact False.elim h
        | true =>
          rw [hb] at h
          simp only [cond_true] at h ⊢
          split at h
          · cases t with
            | nil => exact hK _ _ _ _ h
            | cons t0 tr => exact ⟨h.1, hK _ _ _ _ h.2⟩
          · exact False.elim h
      · exact False.elim h
    · exact False.elim h
  | iaload =>
    unfold a_w1 at h ⊢
    dsimp only at h ⊢
    split at h
    · split at h
      · exact ⟨h.1, hK _ _ _ _ h.2⟩
      · generalize Nat.beq _ 99 = bb at h ⊢
        cases bb with
        | false => exact False.elim h
        | true => exact ⟨h.1, hK _ _ _ _ h.2⟩
      · exact False.elim h
    · exact False.elim h
  | laload =>
    unfold a_w1 at h ⊢
    dsimp only at h ⊢
    split at h
    · split at h
      · exact ⟨h.1, hK _ _ _ _ h.2⟩
      · exact False.elim h
    · exact False.elim h
  | iastore =>
    unfold a_w1 at h ⊢
    dsimp only at h ⊢
    split at h
    · split at h
      · exact ⟨h.1, hK _ _ _ _ h.2⟩
      · exact False.elim h
    · exact False.elim h
  | lastore =>
    unfold a_w1 at h ⊢
    dsimp only at h ⊢
    split at h
    · split at h
      · exact ⟨h.1, hK _ _ _ _ h.2⟩
      · exact False.elim h
    · exact False.elim h
  | arraylength =>
    unfold a_w1 at h ⊢
    dsimp only at h ⊢
    split at h
    · split at h
      · exact hK _ _ _ _ h
      · generalize Nat.beq _ 99 = bb at h ⊢
        cases bb with
        | false => exact False.elim h
        | true => exact hK _ _ _ _ h
      · exact False.elim h
    · exact False.elim h
  | invokevirtual n =>
    unfold a_w1 at h ⊢
    dsimp only at h ⊢
    cases h900 : Nat.beq x 900 with
    | true =>
      rw [h900] at h
      simp only [cond_true] at h ⊢
      split at h
      · split at h
        · exact ⟨h.1, hK _ _ _ _ h.2⟩
        · exact False.elim h
      · exact False.elim h
    | false =>
    rw [h900] at h
    simp only [cond_false] at h ⊢
    cases h901 : Nat.beq x 901 with
    | true =>
      rw [h901] at h
      simp only [cond_true] at h ⊢
      split at h
      · split at h
        · exact ⟨h.1, h.2.1, hK _ _ _ _ h.2.2⟩
        · exact False.elim h
      · exact False.elim h
    | false =>
    rw [h901] at h
    simp only [cond_false] at h ⊢
    obtain ⟨P, g1, g2, g3⟩ := h
    exact ⟨P, g1, g2, fun v M' z => hK _ _ _ _ (g3 v M' z)⟩
  | invokestatic n =>
    unfold a_w1 at h ⊢
    dsimp only at h ⊢
    cases h902 : Nat.beq x 902 with
    | true =>
      rw [h902] at h
      simp only [cond_true] at h ⊢
      split at h
      · exact ⟨h.1, hK _ _ _ _ h.2⟩
      · exact False.elim h
    | false =>
    rw [h902] at h
    simp only [cond_false] at h ⊢
    obtain ⟨P, g1, g2, g3⟩ := h
    exact ⟨P, g1, g2, fun v M' z => hK _ _ _ _ (g3 v M' z)⟩
  | ireturn =>
    exact h
  | lreturn =>
    exact h
  | areturn =>
    exact h
  | return_ =>
    exact h
  | new n =>
    exact h
  | _ => exact False.elim h
/-! THE CLAIM OUT OF ONE WALK OF THE LAW'S BODY. Your part is whole_start (and what it stands on); all else here is the same for every law, but numbers. -/
def R_law : String := "TurnBoardLaw"
def lw_P (b : Addr) (xs : List Int32) (args : Array Value) (s : State) : Prop := args = #[.ref b] ∧ s.IntsAt b xs ∧ xs.length ≤ 3072 ∧ (Jvm.Cond.and given_1 narrow_1).before args s = true
def lw_Q (_ : Array Value) (s : State) (o : Outcome) (t : State) : Prop := o = .returned (some (.int 1)) ∧ Framed s o t [] 601024 7293034
def lw_Z (below : List Frame) (a : Array Value) (s : State) : State → Prop := fun t => ∃ o, t.status = .running ∧ Ended t below o ∧ lw_Q a s o t
/-- the law's own end, with 1 on the stack, nothing written that was there before, its room as the claim has it -/
theorem lw_ret {p : Program} {l : Launch} {e : Env} {s : State} {m : MethodId} {below : List Frame} {meth : Method} {c : Code} {b : Nat} (hx : p.tables.exec = Jvm.exec) (hb : c.code = code) (hr : meth.sig.returnType = ret) (hlocks : meth.locks = false) {pc : Nat} {H : Heap} {ls : Array Slot} (hdg : decode code pc = .ok (.ireturn, 1)) : W p l e room_1 s m #[Value.ref b] below meth c H [] 601024 7293034 (lw_Z below #[Value.ref b] s) (F0 m pc ls [.int 1]) := by
  intro T hT X
  obtain ⟨fs, hret, hrun, hended, hW, hframe⟩ := X.leave (v := some (.int 1)) (hlocks := hlocks) (fun h => by rw [hr] at h; cases h)
  have hmeth' : T.vm.method? m = some meth := X.method'
  refine ⟨T.setFrames fs, ?_, .returned (some (.int 1)), hrun, hended, rfl, ⟨_, rfl⟩, hW, hframe⟩
  jvm_step X.here [X.here.top, hx, hb, hdg, hmeth', hr, ret, narrow_b1]
  (try refine ⟨rfl, ?_⟩); (try refine ⟨rfl, ?_⟩)
  first | (intro acts; rw [hret _ acts rfl rfl rfl]) | rw [hret _ _ rfl rfl rfl]
  exact Steps.refl _
/-- what holds at the law's entry: the machine, the code, the tables' words (any of lw_tbl by 'hts w (by decide +kernel)'), the script of L ints xs at the cell b, what the Statement gives of the start (any of its parts by flat_of_before) -/
def lw_At (p : Program) (s : State) (m : MethodId) (meth : Method) (c : Code) (b L : Nat) (xs : Nat → Int32) : Prop :=
  p.tables.exec = Jvm.exec ∧ c.code = code ∧ meth.sig.returnType = ret ∧ c.maxLocals = 8 ∧ s.vm.findClass R_law = some m.cls ∧ (∀ w ∈ lw_tbl, w.before #[Value.ref b] s = true) ∧ va_X b L xs s s.heap ∧ b < s.heap.size ∧ meth.locks = false ∧ (Jvm.Cond.and given_1 narrow_1).before #[Value.ref b] s = true
set_option maxRecDepth 100000 in
def k_law : List aE := [(3, .dup, 0, 0, 0, [], 4),
  (7, .astore_n 1, 1, 0, 0, [], 8),
  (11, .dup, 0, 0, 0, [], 12),
  (15, .astore_n 2, 2, 0, 0, [], 16),
  (16, .iconst 1, 0, 0, 1, [], 17),
  (19, .astore_n 3, 3, 0, 0, [], 20),
  (20, .iconst 0, 0, 0, 0, [], 21),
  (21, .istore 4, 4, 0, 0, [], 23),
  (23, .iload 4, 4, 0, 0, [], 25),
  (25, .aload_n 0, 0, 0, 0, [], 26),
  (26, .arraylength, 0, 0, 0, [], 27),
  (27, .bipush 6, 0, 0, 6, [], 29),
  (29, .isub, 0, 0, 0, [], 30),
  (30, .if_icmp .gt 983, 1013, 0, 0, [], 33),
  (33, .aload_n 0, 0, 0, 0, [], 34),
  (34, .iload 4, 4, 0, 0, [], 36),
  (36, .iaload, 0, 0, 0, [], 37),
  (37, .bipush 31, 0, 0, 31, [], 39),
  (39, .iand, 0, 0, 0, [], 40),
  (40, .tableswitch 967 0 27 #[128, 201, 226, 242, 255, 295, 335, 403, 483, 523, 575, 588, 601, 629, 642, 655, 671, 684, 700, 725, 753, 794, 846, 874, 890, 918, 929, 942], 1007, 0, 0, [168, 241, 266, 282, 295, 335, 375, 443, 523, 563, 615, 628, 641, 669, 682, 695, 711, 724, 740, 765, 793, 834, 886, 914, 930, 958, 969, 982], 168),
  (168, .aload_n 1, 1, 0, 0, [], 169),
  (169, .aload_n 0, 0, 0, 0, [], 170),
  (170, .iload 4, 4, 0, 0, [], 172),
  (172, .iconst 1, 0, 0, 1, [], 173),
  (173, .iadd, 0, 0, 0, [], 174),
  (174, .iaload, 0, 0, 0, [], 175),
  (175, .aload_n 0, 0, 0, 0, [], 176),
  (176, .iload 4, 4, 0, 0, [], 178),
  (178, .iconst 2, 0, 0, 2, [], 179),
  (179, .iadd, 0, 0, 0, [], 180),
  (180, .iaload, 0, 0, 0, [], 181),
  (181, .aload_n 0, 0, 0, 0, [], 182),
  (182, .iload 4, 4, 0, 0, [], 184),
  (184, .iconst 3, 0, 0, 3, [], 185),
  (185, .iadd, 0, 0, 0, [], 186),
  (186, .iaload, 0, 0, 0, [], 187),
  (187, .aload_n 0, 0, 0, 0, [], 188),
  (188, .iload 4, 4, 0, 0, [], 190),
  (190, .iconst 4, 0, 0, 4, [], 191),
  (191, .iadd, 0, 0, 0, [], 192),
  (192, .iaload, 0, 0, 0, [], 193),
  (193, .aload_n 0, 0, 0, 0, [], 194),
  (194, .iload 4, 4, 0, 0, [], 196),
  (196, .iconst 5, 0, 0, 5, [], 197),
  (197, .iadd, 0, 0, 0, [], 198),
  (198, .iaload, 0, 0, 0, [], 199),
  (199, .invokevirtual 78, 150, 6, 0, [], 202),
  (202, .pop, 0, 0, 0, [], 203),
  (203, .aload_n 2, 2, 0, 0, [], 204),
  (204, .aload_n 0, 0, 0, 0, [], 205),
  (205, .iload 4, 4, 0, 0, [], 207),
  (207, .iconst 1, 0, 0, 1, [], 208),
  (208, .iadd, 0, 0, 0, [], 209),
  (209, .iaload, 0, 0, 0, [], 210),
  (210, .aload_n 0, 0, 0, 0, [], 211),
  (211, .iload 4, 4, 0, 0, [], 213),
  (213, .iconst 2, 0, 0, 2, [], 214),
  (214, .iadd, 0, 0, 0, [], 215),
  (215, .iaload, 0, 0, 0, [], 216),
  (216, .aload_n 0, 0, 0, 0, [], 217),
  (217, .iload 4, 4, 0, 0, [], 219),
  (219, .iconst 3, 0, 0, 3, [], 220),
  (220, .iadd, 0, 0, 0, [], 221),
  (221, .iaload, 0, 0, 0, [], 222),
  (222, .aload_n 0, 0, 0, 0, [], 223),
  (223, .iload 4, 4, 0, 0, [], 225),
  (225, .iconst 4, 0, 0, 4, [], 226),
  (226, .iadd, 0, 0, 0, [], 227),
  (227, .iaload, 0, 0, 0, [], 228),
  (228, .aload_n 0, 0, 0, 0, [], 229),
  (229, .iload 4, 4, 0, 0, [], 231),
  (231, .iconst 5, 0, 0, 5, [], 232),
  (232, .iadd, 0, 0, 0, [], 233),
  (233, .iaload, 0, 0, 0, [], 234),
  (234, .invokevirtual 82, 200, 6, 0, [], 237),
  (237, .pop, 0, 0, 0, [], 238),
  (238, .goto 769, 1007, 0, 0, [], 241),
  (241, .aload_n 1, 1, 0, 0, [], 242),
  (242, .aload_n 0, 0, 0, 0, [], 243),
  (243, .iload 4, 4, 0, 0, [], 245),
  (245, .iconst 1, 0, 0, 1, [], 246),
  (246, .iadd, 0, 0, 0, [], 247),
  (247, .iaload, 0, 0, 0, [], 248),
  (248, .invokevirtual 83, 151, 2, 0, [], 251),
  (251, .pop, 0, 0, 0, [], 252),
  (252, .aload_n 2, 2, 0, 0, [], 253),
  (253, .aload_n 0, 0, 0, 0, [], 254),
  (254, .iload 4, 4, 0, 0, [], 256),
  (256, .iconst 1, 0, 0, 1, [], 257),
  (257, .iadd, 0, 0, 0, [], 258),
  (258, .iaload, 0, 0, 0, [], 259),
  (259, .invokevirtual 87, 201, 2, 0, [], 262),
  (262, .pop, 0, 0, 0, [], 263),
  (263, .goto 744, 1007, 0, 0, [], 266),
  (266, .aload_n 1, 1, 0, 0, [], 267),
  (267, .aload_n 3, 3, 0, 0, [], 268),
  (271, .istore 5, 5, 0, 0, [], 273),
  (273, .aload_n 2, 2, 0, 0, [], 274),
  (274, .invokevirtual 93, 211, 1, 0, [], 277),
  (277, .istore 6, 6, 0, 0, [], 279),
  (279, .goto 728, 1007, 0, 0, [], 282),
  (282, .aload_n 1, 1, 0, 0, [], 283),
  (283, .invokevirtual 94, 153, 1, 0, [], 286),
  (286, .pop, 0, 0, 0, [], 287),
  (287, .aload_n 2, 2, 0, 0, [], 288),
  (288, .invokevirtual 97, 212, 1, 0, [], 291),
  (291, .pop, 0, 0, 0, [], 292),
  (292, .goto 715, 1007, 0, 0, [], 295),
  (295, .aload_n 1, 1, 0, 0, [], 296),
  (296, .aload_n 0, 0, 0, 0, [], 297),
  (297, .iload 4, 4, 0, 0, [], 299),
  (299, .iconst 1, 0, 0, 1, [], 300),
  (300, .iadd, 0, 0, 0, [], 301),
  (301, .iaload, 0, 0, 0, [], 302),
  (302, .aload_n 0, 0, 0, 0, [], 303),
  (303, .iload 4, 4, 0, 0, [], 305),
  (305, .iconst 2, 0, 0, 2, [], 306),
  (306, .iadd, 0, 0, 0, [], 307),
  (307, .iaload, 0, 0, 0, [], 308),
  (308, .aload_n 3, 3, 0, 0, [], 309),
  (312, .istore 5, 5, 0, 0, [], 314),
  (314, .aload_n 2, 2, 0, 0, [], 315),
  (315, .aload_n 0, 0, 0, 0, [], 316),
  (316, .iload 4, 4, 0, 0, [], 318),
  (318, .iconst 1, 0, 0, 1, [], 319),
  (319, .iadd, 0, 0, 0, [], 320),
  (320, .iaload, 0, 0, 0, [], 321),
  (321, .aload_n 0, 0, 0, 0, [], 322),
  (322, .iload 4, 4, 0, 0, [], 324),
  (324, .iconst 2, 0, 0, 2, [], 325),
  (325, .iadd, 0, 0, 0, [], 326),
  (326, .iaload, 0, 0, 0, [], 327),
  (327, .invokevirtual 101, 213, 3, 0, [], 330),
  (330, .istore 6, 6, 0, 0, [], 332),
  (332, .goto 675, 1007, 0, 0, [], 335),
  (335, .aload_n 1, 1, 0, 0, [], 336),
  (336, .aload_n 0, 0, 0, 0, [], 337),
  (337, .iload 4, 4, 0, 0, [], 339),
  (339, .iconst 1, 0, 0, 1, [], 340),
  (340, .iadd, 0, 0, 0, [], 341),
  (341, .iaload, 0, 0, 0, [], 342),
  (342, .aload_n 0, 0, 0, 0, [], 343),
  (343, .iload 4, 4, 0, 0, [], 345),
  (345, .iconst 2, 0, 0, 2, [], 346),
  (346, .iadd, 0, 0, 0, [], 347),
  (347, .iaload, 0, 0, 0, [], 348),
  (348, .aload_n 3, 3, 0, 0, [], 349),
  (352, .istore 5, 5, 0, 0, [], 354),
  (354, .aload_n 2, 2, 0, 0, [], 355),
  (355, .aload_n 0, 0, 0, 0, [], 356),
  (356, .iload 4, 4, 0, 0, [], 358),
  (358, .iconst 1, 0, 0, 1, [], 359),
  (359, .iadd, 0, 0, 0, [], 360),
  (360, .iaload, 0, 0, 0, [], 361),
  (361, .aload_n 0, 0, 0, 0, [], 362),
  (362, .iload 4, 4, 0, 0, [], 364),
  (364, .iconst 2, 0, 0, 2, [], 365),
  (365, .iadd, 0, 0, 0, [], 366),
  (366, .iaload, 0, 0, 0, [], 367),
  (367, .invokevirtual 104, 214, 3, 0, [], 370),
  (370, .istore 6, 6, 0, 0, [], 372),
  (372, .goto 635, 1007, 0, 0, [], 375),
  (375, .aload_n 1, 1, 0, 0, [], 376),
  (376, .aload_n 0, 0, 0, 0, [], 377),
  (377, .iload 4, 4, 0, 0, [], 379),
  (379, .iconst 1, 0, 0, 1, [], 380),
  (380, .iadd, 0, 0, 0, [], 381),
  (381, .iaload, 0, 0, 0, [], 382),
  (382, .aload_n 0, 0, 0, 0, [], 383),
  (383, .iload 4, 4, 0, 0, [], 385),
  (385, .iconst 2, 0, 0, 2, [], 386),
  (386, .iadd, 0, 0, 0, [], 387),
  (387, .iaload, 0, 0, 0, [], 388),
  (388, .aload_n 0, 0, 0, 0, [], 389),
  (389, .iload 4, 4, 0, 0, [], 391),
  (391, .iconst 3, 0, 0, 3, [], 392),
  (392, .iadd, 0, 0, 0, [], 393),
  (393, .iaload, 0, 0, 0, [], 394),
  (394, .ifCond .eq 7, 401, 0, 0, [], 397),
  (397, .iconst 1, 0, 0, 1, [], 398),
  (398, .goto 4, 402, 0, 0, [], 401),
  (401, .iconst 0, 0, 0, 0, [], 402),
  (402, .aload_n 3, 3, 0, 0, [], 403),
  (406, .istore 5, 5, 0, 0, [], 408),
  (408, .aload_n 2, 2, 0, 0, [], 409),
  (409, .aload_n 0, 0, 0, 0, [], 410),
  (410, .iload 4, 4, 0, 0, [], 412),
  (412, .iconst 1, 0, 0, 1, [], 413),
  (413, .iadd, 0, 0, 0, [], 414),
  (414, .iaload, 0, 0, 0, [], 415),
  (415, .aload_n 0, 0, 0, 0, [], 416),
  (416, .iload 4, 4, 0, 0, [], 418),
  (418, .iconst 2, 0, 0, 2, [], 419),
  (419, .iadd, 0, 0, 0, [], 420),
  (420, .iaload, 0, 0, 0, [], 421),
  (421, .aload_n 0, 0, 0, 0, [], 422),
  (422, .iload 4, 4, 0, 0, [], 424),
  (424, .iconst 3, 0, 0, 3, [], 425),
  (425, .iadd, 0, 0, 0, [], 426),
  (426, .iaload, 0, 0, 0, [], 427),
  (427, .ifCond .eq 7, 434, 0, 0, [], 430),
  (430, .iconst 1, 0, 0, 1, [], 431),
  (431, .goto 4, 435, 0, 0, [], 434),
  (434, .iconst 0, 0, 0, 0, [], 435),
  (435, .invokevirtual 108, 215, 4, 0, [], 438),
  (438, .istore 6, 6, 0, 0, [], 440),
  (440, .goto 567, 1007, 0, 0, [], 443),
  (443, .aload_n 1, 1, 0, 0, [], 444),
  (444, .aload_n 0, 0, 0, 0, [], 445),
  (445, .iload 4, 4, 0, 0, [], 447),
  (447, .iconst 1, 0, 0, 1, [], 448),
  (448, .iadd, 0, 0, 0, [], 449),
  (449, .iaload, 0, 0, 0, [], 450),
  (450, .aload_n 0, 0, 0, 0, [], 451),
  (451, .iload 4, 4, 0, 0, [], 453),
  (453, .iconst 2, 0, 0, 2, [], 454),
  (454, .iadd, 0, 0, 0, [], 455),
  (455, .iaload, 0, 0, 0, [], 456),
  (456, .aload_n 0, 0, 0, 0, [], 457),
  (457, .iload 4, 4, 0, 0, [], 459),
  (459, .iconst 3, 0, 0, 3, [], 460),
  (460, .iadd, 0, 0, 0, [], 461),
  (461, .iaload, 0, 0, 0, [], 462),
  (462, .ifCond .eq 7, 469, 0, 0, [], 465),
  (465, .iconst 1, 0, 0, 1, [], 466),
  (466, .goto 4, 470, 0, 0, [], 469),
  (469, .iconst 0, 0, 0, 0, [], 470),
  (470, .aload_n 0, 0, 0, 0, [], 471),
  (471, .iload 4, 4, 0, 0, [], 473),
  (473, .iconst 4, 0, 0, 4, [], 474),
  (474, .iadd, 0, 0, 0, [], 475),
  (475, .iaload, 0, 0, 0, [], 476),
  (476, .aload_n 3, 3, 0, 0, [], 477),
  (480, .istore 5, 5, 0, 0, [], 482),
  (482, .aload_n 2, 2, 0, 0, [], 483),
  (483, .aload_n 0, 0, 0, 0, [], 484),
  (484, .iload 4, 4, 0, 0, [], 486),
  (486, .iconst 1, 0, 0, 1, [], 487),
  (487, .iadd, 0, 0, 0, [], 488),
  (488, .iaload, 0, 0, 0, [], 489),
  (489, .aload_n 0, 0, 0, 0, [], 490),
  (490, .iload 4, 4, 0, 0, [], 492),
  (492, .iconst 2, 0, 0, 2, [], 493),
  (493, .iadd, 0, 0, 0, [], 494),
  (494, .iaload, 0, 0, 0, [], 495),
  (495, .aload_n 0, 0, 0, 0, [], 496),
  (496, .iload 4, 4, 0, 0, [], 498),
  (498, .iconst 3, 0, 0, 3, [], 499),
  (499, .iadd, 0, 0, 0, [], 500),
  (500, .iaload, 0, 0, 0, [], 501),
  (501, .ifCond .eq 7, 508, 0, 0, [], 504),
  (504, .iconst 1, 0, 0, 1, [], 505),
  (505, .goto 4, 509, 0, 0, [], 508),
  (508, .iconst 0, 0, 0, 0, [], 509),
  (509, .aload_n 0, 0, 0, 0, [], 510),
  (510, .iload 4, 4, 0, 0, [], 512),
  (512, .iconst 4, 0, 0, 4, [], 513),
  (513, .iadd, 0, 0, 0, [], 514),
  (514, .iaload, 0, 0, 0, [], 515),
  (515, .invokevirtual 112, 218, 5, 0, [], 518),
  (518, .istore 6, 6, 0, 0, [], 520),
  (520, .goto 487, 1007, 0, 0, [], 523),
  (523, .aload_n 1, 1, 0, 0, [], 524),
  (524, .aload_n 0, 0, 0, 0, [], 525),
  (525, .iload 4, 4, 0, 0, [], 527),
  (527, .iconst 1, 0, 0, 1, [], 528),
  (528, .iadd, 0, 0, 0, [], 529),
  (529, .iaload, 0, 0, 0, [], 530),
  (530, .aload_n 0, 0, 0, 0, [], 531),
  (531, .iload 4, 4, 0, 0, [], 533),
  (533, .iconst 2, 0, 0, 2, [], 534),
  (534, .iadd, 0, 0, 0, [], 535),
  (535, .iaload, 0, 0, 0, [], 536),
  (536, .aload_n 3, 3, 0, 0, [], 537),
  (540, .istore 5, 5, 0, 0, [], 542),
  (542, .aload_n 2, 2, 0, 0, [], 543),
  (543, .aload_n 0, 0, 0, 0, [], 544),
  (544, .iload 4, 4, 0, 0, [], 546),
  (546, .iconst 1, 0, 0, 1, [], 547),
  (547, .iadd, 0, 0, 0, [], 548),
  (548, .iaload, 0, 0, 0, [], 549),
  (549, .aload_n 0, 0, 0, 0, [], 550),
  (550, .iload 4, 4, 0, 0, [], 552),
  (552, .iconst 2, 0, 0, 2, [], 553),
  (553, .iadd, 0, 0, 0, [], 554),
  (554, .iaload, 0, 0, 0, [], 555),
  (555, .invokevirtual 115, 219, 3, 0, [], 558),
  (558, .istore 6, 6, 0, 0, [], 560),
  (560, .goto 447, 1007, 0, 0, [], 563),
  (563, .aload_n 1, 1, 0, 0, [], 564),
  (564, .aload_n 0, 0, 0, 0, [], 565),
  (565, .iload 4, 4, 0, 0, [], 567),
  (567, .iconst 1, 0, 0, 1, [], 568),
  (568, .iadd, 0, 0, 0, [], 569),
  (569, .iaload, 0, 0, 0, [], 570),
  (570, .aload_n 0, 0, 0, 0, [], 571),
  (571, .iload 4, 4, 0, 0, [], 573),
  (573, .iconst 2, 0, 0, 2, [], 574),
  (574, .iadd, 0, 0, 0, [], 575),
  (575, .iaload, 0, 0, 0, [], 576),
  (576, .aload_n 0, 0, 0, 0, [], 577),
  (577, .iload 4, 4, 0, 0, [], 579),
  (579, .iconst 3, 0, 0, 3, [], 580),
  (580, .iadd, 0, 0, 0, [], 581),
  (581, .iaload, 0, 0, 0, [], 582),
  (582, .aload_n 3, 3, 0, 0, [], 583),
  (586, .istore 5, 5, 0, 0, [], 588),
  (588, .aload_n 2, 2, 0, 0, [], 589),
  (589, .aload_n 0, 0, 0, 0, [], 590),
  (590, .iload 4, 4, 0, 0, [], 592),
  (592, .iconst 1, 0, 0, 1, [], 593),
  (593, .iadd, 0, 0, 0, [], 594),
  (594, .iaload, 0, 0, 0, [], 595),
  (595, .aload_n 0, 0, 0, 0, [], 596),
  (596, .iload 4, 4, 0, 0, [], 598),
  (598, .iconst 2, 0, 0, 2, [], 599),
  (599, .iadd, 0, 0, 0, [], 600),
  (600, .iaload, 0, 0, 0, [], 601),
  (601, .aload_n 0, 0, 0, 0, [], 602),
  (602, .iload 4, 4, 0, 0, [], 604),
  (604, .iconst 3, 0, 0, 3, [], 605),
  (605, .iadd, 0, 0, 0, [], 606),
  (606, .iaload, 0, 0, 0, [], 607),
  (607, .invokevirtual 119, 220, 4, 0, [], 610),
  (610, .istore 6, 6, 0, 0, [], 612),
  (612, .goto 395, 1007, 0, 0, [], 615),
  (615, .aload_n 1, 1, 0, 0, [], 616),
  (616, .invokevirtual 120, 160, 1, 0, [], 619),
  (619, .pop, 0, 0, 0, [], 620),
  (620, .aload_n 2, 2, 0, 0, [], 621),
  (621, .invokevirtual 123, 221, 1, 0, [], 624),
  (624, .pop, 0, 0, 0, [], 625),
  (625, .goto 382, 1007, 0, 0, [], 628),
  (628, .aload_n 1, 1, 0, 0, [], 629),
  (629, .invokevirtual 124, 161, 1, 0, [], 632),
  (632, .pop, 0, 0, 0, [], 633),
  (633, .aload_n 2, 2, 0, 0, [], 634),
  (634, .invokevirtual 127, 222, 1, 0, [], 637),
  (637, .pop, 0, 0, 0, [], 638),
  (638, .goto 369, 1007, 0, 0, [], 641),
  (641, .aload_n 1, 1, 0, 0, [], 642),
  (642, .aload_n 0, 0, 0, 0, [], 643),
  (643, .iload 4, 4, 0, 0, [], 645),
  (645, .iconst 1, 0, 0, 1, [], 646),
  (646, .iadd, 0, 0, 0, [], 647),
  (647, .iaload, 0, 0, 0, [], 648),
  (648, .aload_n 3, 3, 0, 0, [], 649),
  (652, .istore 5, 5, 0, 0, [], 654),
  (654, .aload_n 2, 2, 0, 0, [], 655),
  (655, .aload_n 0, 0, 0, 0, [], 656),
  (656, .iload 4, 4, 0, 0, [], 658),
  (658, .iconst 1, 0, 0, 1, [], 659),
  (659, .iadd, 0, 0, 0, [], 660),
  (660, .iaload, 0, 0, 0, [], 661),
  (661, .invokevirtual 131, 226, 2, 0, [], 664),
  (664, .istore 6, 6, 0, 0, [], 666),
  (666, .goto 341, 1007, 0, 0, [], 669),
  (669, .aload_n 1, 1, 0, 0, [], 670),
  (670, .invokevirtual 132, 163, 1, 0, [], 673),
  (673, .pop2, 0, 0, 0, [], 674),
  (674, .aload_n 2, 2, 0, 0, [], 675),
  (675, .invokevirtual 135, 228, 1, 0, [], 678),
  (678, .pop2, 0, 0, 0, [], 679),
  (679, .goto 328, 1007, 0, 0, [], 682),
  (682, .aload_n 1, 1, 0, 0, [], 683),
  (683, .invokevirtual 136, 164, 1, 0, [], 686),
  (686, .aload_n 2, 2, 0, 0, [], 687),
  (687, .invokevirtual 139, 230, 1, 0, [], 690),
  (690, .if_icmp .eq 317, 1007, 0, 0, [], 693),
  (693, .iconst 0, 0, 0, 0, [], 694),
  (694, .ireturn, 0, 0, 0, [], 695),
  (695, .aload_n 1, 1, 0, 0, [], 696),
  (696, .aload_n 3, 3, 0, 0, [], 697),
  (700, .istore 5, 5, 0, 0, [], 702),
  (702, .aload_n 2, 2, 0, 0, [], 703),
  (703, .invokevirtual 142, 231, 1, 0, [], 706),
  (706, .istore 6, 6, 0, 0, [], 708),
  (708, .goto 299, 1007, 0, 0, [], 711),
  (711, .aload_n 1, 1, 0, 0, [], 712),
  (712, .invokevirtual 143, 166, 1, 0, [], 715),
  (715, .pop2, 0, 0, 0, [], 716),
  (716, .aload_n 2, 2, 0, 0, [], 717),
  (717, .invokevirtual 146, 238, 1, 0, [], 720),
  (720, .pop2, 0, 0, 0, [], 721),
  (721, .goto 286, 1007, 0, 0, [], 724),
  (724, .aload_n 1, 1, 0, 0, [], 725),
  (725, .aload_n 3, 3, 0, 0, [], 726),
  (729, .istore 5, 5, 0, 0, [], 731),
  (731, .aload_n 2, 2, 0, 0, [], 732),
  (732, .invokevirtual 149, 242, 1, 0, [], 735),
  (735, .lstore 6, 6, 0, 0, [], 737),
  (737, .goto 270, 1007, 0, 0, [], 740),
  (740, .aload_n 1, 1, 0, 0, [], 741),
  (741, .aload_n 0, 0, 0, 0, [], 742),
  (742, .iload 4, 4, 0, 0, [], 744),
  (744, .iconst 1, 0, 0, 1, [], 745),
  (745, .iadd, 0, 0, 0, [], 746),
  (746, .iaload, 0, 0, 0, [], 747),
  (747, .invokevirtual 150, 168, 2, 0, [], 750),
  (750, .pop2, 0, 0, 0, [], 751),
  (751, .aload_n 2, 2, 0, 0, [], 752),
  (752, .aload_n 0, 0, 0, 0, [], 753),
  (753, .iload 4, 4, 0, 0, [], 755),
  (755, .iconst 1, 0, 0, 1, [], 756),
  (756, .iadd, 0, 0, 0, [], 757),
  (757, .iaload, 0, 0, 0, [], 758),
  (758, .invokevirtual 153, 239, 2, 0, [], 761),
  (761, .pop2, 0, 0, 0, [], 762),
  (762, .goto 245, 1007, 0, 0, [], 765),
  (765, .aload_n 1, 1, 0, 0, [], 766),
  (766, .aload_n 0, 0, 0, 0, [], 767),
  (767, .iload 4, 4, 0, 0, [], 769),
  (769, .iconst 1, 0, 0, 1, [], 770),
  (770, .iadd, 0, 0, 0, [], 771),
  (771, .iaload, 0, 0, 0, [], 772),
  (772, .aload_n 3, 3, 0, 0, [], 773),
  (776, .istore 5, 5, 0, 0, [], 778),
  (778, .aload_n 2, 2, 0, 0, [], 779),
  (779, .aload_n 0, 0, 0, 0, [], 780),
  (780, .iload 4, 4, 0, 0, [], 782),
  (782, .iconst 1, 0, 0, 1, [], 783),
  (783, .iadd, 0, 0, 0, [], 784),
  (784, .iaload, 0, 0, 0, [], 785),
  (785, .invokevirtual 156, 246, 2, 0, [], 788),
  (788, .lstore 6, 6, 0, 0, [], 790),
  (790, .goto 217, 1007, 0, 0, [], 793),
  (793, .aload_n 1, 1, 0, 0, [], 794),
  (794, .aload_n 0, 0, 0, 0, [], 795),
  (795, .iload 4, 4, 0, 0, [], 797),
  (797, .iconst 1, 0, 0, 1, [], 798),
  (798, .iadd, 0, 0, 0, [], 799),
  (799, .iaload, 0, 0, 0, [], 800),
  (800, .ifCond .eq 7, 807, 0, 0, [], 803),
  (803, .iconst 1, 0, 0, 1, [], 804),
  (804, .goto 4, 808, 0, 0, [], 807),
  (807, .iconst 0, 0, 0, 0, [], 808),
  (808, .invokevirtual 157, 170, 2, 0, [], 811),
  (811, .pop, 0, 0, 0, [], 812),
  (812, .aload_n 2, 2, 0, 0, [], 813),
  (813, .aload_n 0, 0, 0, 0, [], 814),
  (814, .iload 4, 4, 0, 0, [], 816),
  (816, .iconst 1, 0, 0, 1, [], 817),
  (817, .iadd, 0, 0, 0, [], 818),
  (818, .iaload, 0, 0, 0, [], 819),
  (819, .ifCond .eq 7, 826, 0, 0, [], 822),
  (822, .iconst 1, 0, 0, 1, [], 823),
  (823, .goto 4, 827, 0, 0, [], 826),
  (826, .iconst 0, 0, 0, 0, [], 827),
  (827, .invokevirtual 161, 248, 2, 0, [], 830),
  (830, .pop, 0, 0, 0, [], 831),
  (831, .goto 176, 1007, 0, 0, [], 834),
  (834, .aload_n 1, 1, 0, 0, [], 835),
  (835, .aload_n 0, 0, 0, 0, [], 836),
  (836, .iload 4, 4, 0, 0, [], 838),
  (838, .iconst 1, 0, 0, 1, [], 839),
  (839, .iadd, 0, 0, 0, [], 840),
  (840, .iaload, 0, 0, 0, [], 841),
  (841, .aload_n 0, 0, 0, 0, [], 842),
  (842, .iload 4, 4, 0, 0, [], 844),
  (844, .iconst 2, 0, 0, 2, [], 845),
  (845, .iadd, 0, 0, 0, [], 846),
  (846, .iaload, 0, 0, 0, [], 847),
  (847, .aload_n 0, 0, 0, 0, [], 848),
  (848, .iload 4, 4, 0, 0, [], 850),
  (850, .iconst 3, 0, 0, 3, [], 851),
  (851, .iadd, 0, 0, 0, [], 852),
  (852, .iaload, 0, 0, 0, [], 853),
  (853, .aload_n 3, 3, 0, 0, [], 854),
  (857, .istore 5, 5, 0, 0, [], 859),
  (859, .aload_n 2, 2, 0, 0, [], 860),
  (860, .aload_n 0, 0, 0, 0, [], 861),
  (861, .iload 4, 4, 0, 0, [], 863),
  (863, .iconst 1, 0, 0, 1, [], 864),
  (864, .iadd, 0, 0, 0, [], 865),
  (865, .iaload, 0, 0, 0, [], 866),
  (866, .aload_n 0, 0, 0, 0, [], 867),
  (867, .iload 4, 4, 0, 0, [], 869),
  (869, .iconst 2, 0, 0, 2, [], 870),
  (870, .iadd, 0, 0, 0, [], 871),
  (871, .iaload, 0, 0, 0, [], 872),
  (872, .aload_n 0, 0, 0, 0, [], 873),
  (873, .iload 4, 4, 0, 0, [], 875),
  (875, .iconst 3, 0, 0, 3, [], 876),
  (876, .iadd, 0, 0, 0, [], 877),
  (877, .iaload, 0, 0, 0, [], 878),
  (878, .invokevirtual 164, 250, 4, 0, [], 881),
  (881, .lstore 6, 6, 0, 0, [], 883),
  (883, .goto 124, 1007, 0, 0, [], 886),
  (886, .aload_n 1, 1, 0, 0, [], 887),
  (887, .aload_n 0, 0, 0, 0, [], 888),
  (888, .iload 4, 4, 0, 0, [], 890),
  (890, .iconst 1, 0, 0, 1, [], 891),
  (891, .iadd, 0, 0, 0, [], 892),
  (892, .iaload, 0, 0, 0, [], 893),
  (893, .aload_n 3, 3, 0, 0, [], 894),
  (897, .istore 5, 5, 0, 0, [], 899),
  (899, .aload_n 2, 2, 0, 0, [], 900),
  (900, .aload_n 0, 0, 0, 0, [], 901),
  (901, .iload 4, 4, 0, 0, [], 903),
  (903, .iconst 1, 0, 0, 1, [], 904),
  (904, .iadd, 0, 0, 0, [], 905),
  (905, .iaload, 0, 0, 0, [], 906),
  (906, .invokevirtual 167, 252, 2, 0, [], 909),
  (909, .istore 6, 6, 0, 0, [], 911),
  (911, .goto 96, 1007, 0, 0, [], 914),
  (914, .aload_n 1, 1, 0, 0, [], 915),
  (915, .aload_n 3, 3, 0, 0, [], 916),
  (919, .istore 5, 5, 0, 0, [], 921),
  (921, .aload_n 2, 2, 0, 0, [], 922),
  (922, .invokevirtual 170, 253, 1, 0, [], 925),
  (925, .lstore 6, 6, 0, 0, [], 927),
  (927, .goto 80, 1007, 0, 0, [], 930),
  (930, .aload_n 1, 1, 0, 0, [], 931),
  (931, .aload_n 0, 0, 0, 0, [], 932),
  (932, .iload 4, 4, 0, 0, [], 934),
  (934, .iconst 1, 0, 0, 1, [], 935),
  (935, .iadd, 0, 0, 0, [], 936),
  (936, .iaload, 0, 0, 0, [], 937),
  (937, .aload_n 3, 3, 0, 0, [], 938),
  (941, .istore 5, 5, 0, 0, [], 943),
  (943, .aload_n 2, 2, 0, 0, [], 944),
  (944, .aload_n 0, 0, 0, 0, [], 945),
  (945, .iload 4, 4, 0, 0, [], 947),
  (947, .iconst 1, 0, 0, 1, [], 948),
  (948, .iadd, 0, 0, 0, [], 949),
  (949, .iaload, 0, 0, 0, [], 950),
  (950, .invokevirtual 173, 254, 2, 0, [], 953),
  (953, .lstore 6, 6, 0, 0, [], 955),
  (955, .goto 52, 1007, 0, 0, [], 958),
  (958, .aload_n 1, 1, 0, 0, [], 959),
  (959, .invokevirtual 174, 175, 1, 0, [], 962),
  (962, .aload_n 2, 2, 0, 0, [], 963),
  (963, .invokevirtual 177, 255, 1, 0, [], 966),
  (966, .goto 41, 1007, 0, 0, [], 969),
  (969, .aload_n 1, 1, 0, 0, [], 970),
  (970, .invokevirtual 178, 176, 1, 0, [], 973),
  (973, .pop, 0, 0, 0, [], 974),
  (974, .aload_n 2, 2, 0, 0, [], 975),
  (975, .invokevirtual 181, 256, 1, 0, [], 978),
  (978, .pop, 0, 0, 0, [], 979),
  (979, .goto 28, 1007, 0, 0, [], 982),
  (982, .aload_n 1, 1, 0, 0, [], 983),
  (983, .aload_n 0, 0, 0, 0, [], 984),
  (984, .iload 4, 4, 0, 0, [], 986),
  (986, .iconst 1, 0, 0, 1, [], 987),
  (987, .iadd, 0, 0, 0, [], 988),
  (988, .iaload, 0, 0, 0, [], 989),
  (989, .invokevirtual 182, 177, 2, 0, [], 992),
  (992, .pop, 0, 0, 0, [], 993),
  (993, .aload_n 2, 2, 0, 0, [], 994),
  (994, .aload_n 0, 0, 0, 0, [], 995),
  (995, .iload 4, 4, 0, 0, [], 997),
  (997, .iconst 1, 0, 0, 1, [], 998),
  (998, .iadd, 0, 0, 0, [], 999),
  (999, .iaload, 0, 0, 0, [], 1000),
  (1000, .invokevirtual 185, 257, 2, 0, [], 1003),
  (1003, .pop, 0, 0, 0, [], 1004),
  (1004, .goto 3, 1007, 0, 0, [], 1007),
  (1007, .iinc 4 6, 4, 0, 6, [], 1010),
  (1010, .goto (-987), 23, 0, 0, [], 1013),
  (1013, .iconst 1, 0, 0, 1, [], 1014),
  (1014, .ireturn, 0, 0, 0, [], 1015)]
set_option maxRecDepth 100000 in
def k_lawW : List aE := [(268, .invokestatic 88, 0, 2, 0, [], 271),
  (309, .invokestatic 98, 1, 4, 0, [], 312),
  (349, .invokestatic 102, 2, 4, 0, [], 352),
  (403, .invokestatic 105, 3, 5, 0, [], 406),
  (477, .invokestatic 109, 4, 6, 0, [], 480),
  (537, .invokestatic 113, 5, 4, 0, [], 540),
  (583, .invokestatic 116, 6, 5, 0, [], 586),
  (649, .invokestatic 128, 7, 3, 0, [], 652),
  (697, .invokestatic 140, 8, 2, 0, [], 700),
  (726, .invokestatic 147, 9, 2, 0, [], 729),
  (773, .invokestatic 154, 10, 3, 0, [], 776),
  (854, .invokestatic 162, 11, 5, 0, [], 857),
  (894, .invokestatic 165, 12, 3, 0, [], 897),
  (916, .invokestatic 168, 13, 2, 0, [], 919),
  (938, .invokestatic 171, 14, 3, 0, [], 941)]
def a_wlT : List (Nat × Nat × Nat) := [(88, 0, 777), (98, 1, 1058), (102, 2, 1087), (105, 3, 1127), (109, 4, 1137), (113, 5, 1159), (116, 6, 1169), (128, 7, 1183), (140, 8, 1271), (147, 9, 1311), (154, 10, 1370), (162, 11, 1405), (165, 12, 1419), (168, 13, 1435), (171, 14, 1450)]
/-! the law's body in the small machine -/
def a_wpW (nS d : Nat) (K : Nat → aK) (n pc : Nat) (L : aL) (S : List aV) (M : aM) : Prop :=
  match a_fnd k_lawW pc with
  | some (.invokestatic _, x, y, _, _, nx) => n < 1000 ∧ ∃ P, aCW nS d x (S.take y).reverse M P ∧ (Nat.ble (a_wid (S.drop y)) 8 && Nat.ble y S.length) = true ∧ ∀ v M', P v M' → K (n + 1) nx L (a_res v (S.drop y)) M'
  | _ => False
/-- the law, from a place of its body on: it comes to its end, with true -/
def aCL (nS d : Nat) (pc0 : Nat) (L0 : aL) (M0 : aM) : Prop :=
  ∀ K : Nat → aK, (∀ n pc L S M, a_wp d nS (fun y as M P => aC nS d y as M P (fun _ _ => False)) ret k_law (fun _ _ => False) (fun _ _ => False) (K n) pc L S M → K n pc L S M) →
    (∀ n pc L S M, a_wpW nS d K n pc L S M → K n pc L S M) → (∀ n pc L M e, a_fnd k_law pc = some e → e.1 = .ireturn → K n pc L [vI 1] M) →
    (∀ n pc L L' S M, a_le L' L → K n pc L' S M → K n pc L S M) → K 0 pc0 L0 [] M0
def a_lwB (e : aE) : Bool := match e with
  | (pc, i, x, y, _, _, nx) => match i with
    | .invokestatic ix => decide (decode code pc = .ok (.invokestatic ix, 3)) && Nat.beq nx (pc + 3) && (match a_wt[x]? with
      | some (nm, _, _, _, na, _, _) => Nat.beq na y && a_wlT.any (fun q => Nat.beq q.1 ix && (Nat.beq q.2.1 x && a_w q.2.2 (.methodLink "TurnBoardLaw" ix nm)))
      | none => false)
    | _ => false
theorem a_lwB_ok : k_lawW.all a_lwB = true := by decide +kernel
set_option maxHeartbeats 4000000 in
theorem a_soundL {l : Launch} (hl : l.stackTraces = false) {p : Program} {e : Env} {s : State} {m : MethodId} {below : List Frame} {meth : Method} {c : Code} {b : Nat} {D : va_G} {cA cL : ClassId} {ad : Nat → Nat → Nat} {adV : Nat → Nat} {lv : List (Nat × Nat)} {nS : Nat} {xs : Nat → Int32} (hmt : ∀ m ∈ a_mt, a_ckM m = true) (hwt : ∀ m ∈ a_wt, a_ckW m = true) (hckL : a_ckP code 12 8 k_law = true) (hinj : a_inj lv) (hclo : a_clo lv) (hO1 : a_adOK ad)
    (hnew : ∀ q ∈ lv, s.heap.size ≤ ad q.1 q.2) (Cx : a_Cx p s m #[Value.ref b] meth c D cA cL ad lv (a_X ad adV nS xs) 8 code 12 ret) {kc ks : Nat} (hkc : kc + 1001 ≤ 601024) (hks : ks + 6006 ≤ 7293034) {pc0 : Nat} {L0 : aL} {M0 : aM} (h : aCL nS 60 pc0 L0 M0) :
    a_KW p l e room_1 s m #[Value.ref b] below meth c D cA cL ad lv nS xs 8 kc ks (lw_Z below #[Value.ref b] s) pc0 L0 [] M0 := by
  have hcal : ∀ y as M P, aC nS 60 y as M P (fun _ _ => False) → a_J l D cA cL ad lv nS xs (a_X ad adV nS xs) 60 y as M P := fun y as M P hc => a_sound a_Xok hmt hinj hclo (a_RuX hO1) 60 y as M P hc
  have hR : 60 + 1 ≤ room_1.frames ∧ 64 * 60 + 41 ≤ room_1.locals := ⟨Nat.le_of_ble_eq_true rfl, Nat.le_of_ble_eq_true rfl⟩
  have Cx' := Cx
  obtain ⟨hx, hb, hr, hml, hown, hts, hlocks, hK, hDall, -, -, hXs⟩ := Cx
  have key := h (fun n pc L S M => n ≤ 1000 → a_KW p l e room_1 s m #[Value.ref b] below meth c D cA cL ad lv nS xs 8 (kc + n) (ks + 6 * n) (lw_Z below #[Value.ref b] s) pc L S M) ?_ ?_ ?_ ?_ (Nat.zero_le _)
  · exact key
  · intro n pc L S M h9 hn
    have hC : kc + n ≤ room_1.cells ∧ ks + 6 * n ≤ room_1.slots := ⟨by show kc + n ≤ 601024; omega, by show ks + 6 * n ≤ 7293034; omega⟩
    refine a_step Cx' a_Xok hckL hmt hR hC hcal (mc := kc + n) (ms := ks + 6 * n) (post := fun _ _ => False) (px := fun _ _ => False) (fun H locs g hq T hT X => ?_) (a_RuX hO1 p e room_1 s m _ below meth c 8 (kc + n) (ks + 6 * n) code 12 60 ret (lw_Z below #[Value.ref b] s) Cx' hR hC) (a_wp_mono (fun pc L S M hk => hk hn) h9)
    obtain ⟨t, a1, o, g1, g2, ⟨⟨v, M', g3, g4, g5⟩, g6⟩, g7⟩ := hq T hT X
    exact False.elim g4
  · intro n pc L S M h9 hn H locs ls hP9 hS9 hLR9 hoL9 hoS9 hsc9
    unfold a_wpW at h9
    cases hf : a_fnd k_lawW pc with
    | none => rw [hf] at h9; exact False.elim h9
    | some ee =>
      obtain ⟨i, x, y, c0, t, nx⟩ := ee
      rw [hf] at h9
      have hB := List.all_eq_true.mp a_lwB_ok _ (a_fnd_mem k_lawW pc _ hf)
      unfold a_lwB at hB
      dsimp only at hB h9
      cases i with
      | invokestatic ix =>
        dsimp only at hB h9
        obtain ⟨hn9, P, hC9, hb9, hk9⟩ := h9
        simp only [Bool.and_eq_true, decide_eq_true_eq] at hB hb9
        obtain ⟨⟨hd, hnx⟩, hB⟩ := hB
        have hnx := Nat.eq_of_beq_eq_true hnx
        subst hnx
        cases hwx : a_wt[x]? with
        | none => rw [hwx] at hB; cases hB
        | some wm =>
          obtain ⟨nm, b', nL', hh', na', ps', cd'⟩ := wm
          rw [hwx] at hB
          simp only [Bool.and_eq_true] at hB
          have hna := Nat.eq_of_beq_eq_true hB.1
          subst hna
          obtain ⟨q, hq1, hq2⟩ := List.any_eq_true.mp hB.2
          simp only [Bool.and_eq_true] at hq2
          have hlk := a_w_in hq2.2.2
          obtain ⟨hck', hpl', hn1, hn2, hpar, hcl', hnL', hcw', hsta, hini⟩ := a_wtf hwt hwx
          have hJ := a_soundW (xs := xs) (adV := adV) (D := D) (cA := cA) (cL := cL) hl hmt hwt hinj hclo hO1 59 x _ M P hC9 nm b' nL' hh' na' ps' cd' hwx H.size
          have hwid := Nat.le_of_ble_eq_true hb9.1
          have hyl := Nat.le_of_ble_eq_true hb9.2
          have hoA9 : ∀ v ∈ (S.take na').reverse, a_okv lv v := fun v hv => hoS9 v (List.mem_of_mem_take (List.mem_reverse.mp hv))
          have hpc := a_Pc_at Cx' a_Xok hP9 hS9 hoA9 hsc9
          have cw : vx_CSW room_1 s #[Value.ref b] "TurnBoardLaw" ix nm b' nL' (some .int) hh' (Cond.codeWith nm b' nL' (some .int) hh' :: a_tbl) (a_rm 61 1) 1 6 na' := by
            refine ⟨⟨rfl, rfl, Nat.le_of_ble_eq_true rfl, ?_, fun w hw a' U hW => ?_, List.mem_cons_self⟩, hts _ hcw', hts _ hini, ⟨hn1, hn2⟩, fun sig hsig => ?_, hts _ hlk, hts _ hsta⟩
            · show 8 + (nL' + 11) + 64 * 61 ≤ 84000
              omega
            · have hm : w ∈ a_tbl := by
                rcases List.mem_cons.mp hw with h | h
                · rw [h]; exact hcw'
                · exact h
              exact word_at hW (good_of_word (List.mem_filter.mp hm).2) (hts w hm)
            · rw [hsig] at hpar
              exact (Option.some.inj hpar).symm
          have hrun := vx_runSX (R := room_1) (As := (S.take na').reverse.map (a_tr ad)) (rest := (S.drop na').map (a_tr ad)) (g := F0 m pc ls (S.map (a_tr ad))) (cells := kc + n) (slots := ks + 6 * n) (locs := locs) (e := e) (below := below) (meth := meth) (Ts := a_tbl) ⟨hx, hb, hml, hown, hts⟩ hJ cw ⟨a_blind a_Xok, hpc⟩ rfl (by simp; omega) hLR9.2.1 (by
              show S.map (a_tr ad) = _
              conv => lhs; rw [← List.take_append_drop na' S]
              simp) (lv_room (by rw [a_wid_eq]; exact hwid)) hd ⟨by show kc + n + 1 ≤ 601024; omega, by show ks + 6 * n + 6 ≤ 7293034; omega⟩
          have hsub : ∀ q, a_A ad lv H.size q → a_A ad lv s.heap.size q := fun q hq => by
            rcases hq with hq | hq
            · exact Or.inl hq
            · exact Or.inr (Nat.le_trans hS9.1 hq)
          intro T hT XX
          rcases hrun T hT XX with ⟨v, st₀, t9, T', Lx, h0, X', hL, e1, e2, ⟨⟨v0, M', hv, hpost, hokv, hPM, hsc'⟩, hz, hkk⟩, st⟩ | ⟨q, st₀, t9, T', Lx, E, ce, h0, X', hL, e1, e2, hF9, -⟩
          · obtain ⟨k1, k2, k3⟩ := vx_keep (A1 := a_A ad lv H.size) h0 e1 hS9 (fun q _ hq => hsub q hq) hsub hL ⟨hz, hkk⟩
            have hv : v = v0.map (a_tr ad) := by injection hv
            have e9 : v.toList ++ (S.drop na').map (a_tr ad) = (a_res v0 (S.drop na')).map (a_tr ad) := by
              subst hv
              cases v0 <;> rfl
            have hoS' : ∀ w ∈ a_res v0 (S.drop na'), a_okv lv w := by
              cases v0 with
              | none => exact fun v hv => hoS9 v (List.mem_of_mem_drop hv)
              | some w => exact List.forall_mem_cons.mpr ⟨hokv w rfl, fun v hv => hoS9 v (List.mem_of_mem_drop hv)⟩
            obtain ⟨t2, a1, b1⟩ := hk9 v0 M' hpost (by omega) T'.heap (locs ++ Lx) ls (by rw [e1]; exact hPM) k3 hLR9 hoL9 hoS' hsc' T' rfl X'
            rw [← e9] at a1
            exact ⟨t2, st t2 a1, b1⟩
          · exact False.elim hF9
      | _ => exact False.elim h9
  · intro n pc L M ee hf hi hn H locs ls hP9 hS9 hLR9 hoL9 hoS9 hsc9
    obtain ⟨len, hd, hc⟩ := a_fnd_ck hckL hf
    obtain ⟨i, x, y, c0, t, nx⟩ := ee
    dsimp only at hi hd
    subst hi
    obtain ⟨rfl, rfl⟩ := a_len3 (show (Nat.beq len 1 && Nat.beq nx (pc + 1)) = true from hc)
    refine W.widen (k := 601024) (n := 7293034) (by omega) (by omega) ?_
    refine va_forget (fun q hq => ?_) ?_
    · rcases hS9.2.2 q hq with ⟨r, hr1, hr2⟩ | hq9
      · rw [hr2]; exact hnew r hr1
      · exact hq9
    · exact lw_ret hx hb hr hlocks hd
  · intro n pc L L' S M hle hk hn
    exact a_KW_le hle (hk hn)
