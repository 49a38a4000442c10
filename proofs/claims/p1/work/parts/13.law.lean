theorem a_swc_mono {K K' : Nat → Prop} (h : ∀ q, K q → K' q) {v : Int32} : ∀ {n : Nat} {t : List Nat}, a_swc K v n t → a_swc K' v n t
  | _, [], _ => trivial
  | _, _ :: _, hs => ⟨fun z => h _ (hs.1 z), a_swc_mono h hs.2⟩
set_option maxHeartbeats 2000000 in
theorem a_wp_mono {d nS : Nat} {cal : Nat → List aV → aM → (Option aV → aM → Prop) → Prop} {rt : Option FieldType} {cd : List aE} {post : Option aV → aM → Prop} {px : Nat → aM → Prop} {K K' : aK} (hK : ∀ pc L S M, K pc L S M → K' pc L S M) {pc : Nat} {L : aL} {S : List aV} {M : aM} (h : a_wp d nS cal rt cd post px K pc L S M) : a_wp d nS cal rt cd post px K' pc L S M := by
  unfold a_wp at h ⊢
  cases hf : a_fnd cd pc with
  | none => rw [hf] at h; exact False.elim h
  | some ee =>
  obtain ⟨i, x, y, c0, t, nx⟩ := ee
  rw [hf] at h
  dsimp only at h ⊢
  cases i with
  | iconst n =>
    exact hK _ _ _ _ h
  | bipush n =>
    exact hK _ _ _ _ h
  | sipush n =>
    exact hK _ _ _ _ h
  | ldc_w n =>
    exact hK _ _ _ _ h
  | goto n =>
    exact hK _ _ _ _ h
  | ldc n =>
    cases y with
    | zero => exact hK _ _ _ _ h
    | succ y => exact hK _ _ _ _ h
  | lconst n =>
    cases x with
    | zero => exact hK _ _ _ _ h
    | succ x => exact hK _ _ _ _ h
  | iload_n n =>
    unfold a_w1 at h ⊢
    dsimp only at h ⊢
    split at h
    · exact hK _ _ _ _ h
    · exact False.elim h
  | iload n =>
    unfold a_w1 at h ⊢
    dsimp only at h ⊢
    split at h
    · exact hK _ _ _ _ h
    · exact False.elim h
  | lload_n n =>
    unfold a_w1 at h ⊢
    dsimp only at h ⊢
    split at h
    · exact hK _ _ _ _ h
    · exact False.elim h
  | lload n =>
    unfold a_w1 at h ⊢
    dsimp only at h ⊢
    split at h
    · exact hK _ _ _ _ h
    · exact False.elim h
  | aload_n n =>
    unfold a_w1 at h ⊢
    dsimp only at h ⊢
    split at h
    · exact hK _ _ _ _ h
    · exact False.elim h
  | aload n =>
    unfold a_w1 at h ⊢
    dsimp only at h ⊢
    split at h
    · exact hK _ _ _ _ h
    · exact False.elim h
  | iinc n k =>
    unfold a_w1 at h ⊢
    dsimp only at h ⊢
    split at h
    · exact hK _ _ _ _ h
    · exact False.elim h
  | istore_n n =>
    unfold a_w1 at h ⊢
    dsimp only at h ⊢
    split at h
    · exact hK _ _ _ _ h
    · exact False.elim h
  | istore n =>
    unfold a_w1 at h ⊢
    dsimp only at h ⊢
    split at h
    · exact hK _ _ _ _ h
    · exact False.elim h
  | lstore_n n =>
    unfold a_w1 at h ⊢
    dsimp only at h ⊢
    split at h
    · exact hK _ _ _ _ h
    · exact False.elim h
  | lstore n =>
    unfold a_w1 at h ⊢
    dsimp only at h ⊢
    split at h
    · exact hK _ _ _ _ h
    · exact False.elim h
  | astore_n n =>
    unfold a_w1 at h ⊢
    dsimp only at h ⊢
    split at h
    · exact hK _ _ _ _ h
    · exact False.elim h
  | astore n =>
    unfold a_w1 at h ⊢
    dsimp only at h ⊢
    split at h
    · exact hK _ _ _ _ h
    · exact False.elim h
  | iadd =>
    unfold a_w1 at h ⊢
    dsimp only at h ⊢
    split at h
    · exact hK _ _ _ _ h
    · exact False.elim h
  | isub =>
    unfold a_w1 at h ⊢
    dsimp only at h ⊢
    split at h
    · exact hK _ _ _ _ h
    · exact False.elim h
  | imul =>
    unfold a_w1 at h ⊢
    dsimp only at h ⊢
    split at h
    · exact hK _ _ _ _ h
    · exact False.elim h
  | iand =>
    unfold a_w1 at h ⊢
    dsimp only at h ⊢
    split at h
    · exact hK _ _ _ _ h
    · exact False.elim h
  | ior =>
    unfold a_w1 at h ⊢
    dsimp only at h ⊢
    split at h
    · exact hK _ _ _ _ h
    · exact False.elim h
  | ixor =>
    unfold a_w1 at h ⊢
    dsimp only at h ⊢
    split at h
    · exact hK _ _ _ _ h
    · exact False.elim h
  | ishl =>
    unfold a_w1 at h ⊢
    dsimp only at h ⊢
    split at h
    · exact hK _ _ _ _ h
    · exact False.elim h
  | ishr =>
    unfold a_w1 at h ⊢
    dsimp only at h ⊢
    split at h
    · exact hK _ _ _ _ h
    · exact False.elim h
  | iushr =>
    unfold a_w1 at h ⊢
    dsimp only at h ⊢
    split at h
    · exact hK _ _ _ _ h
    · exact False.elim h
  | ineg =>
    unfold a_w1 at h ⊢
    dsimp only at h ⊢
    split at h
    · exact hK _ _ _ _ h
    · exact False.elim h
  | i2l =>
    unfold a_w1 at h ⊢
    dsimp only at h ⊢
    split at h
    · exact hK _ _ _ _ h
    · exact False.elim h
  | ladd =>
    unfold a_w1 at h ⊢
    dsimp only at h ⊢
    split at h
    · exact hK _ _ _ _ h
    · exact False.elim h
  | lcmp =>
    unfold a_w1 at h ⊢
    dsimp only at h ⊢
    split at h
    · exact hK _ _ _ _ h
    · exact False.elim h
  | lmul =>
    unfold a_w1 at h ⊢
    dsimp only at h ⊢
    split at h
    · exact hK _ _ _ _ h
    · exact False.elim h
  | pop2 =>
    unfold a_w1 at h ⊢
    dsimp only at h ⊢
    split at h
    · exact hK _ _ _ _ h
    · exact False.elim h
  | dup2 =>
    unfold a_w1 at h ⊢
    dsimp only at h ⊢
    split at h
    · exact hK _ _ _ _ h
    · exact False.elim h
  | idiv =>
    unfold a_w1 at h ⊢
    dsimp only at h ⊢
    split at h
    · exact ⟨h.1, hK _ _ _ _ h.2⟩
    · exact False.elim h
  | irem =>
    unfold a_w1 at h ⊢
    dsimp only at h ⊢
    split at h
    · exact ⟨h.1, hK _ _ _ _ h.2⟩
    · exact False.elim h
  | pop =>
    unfold a_w1 at h ⊢
    dsimp only at h ⊢
    split at h
    · exact hK _ _ _ _ h
    · exact hK _ _ _ _ h
    · exact False.elim h
  | dup =>
    unfold a_w1 at h ⊢
    dsimp only at h ⊢
    split at h
    · exact hK _ _ _ _ h
    · exact hK _ _ _ _ h
    · exact False.elim h
  | ifCond cnd off =>
    unfold a_w1 at h ⊢
    dsimp only at h ⊢
    split at h
    · cases cnd <;> exact ⟨fun z => hK _ _ _ _ (h.1 z), fun z => hK _ _ _ _ (h.2 z)⟩
    · exact False.elim h
  | if_icmp cnd off =>
    unfold a_w1 at h ⊢
    dsimp only at h ⊢
    split at h
    · cases cnd <;> exact ⟨fun z => hK _ _ _ _ (h.1 z), fun z => hK _ _ _ _ (h.2 z)⟩
    · exact False.elim h
  | tableswitch a b c d =>
    unfold a_w1 at h ⊢
    dsimp only at h ⊢
    split at h
    · exact ⟨a_swc_mono (fun q z => hK _ _ _ _ z) h.1, fun z => hK _ _ _ _ (h.2 z)⟩
    · exact False.elim h
  | getfield n =>
    unfold a_w1 at h ⊢
    dsimp only at h ⊢
    split at h
    · split at h
      · rename_i ci fl hsh
        cases hb : Nat.beq ci y with
        | false => rw [hb] at h; exact False.elim h
        | true =>
          rw [hb] at h
          simp only [cond_true] at h ⊢
          split at h
          · exact hK _ _ _ _ h
          · exact hK _ _ _ _ h
          · exact hK _ _ _ _ h
          · exact False.elim h
      · exact False.elim h
    · exact False.elim h
  | putfield n =>
    unfold a_w1 at h ⊢
    dsimp only at h ⊢
    split at h
    · split at h
      · rename_i ci fl hsh
        cases hb : Nat.beq ci y with
        | false => rw [hb] at h; exact False.elim h
        | true =>
          rw [hb] at h
          simp only [cond_true] at h ⊢
          split at h
          · cases t with
            | nil => exact hK _ _ _ _ h
            | cons t0 tr => exact ⟨h.1, hK _ _ _ _ h.2⟩
          · exact False.elim h
      · exact False.elim h
    · exact False.elim h
  | iaload =>
    unfold a_w1 at h ⊢
    dsimp only at h ⊢
    split at h
    · split at h
      · exact ⟨h.1, hK _ _ _ _ h.2⟩
      · generalize Nat.beq _ 99 = bb at h ⊢
        cases bb with
        | false => exact False.elim h
        | true => exact ⟨h.1, hK _ _ _ _ h.2⟩
      · exact False.elim h
    · exact False.elim h
  | laload =>
    unfold a_w1 at h ⊢
    dsimp only at h ⊢
    split at h
    · split at h
      · exact ⟨h.1, hK _ _ _ _ h.2⟩
      · exact False.elim h
    · exact False.elim h
  | iastore =>
    unfold a_w1 at h ⊢
    dsimp only at h ⊢
    split at h
    · split at h
      · exact ⟨h.1, hK _ _ _ _ h.2⟩
      · exact False.elim h
    · exact False.elim h
  | lastore =>
    unfold a_w1 at h ⊢
    dsimp only at h ⊢
    split at h
    · split at h
      · exact ⟨h.1, hK _ _ _ _ h.2⟩
      · exact False.elim h
    · exact False.elim h
  | arraylength =>
    unfold a_w1 at h ⊢
    dsimp only at h ⊢
    split at h
    · split at h
      · exact hK _ _ _ _ h
      · generalize Nat.beq _ 99 = bb at h ⊢
        cases bb with
        | false => exact False.elim h
        | true => exact hK _ _ _ _ h
      · exact False.elim h
    · exact False.elim h
  | invokevirtual n =>
    unfold a_w1 at h ⊢
    dsimp only at h ⊢
    cases h900 : Nat.beq x 900 with
    | true =>
      rw [h900] at h
      simp only [cond_true] at h ⊢
      split at h
      · split at h
        · exact ⟨h.1, hK _ _ _ _ h.2⟩
        · exact False.elim h
      · exact False.elim h
    | false =>
    rw [h900] at h
    simp only [cond_false] at h ⊢
    cases h901 : Nat.beq x 901 with
    | true =>
      rw [h901] at h
      simp only [cond_true] at h ⊢
      split at h
      · split at h
        · exact ⟨h.1, h.2.1, hK _ _ _ _ h.2.2⟩
        · exact False.elim h
      · exact False.elim h
    | false =>
    rw [h901] at h
    simp only [cond_false] at h ⊢
    obtain ⟨P, g1, g2, g3⟩ := h
    exact ⟨P, g1, g2, fun v M' z => hK _ _ _ _ (g3 v M' z)⟩
  | invokestatic n =>
    unfold a_w1 at h ⊢
    dsimp only at h ⊢
    cases h902 : Nat.beq x 902 with
    | true =>
      rw [h902] at h
      simp only [cond_true] at h ⊢
      split at h
      · exact ⟨h.1, hK _ _ _ _ h.2⟩
      · exact False.elim h
    | false =>
    rw [h902] at h
    simp only [cond_false] at h ⊢
    obtain ⟨P, g1, g2, g3⟩ := h
    exact ⟨P, g1, g2, fun v M' z => hK _ _ _ _ (g3 v M' z)⟩
  | ireturn =>
    exact h
  | lreturn =>
    exact h
  | areturn =>
    exact h
  | return_ =>
    exact h
  | new n =>
    exact h
  | _ => exact False.elim h
/-! THE CLAIM OUT OF ONE WALK OF THE LAW'S BODY. Your part is whole_start (and what it stands on); all else here is the same for every law, but numbers. -/
def R_law : String := "TurnBoardLaw"
def lw_P (b : Addr) (xs : List Int32) (args : Array Value) (s : State) : Prop := args = #[.ref b] ∧ s.IntsAt b xs ∧ xs.length ≤ 6 ∧ (Jvm.Cond.and given_1 narrow_1).before args s = true
def lw_Q (_ : Array Value) (s : State) (o : Outcome) (t : State) : Prop := o = .returned (some (.int 1)) ∧ Framed s o t [] 600002 7302232
def lw_Z (below : List Frame) (a : Array Value) (s : State) : State → Prop := fun t => ∃ o, t.status = .running ∧ Ended t below o ∧ lw_Q a s o t
/-- the law's own end, with 1 on the stack, nothing written that was there before, its room as the claim has it -/
theorem lw_ret {p : Program} {l : Launch} {e : Env} {s : State} {m : MethodId} {below : List Frame} {meth : Method} {c : Code} {b : Nat} (hx : p.tables.exec = Jvm.exec) (hb : c.code = code) (hr : meth.sig.returnType = ret) (hlocks : meth.locks = false) {pc : Nat} {H : Heap} {ls : Array Slot} (hdg : decode code pc = .ok (.ireturn, 1)) : W p l e room_1 s m #[Value.ref b] below meth c H [] 600002 7302232 (lw_Z below #[Value.ref b] s) (F0 m pc ls [.int 1]) := by
  intro T hT X
  obtain ⟨fs, hret, hrun, hended, hW, hframe⟩ := X.leave (v := some (.int 1)) (hlocks := hlocks) (fun h => by rw [hr] at h; cases h)
  have hmeth' : T.vm.method? m = some meth := X.method'
  refine ⟨T.setFrames fs, ?_, .returned (some (.int 1)), hrun, hended, rfl, ⟨_, rfl⟩, hW, hframe⟩
  jvm_step X.here [X.here.top, hx, hb, hdg, hmeth', hr, ret, narrow_b1]
  (try refine ⟨rfl, ?_⟩); (try refine ⟨rfl, ?_⟩)
  first | (intro acts; rw [hret _ acts rfl rfl rfl]) | rw [hret _ _ rfl rfl rfl]
  exact Steps.refl _
/-- what holds at the law's entry: the machine, the code, the tables' words (any of lw_tbl by 'hts w (by decide +kernel)'), the script of L ints xs at the cell b, what the Statement gives of the start (any of its parts by flat_of_before) -/
def lw_At (p : Program) (s : State) (m : MethodId) (meth : Method) (c : Code) (b L : Nat) (xs : Nat → Int32) : Prop :=
  p.tables.exec = Jvm.exec ∧ c.code = code ∧ meth.sig.returnType = ret ∧ c.maxLocals = 8 ∧ s.vm.findClass R_law = some m.cls ∧ (∀ w ∈ lw_tbl, w.before #[Value.ref b] s = true) ∧ va_X b L xs s s.heap ∧ b < s.heap.size ∧ meth.locks = false ∧ (Jvm.Cond.and given_1 narrow_1).before #[Value.ref b] s = true
set_option maxRecDepth 100000 in
def k_law : List aE := [(3, .dup, 0, 0, 0, [], 4),
  (7, .astore_n 1, 1, 0, 0, [], 8),
  (11, .dup, 0, 0, 0, [], 12),
  (15, .astore_n 2, 2, 0, 0, [], 16),
  (16, .iconst 1, 0, 0, 1, [], 17),
  (19, .astore_n 3, 3, 0, 0, [], 20),
  (20, .iconst 0, 0, 0, 0, [], 21),
  (21, .istore 4, 4, 0, 0, [], 23),
  (23, .iload 4, 4, 0, 0, [], 25),
  (25, .aload_n 0, 0, 0, 0, [], 26),
  (26, .arraylength, 0, 0, 0, [], 27),
  (27, .bipush 6, 0, 0, 6, [], 29),
  (29, .isub, 0, 0, 0, [], 30),
  (30, .if_icmp .gt 1408, 1438, 0, 0, [], 33),
  (33, .aload_n 0, 0, 0, 0, [], 34),
  (34, .iload 4, 4, 0, 0, [], 36),
  (36, .iaload, 0, 0, 0, [], 37),
  (37, .bipush 31, 0, 0, 31, [], 39),
  (39, .iand, 0, 0, 0, [], 40),
  (40, .tableswitch 1392 0 27 #[128, 201, 226, 270, 283, 351, 419, 515, 623, 691, 771, 784, 797, 853, 867, 880, 931, 945, 988, 1014, 1069, 1110, 1189, 1245, 1288, 1343, 1354, 1367], 1432, 0, 0, [168, 241, 266, 310, 323, 391, 459, 555, 663, 731, 811, 824, 837, 893, 907, 920, 971, 985, 1028, 1054, 1109, 1150, 1229, 1285, 1328, 1383, 1394, 1407], 168),
  (168, .aload_n 1, 1, 0, 0, [], 169),
  (169, .aload_n 0, 0, 0, 0, [], 170),
  (170, .iload 4, 4, 0, 0, [], 172),
  (172, .iconst 1, 0, 0, 1, [], 173),
  (173, .iadd, 0, 0, 0, [], 174),
  (174, .iaload, 0, 0, 0, [], 175),
  (175, .aload_n 0, 0, 0, 0, [], 176),
  (176, .iload 4, 4, 0, 0, [], 178),
  (178, .iconst 2, 0, 0, 2, [], 179),
  (179, .iadd, 0, 0, 0, [], 180),
  (180, .iaload, 0, 0, 0, [], 181),
  (181, .aload_n 0, 0, 0, 0, [], 182),
  (182, .iload 4, 4, 0, 0, [], 184),
  (184, .iconst 3, 0, 0, 3, [], 185),
  (185, .iadd, 0, 0, 0, [], 186),
  (186, .iaload, 0, 0, 0, [], 187),
  (187, .aload_n 0, 0, 0, 0, [], 188),
  (188, .iload 4, 4, 0, 0, [], 190),
  (190, .iconst 4, 0, 0, 4, [], 191),
  (191, .iadd, 0, 0, 0, [], 192),
  (192, .iaload, 0, 0, 0, [], 193),
  (193, .aload_n 0, 0, 0, 0, [], 194),
  (194, .iload 4, 4, 0, 0, [], 196),
  (196, .iconst 5, 0, 0, 5, [], 197),
  (197, .iadd, 0, 0, 0, [], 198),
  (198, .iaload, 0, 0, 0, [], 199),
  (199, .invokevirtual 78, 150, 6, 0, [], 202),
  (202, .aload_n 2, 2, 0, 0, [], 203),
  (203, .aload_n 0, 0, 0, 0, [], 204),
  (204, .iload 4, 4, 0, 0, [], 206),
  (206, .iconst 1, 0, 0, 1, [], 207),
  (207, .iadd, 0, 0, 0, [], 208),
  (208, .iaload, 0, 0, 0, [], 209),
  (209, .aload_n 0, 0, 0, 0, [], 210),
  (210, .iload 4, 4, 0, 0, [], 212),
  (212, .iconst 2, 0, 0, 2, [], 213),
  (213, .iadd, 0, 0, 0, [], 214),
  (214, .iaload, 0, 0, 0, [], 215),
  (215, .aload_n 0, 0, 0, 0, [], 216),
  (216, .iload 4, 4, 0, 0, [], 218),
  (218, .iconst 3, 0, 0, 3, [], 219),
  (219, .iadd, 0, 0, 0, [], 220),
  (220, .iaload, 0, 0, 0, [], 221),
  (221, .aload_n 0, 0, 0, 0, [], 222),
  (222, .iload 4, 4, 0, 0, [], 224),
  (224, .iconst 4, 0, 0, 4, [], 225),
  (225, .iadd, 0, 0, 0, [], 226),
  (226, .iaload, 0, 0, 0, [], 227),
  (227, .aload_n 0, 0, 0, 0, [], 228),
  (228, .iload 4, 4, 0, 0, [], 230),
  (230, .iconst 5, 0, 0, 5, [], 231),
  (231, .iadd, 0, 0, 0, [], 232),
  (232, .iaload, 0, 0, 0, [], 233),
  (233, .invokevirtual 82, 201, 6, 0, [], 236),
  (236, .if_icmp .eq 1196, 1432, 0, 0, [], 239),
  (239, .iconst 0, 0, 0, 0, [], 240),
  (240, .ireturn, 0, 0, 0, [], 241),
  (241, .aload_n 1, 1, 0, 0, [], 242),
  (242, .aload_n 0, 0, 0, 0, [], 243),
  (243, .iload 4, 4, 0, 0, [], 245),
  (245, .iconst 1, 0, 0, 1, [], 246),
  (246, .iadd, 0, 0, 0, [], 247),
  (247, .iaload, 0, 0, 0, [], 248),
  (248, .invokevirtual 83, 151, 2, 0, [], 251),
  (251, .aload_n 2, 2, 0, 0, [], 252),
  (252, .aload_n 0, 0, 0, 0, [], 253),
  (253, .iload 4, 4, 0, 0, [], 255),
  (255, .iconst 1, 0, 0, 1, [], 256),
  (256, .iadd, 0, 0, 0, [], 257),
  (257, .iaload, 0, 0, 0, [], 258),
  (258, .invokevirtual 87, 202, 2, 0, [], 261),
  (261, .if_icmp .eq 1171, 1432, 0, 0, [], 264),
  (264, .iconst 0, 0, 0, 0, [], 265),
  (265, .ireturn, 0, 0, 0, [], 266),
  (266, .aload_n 1, 1, 0, 0, [], 267),
  (267, .aload_n 3, 3, 0, 0, [], 268),
  (271, .istore 5, 5, 0, 0, [], 273),
  (273, .aload_n 2, 2, 0, 0, [], 274),
  (274, .invokevirtual 93, 212, 1, 0, [], 277),
  (277, .istore 6, 6, 0, 0, [], 279),
  (279, .aload_n 2, 2, 0, 0, [], 280),
  (280, .invokevirtual 94, 178, 1, 0, [], 283),
  (283, .iload 5, 5, 0, 0, [], 285),
  (285, .if_icmp .eq 5, 290, 0, 0, [], 288),
  (288, .iconst 0, 0, 0, 0, [], 289),
  (289, .ireturn, 0, 0, 0, [], 290),
  (290, .iload 5, 5, 0, 0, [], 292),
  (292, .ifCond .ne 15, 307, 0, 0, [], 295),
  (295, .aload_n 3, 3, 0, 0, [], 296),
  (296, .iconst 0, 0, 0, 0, [], 297),
  (297, .laload, 0, 0, 0, [], 298),
  (298, .iload 6, 6, 0, 0, [], 300),
  (300, .i2l, 0, 0, 0, [], 301),
  (301, .lcmp, 0, 0, 0, [], 302),
  (302, .ifCond .eq 5, 307, 0, 0, [], 305),
  (305, .iconst 0, 0, 0, 0, [], 306),
  (306, .ireturn, 0, 0, 0, [], 307),
  (307, .goto 1125, 1432, 0, 0, [], 310),
  (310, .aload_n 1, 1, 0, 0, [], 311),
  (311, .invokevirtual 97, 153, 1, 0, [], 314),
  (314, .aload_n 2, 2, 0, 0, [], 315),
  (315, .invokevirtual 100, 213, 1, 0, [], 318),
  (318, .if_icmp .eq 1114, 1432, 0, 0, [], 321),
  (321, .iconst 0, 0, 0, 0, [], 322),
  (322, .ireturn, 0, 0, 0, [], 323),
  (323, .aload_n 1, 1, 0, 0, [], 324),
  (324, .aload_n 0, 0, 0, 0, [], 325),
  (325, .iload 4, 4, 0, 0, [], 327),
  (327, .iconst 1, 0, 0, 1, [], 328),
  (328, .iadd, 0, 0, 0, [], 329),
  (329, .iaload, 0, 0, 0, [], 330),
  (330, .aload_n 0, 0, 0, 0, [], 331),
  (331, .iload 4, 4, 0, 0, [], 333),
  (333, .iconst 2, 0, 0, 2, [], 334),
  (334, .iadd, 0, 0, 0, [], 335),
  (335, .iaload, 0, 0, 0, [], 336),
  (336, .aload_n 3, 3, 0, 0, [], 337),
  (340, .istore 5, 5, 0, 0, [], 342),
  (342, .aload_n 2, 2, 0, 0, [], 343),
  (343, .aload_n 0, 0, 0, 0, [], 344),
  (344, .iload 4, 4, 0, 0, [], 346),
  (346, .iconst 1, 0, 0, 1, [], 347),
  (347, .iadd, 0, 0, 0, [], 348),
  (348, .iaload, 0, 0, 0, [], 349),
  (349, .aload_n 0, 0, 0, 0, [], 350),
  (350, .iload 4, 4, 0, 0, [], 352),
  (352, .iconst 2, 0, 0, 2, [], 353),
  (353, .iadd, 0, 0, 0, [], 354),
  (354, .iaload, 0, 0, 0, [], 355),
  (355, .invokevirtual 104, 214, 3, 0, [], 358),
  (358, .istore 6, 6, 0, 0, [], 360),
  (360, .aload_n 2, 2, 0, 0, [], 361),
  (361, .invokevirtual 94, 178, 1, 0, [], 364),
  (364, .iload 5, 5, 0, 0, [], 366),
  (366, .if_icmp .eq 5, 371, 0, 0, [], 369),
  (369, .iconst 0, 0, 0, 0, [], 370),
  (370, .ireturn, 0, 0, 0, [], 371),
  (371, .iload 5, 5, 0, 0, [], 373),
  (373, .ifCond .ne 15, 388, 0, 0, [], 376),
  (376, .aload_n 3, 3, 0, 0, [], 377),
  (377, .iconst 0, 0, 0, 0, [], 378),
  (378, .laload, 0, 0, 0, [], 379),
  (379, .iload 6, 6, 0, 0, [], 381),
  (381, .i2l, 0, 0, 0, [], 382),
  (382, .lcmp, 0, 0, 0, [], 383),
  (383, .ifCond .eq 5, 388, 0, 0, [], 386),
  (386, .iconst 0, 0, 0, 0, [], 387),
  (387, .ireturn, 0, 0, 0, [], 388),
  (388, .goto 1044, 1432, 0, 0, [], 391),
  (391, .aload_n 1, 1, 0, 0, [], 392),
  (392, .aload_n 0, 0, 0, 0, [], 393),
  (393, .iload 4, 4, 0, 0, [], 395),
  (395, .iconst 1, 0, 0, 1, [], 396),
  (396, .iadd, 0, 0, 0, [], 397),
  (397, .iaload, 0, 0, 0, [], 398),
  (398, .aload_n 0, 0, 0, 0, [], 399),
  (399, .iload 4, 4, 0, 0, [], 401),
  (401, .iconst 2, 0, 0, 2, [], 402),
  (402, .iadd, 0, 0, 0, [], 403),
  (403, .iaload, 0, 0, 0, [], 404),
  (404, .aload_n 3, 3, 0, 0, [], 405),
  (408, .istore 5, 5, 0, 0, [], 410),
  (410, .aload_n 2, 2, 0, 0, [], 411),
  (411, .aload_n 0, 0, 0, 0, [], 412),
  (412, .iload 4, 4, 0, 0, [], 414),
  (414, .iconst 1, 0, 0, 1, [], 415),
  (415, .iadd, 0, 0, 0, [], 416),
  (416, .iaload, 0, 0, 0, [], 417),
  (417, .aload_n 0, 0, 0, 0, [], 418),
  (418, .iload 4, 4, 0, 0, [], 420),
  (420, .iconst 2, 0, 0, 2, [], 421),
  (421, .iadd, 0, 0, 0, [], 422),
  (422, .iaload, 0, 0, 0, [], 423),
  (423, .invokevirtual 107, 215, 3, 0, [], 426),
  (426, .istore 6, 6, 0, 0, [], 428),
  (428, .aload_n 2, 2, 0, 0, [], 429),
  (429, .invokevirtual 94, 178, 1, 0, [], 432),
  (432, .iload 5, 5, 0, 0, [], 434),
  (434, .if_icmp .eq 5, 439, 0, 0, [], 437),
  (437, .iconst 0, 0, 0, 0, [], 438),
  (438, .ireturn, 0, 0, 0, [], 439),
  (439, .iload 5, 5, 0, 0, [], 441),
  (441, .ifCond .ne 15, 456, 0, 0, [], 444),
  (444, .aload_n 3, 3, 0, 0, [], 445),
  (445, .iconst 0, 0, 0, 0, [], 446),
  (446, .laload, 0, 0, 0, [], 447),
  (447, .iload 6, 6, 0, 0, [], 449),
  (449, .i2l, 0, 0, 0, [], 450),
  (450, .lcmp, 0, 0, 0, [], 451),
  (451, .ifCond .eq 5, 456, 0, 0, [], 454),
  (454, .iconst 0, 0, 0, 0, [], 455),
  (455, .ireturn, 0, 0, 0, [], 456),
  (456, .goto 976, 1432, 0, 0, [], 459),
  (459, .aload_n 1, 1, 0, 0, [], 460),
  (460, .aload_n 0, 0, 0, 0, [], 461),
  (461, .iload 4, 4, 0, 0, [], 463),
  (463, .iconst 1, 0, 0, 1, [], 464),
  (464, .iadd, 0, 0, 0, [], 465),
  (465, .iaload, 0, 0, 0, [], 466),
  (466, .aload_n 0, 0, 0, 0, [], 467),
  (467, .iload 4, 4, 0, 0, [], 469),
  (469, .iconst 2, 0, 0, 2, [], 470),
  (470, .iadd, 0, 0, 0, [], 471),
  (471, .iaload, 0, 0, 0, [], 472),
  (472, .aload_n 0, 0, 0, 0, [], 473),
  (473, .iload 4, 4, 0, 0, [], 475),
  (475, .iconst 3, 0, 0, 3, [], 476),
  (476, .iadd, 0, 0, 0, [], 477),
  (477, .iaload, 0, 0, 0, [], 478),
  (478, .ifCond .eq 7, 485, 0, 0, [], 481),
  (481, .iconst 1, 0, 0, 1, [], 482),
  (482, .goto 4, 486, 0, 0, [], 485),
  (485, .iconst 0, 0, 0, 0, [], 486),
  (486, .aload_n 3, 3, 0, 0, [], 487),
  (490, .istore 5, 5, 0, 0, [], 492),
  (492, .aload_n 2, 2, 0, 0, [], 493),
  (493, .aload_n 0, 0, 0, 0, [], 494),
  (494, .iload 4, 4, 0, 0, [], 496),
  (496, .iconst 1, 0, 0, 1, [], 497),
  (497, .iadd, 0, 0, 0, [], 498),
  (498, .iaload, 0, 0, 0, [], 499),
  (499, .aload_n 0, 0, 0, 0, [], 500),
  (500, .iload 4, 4, 0, 0, [], 502),
  (502, .iconst 2, 0, 0, 2, [], 503),
  (503, .iadd, 0, 0, 0, [], 504),
  (504, .iaload, 0, 0, 0, [], 505),
  (505, .aload_n 0, 0, 0, 0, [], 506),
  (506, .iload 4, 4, 0, 0, [], 508),
  (508, .iconst 3, 0, 0, 3, [], 509),
  (509, .iadd, 0, 0, 0, [], 510),
  (510, .iaload, 0, 0, 0, [], 511),
  (511, .ifCond .eq 7, 518, 0, 0, [], 514),
  (514, .iconst 1, 0, 0, 1, [], 515),
  (515, .goto 4, 519, 0, 0, [], 518),
  (518, .iconst 0, 0, 0, 0, [], 519),
  (519, .invokevirtual 111, 216, 4, 0, [], 522),
  (522, .istore 6, 6, 0, 0, [], 524),
  (524, .aload_n 2, 2, 0, 0, [], 525),
  (525, .invokevirtual 94, 178, 1, 0, [], 528),
  (528, .iload 5, 5, 0, 0, [], 530),
  (530, .if_icmp .eq 5, 535, 0, 0, [], 533),
  (533, .iconst 0, 0, 0, 0, [], 534),
  (534, .ireturn, 0, 0, 0, [], 535),
  (535, .iload 5, 5, 0, 0, [], 537),
  (537, .ifCond .ne 15, 552, 0, 0, [], 540),
  (540, .aload_n 3, 3, 0, 0, [], 541),
  (541, .iconst 0, 0, 0, 0, [], 542),
  (542, .laload, 0, 0, 0, [], 543),
  (543, .iload 6, 6, 0, 0, [], 545),
  (545, .i2l, 0, 0, 0, [], 546),
  (546, .lcmp, 0, 0, 0, [], 547),
  (547, .ifCond .eq 5, 552, 0, 0, [], 550),
  (550, .iconst 0, 0, 0, 0, [], 551),
  (551, .ireturn, 0, 0, 0, [], 552),
  (552, .goto 880, 1432, 0, 0, [], 555),
  (555, .aload_n 1, 1, 0, 0, [], 556),
  (556, .aload_n 0, 0, 0, 0, [], 557),
  (557, .iload 4, 4, 0, 0, [], 559),
  (559, .iconst 1, 0, 0, 1, [], 560),
  (560, .iadd, 0, 0, 0, [], 561),
  (561, .iaload, 0, 0, 0, [], 562),
  (562, .aload_n 0, 0, 0, 0, [], 563),
  (563, .iload 4, 4, 0, 0, [], 565),
  (565, .iconst 2, 0, 0, 2, [], 566),
  (566, .iadd, 0, 0, 0, [], 567),
  (567, .iaload, 0, 0, 0, [], 568),
  (568, .aload_n 0, 0, 0, 0, [], 569),
  (569, .iload 4, 4, 0, 0, [], 571),
  (571, .iconst 3, 0, 0, 3, [], 572),
  (572, .iadd, 0, 0, 0, [], 573),
  (573, .iaload, 0, 0, 0, [], 574),
  (574, .ifCond .eq 7, 581, 0, 0, [], 577),
  (577, .iconst 1, 0, 0, 1, [], 578),
  (578, .goto 4, 582, 0, 0, [], 581),
  (581, .iconst 0, 0, 0, 0, [], 582),
  (582, .aload_n 0, 0, 0, 0, [], 583),
  (583, .iload 4, 4, 0, 0, [], 585),
  (585, .iconst 4, 0, 0, 4, [], 586),
  (586, .iadd, 0, 0, 0, [], 587),
  (587, .iaload, 0, 0, 0, [], 588),
  (588, .aload_n 3, 3, 0, 0, [], 589),
  (592, .istore 5, 5, 0, 0, [], 594),
  (594, .aload_n 2, 2, 0, 0, [], 595),
  (595, .aload_n 0, 0, 0, 0, [], 596),
  (596, .iload 4, 4, 0, 0, [], 598),
  (598, .iconst 1, 0, 0, 1, [], 599),
  (599, .iadd, 0, 0, 0, [], 600),
  (600, .iaload, 0, 0, 0, [], 601),
  (601, .aload_n 0, 0, 0, 0, [], 602),
  (602, .iload 4, 4, 0, 0, [], 604),
  (604, .iconst 2, 0, 0, 2, [], 605),
  (605, .iadd, 0, 0, 0, [], 606),
  (606, .iaload, 0, 0, 0, [], 607),
  (607, .aload_n 0, 0, 0, 0, [], 608),
  (608, .iload 4, 4, 0, 0, [], 610),
  (610, .iconst 3, 0, 0, 3, [], 611),
  (611, .iadd, 0, 0, 0, [], 612),
  (612, .iaload, 0, 0, 0, [], 613),
  (613, .ifCond .eq 7, 620, 0, 0, [], 616),
  (616, .iconst 1, 0, 0, 1, [], 617),
  (617, .goto 4, 621, 0, 0, [], 620),
  (620, .iconst 0, 0, 0, 0, [], 621),
  (621, .aload_n 0, 0, 0, 0, [], 622),
  (622, .iload 4, 4, 0, 0, [], 624),
  (624, .iconst 4, 0, 0, 4, [], 625),
  (625, .iadd, 0, 0, 0, [], 626),
  (626, .iaload, 0, 0, 0, [], 627),
  (627, .invokevirtual 115, 219, 5, 0, [], 630),
  (630, .istore 6, 6, 0, 0, [], 632),
  (632, .aload_n 2, 2, 0, 0, [], 633),
  (633, .invokevirtual 94, 178, 1, 0, [], 636),
  (636, .iload 5, 5, 0, 0, [], 638),
  (638, .if_icmp .eq 5, 643, 0, 0, [], 641),
  (641, .iconst 0, 0, 0, 0, [], 642),
  (642, .ireturn, 0, 0, 0, [], 643),
  (643, .iload 5, 5, 0, 0, [], 645),
  (645, .ifCond .ne 15, 660, 0, 0, [], 648),
  (648, .aload_n 3, 3, 0, 0, [], 649),
  (649, .iconst 0, 0, 0, 0, [], 650),
  (650, .laload, 0, 0, 0, [], 651),
  (651, .iload 6, 6, 0, 0, [], 653),
  (653, .i2l, 0, 0, 0, [], 654),
  (654, .lcmp, 0, 0, 0, [], 655),
  (655, .ifCond .eq 5, 660, 0, 0, [], 658),
  (658, .iconst 0, 0, 0, 0, [], 659),
  (659, .ireturn, 0, 0, 0, [], 660),
  (660, .goto 772, 1432, 0, 0, [], 663),
  (663, .aload_n 1, 1, 0, 0, [], 664),
  (664, .aload_n 0, 0, 0, 0, [], 665),
  (665, .iload 4, 4, 0, 0, [], 667),
  (667, .iconst 1, 0, 0, 1, [], 668),
  (668, .iadd, 0, 0, 0, [], 669),
  (669, .iaload, 0, 0, 0, [], 670),
  (670, .aload_n 0, 0, 0, 0, [], 671),
  (671, .iload 4, 4, 0, 0, [], 673),
  (673, .iconst 2, 0, 0, 2, [], 674),
  (674, .iadd, 0, 0, 0, [], 675),
  (675, .iaload, 0, 0, 0, [], 676),
  (676, .aload_n 3, 3, 0, 0, [], 677),
  (680, .istore 5, 5, 0, 0, [], 682),
  (682, .aload_n 2, 2, 0, 0, [], 683),
  (683, .aload_n 0, 0, 0, 0, [], 684),
  (684, .iload 4, 4, 0, 0, [], 686),
  (686, .iconst 1, 0, 0, 1, [], 687),
  (687, .iadd, 0, 0, 0, [], 688),
  (688, .iaload, 0, 0, 0, [], 689),
  (689, .aload_n 0, 0, 0, 0, [], 690),
  (690, .iload 4, 4, 0, 0, [], 692),
  (692, .iconst 2, 0, 0, 2, [], 693),
  (693, .iadd, 0, 0, 0, [], 694),
  (694, .iaload, 0, 0, 0, [], 695),
  (695, .invokevirtual 118, 220, 3, 0, [], 698),
  (698, .istore 6, 6, 0, 0, [], 700),
  (700, .aload_n 2, 2, 0, 0, [], 701),
  (701, .invokevirtual 94, 178, 1, 0, [], 704),
  (704, .iload 5, 5, 0, 0, [], 706),
  (706, .if_icmp .eq 5, 711, 0, 0, [], 709),
  (709, .iconst 0, 0, 0, 0, [], 710),
  (710, .ireturn, 0, 0, 0, [], 711),
  (711, .iload 5, 5, 0, 0, [], 713),
  (713, .ifCond .ne 15, 728, 0, 0, [], 716),
  (716, .aload_n 3, 3, 0, 0, [], 717),
  (717, .iconst 0, 0, 0, 0, [], 718),
  (718, .laload, 0, 0, 0, [], 719),
  (719, .iload 6, 6, 0, 0, [], 721),
  (721, .i2l, 0, 0, 0, [], 722),
  (722, .lcmp, 0, 0, 0, [], 723),
  (723, .ifCond .eq 5, 728, 0, 0, [], 726),
  (726, .iconst 0, 0, 0, 0, [], 727),
  (727, .ireturn, 0, 0, 0, [], 728),
  (728, .goto 704, 1432, 0, 0, [], 731),
  (731, .aload_n 1, 1, 0, 0, [], 732),
  (732, .aload_n 0, 0, 0, 0, [], 733),
  (733, .iload 4, 4, 0, 0, [], 735),
  (735, .iconst 1, 0, 0, 1, [], 736),
  (736, .iadd, 0, 0, 0, [], 737),
  (737, .iaload, 0, 0, 0, [], 738),
  (738, .aload_n 0, 0, 0, 0, [], 739),
  (739, .iload 4, 4, 0, 0, [], 741),
  (741, .iconst 2, 0, 0, 2, [], 742),
  (742, .iadd, 0, 0, 0, [], 743),
  (743, .iaload, 0, 0, 0, [], 744),
  (744, .aload_n 0, 0, 0, 0, [], 745),
  (745, .iload 4, 4, 0, 0, [], 747),
  (747, .iconst 3, 0, 0, 3, [], 748),
  (748, .iadd, 0, 0, 0, [], 749),
  (749, .iaload, 0, 0, 0, [], 750),
  (750, .aload_n 3, 3, 0, 0, [], 751),
  (754, .istore 5, 5, 0, 0, [], 756),
  (756, .aload_n 2, 2, 0, 0, [], 757),
  (757, .aload_n 0, 0, 0, 0, [], 758),
  (758, .iload 4, 4, 0, 0, [], 760),
  (760, .iconst 1, 0, 0, 1, [], 761),
  (761, .iadd, 0, 0, 0, [], 762),
  (762, .iaload, 0, 0, 0, [], 763),
  (763, .aload_n 0, 0, 0, 0, [], 764),
  (764, .iload 4, 4, 0, 0, [], 766),
  (766, .iconst 2, 0, 0, 2, [], 767),
  (767, .iadd, 0, 0, 0, [], 768),
  (768, .iaload, 0, 0, 0, [], 769),
  (769, .aload_n 0, 0, 0, 0, [], 770),
  (770, .iload 4, 4, 0, 0, [], 772),
  (772, .iconst 3, 0, 0, 3, [], 773),
  (773, .iadd, 0, 0, 0, [], 774),
  (774, .iaload, 0, 0, 0, [], 775),
  (775, .invokevirtual 122, 221, 4, 0, [], 778),
  (778, .istore 6, 6, 0, 0, [], 780),
  (780, .aload_n 2, 2, 0, 0, [], 781),
  (781, .invokevirtual 94, 178, 1, 0, [], 784),
  (784, .iload 5, 5, 0, 0, [], 786),
  (786, .if_icmp .eq 5, 791, 0, 0, [], 789),
  (789, .iconst 0, 0, 0, 0, [], 790),
  (790, .ireturn, 0, 0, 0, [], 791),
  (791, .iload 5, 5, 0, 0, [], 793),
  (793, .ifCond .ne 15, 808, 0, 0, [], 796),
  (796, .aload_n 3, 3, 0, 0, [], 797),
  (797, .iconst 0, 0, 0, 0, [], 798),
  (798, .laload, 0, 0, 0, [], 799),
  (799, .iload 6, 6, 0, 0, [], 801),
  (801, .i2l, 0, 0, 0, [], 802),
  (802, .lcmp, 0, 0, 0, [], 803),
  (803, .ifCond .eq 5, 808, 0, 0, [], 806),
  (806, .iconst 0, 0, 0, 0, [], 807),
  (807, .ireturn, 0, 0, 0, [], 808),
  (808, .goto 624, 1432, 0, 0, [], 811),
  (811, .aload_n 1, 1, 0, 0, [], 812),
  (812, .invokevirtual 123, 160, 1, 0, [], 815),
  (815, .aload_n 2, 2, 0, 0, [], 816),
  (816, .invokevirtual 126, 222, 1, 0, [], 819),
  (819, .if_icmp .eq 613, 1432, 0, 0, [], 822),
  (822, .iconst 0, 0, 0, 0, [], 823),
  (823, .ireturn, 0, 0, 0, [], 824),
  (824, .aload_n 1, 1, 0, 0, [], 825),
  (825, .invokevirtual 127, 161, 1, 0, [], 828),
  (828, .aload_n 2, 2, 0, 0, [], 829),
  (829, .invokevirtual 130, 223, 1, 0, [], 832),
  (832, .if_icmp .eq 600, 1432, 0, 0, [], 835),
  (835, .iconst 0, 0, 0, 0, [], 836),
  (836, .ireturn, 0, 0, 0, [], 837),
  (837, .aload_n 1, 1, 0, 0, [], 838),
  (838, .aload_n 0, 0, 0, 0, [], 839),
  (839, .iload 4, 4, 0, 0, [], 841),
  (841, .iconst 1, 0, 0, 1, [], 842),
  (842, .iadd, 0, 0, 0, [], 843),
  (843, .iaload, 0, 0, 0, [], 844),
  (844, .aload_n 3, 3, 0, 0, [], 845),
  (848, .istore 5, 5, 0, 0, [], 850),
  (850, .aload_n 2, 2, 0, 0, [], 851),
  (851, .aload_n 0, 0, 0, 0, [], 852),
  (852, .iload 4, 4, 0, 0, [], 854),
  (854, .iconst 1, 0, 0, 1, [], 855),
  (855, .iadd, 0, 0, 0, [], 856),
  (856, .iaload, 0, 0, 0, [], 857),
  (857, .invokevirtual 134, 227, 2, 0, [], 860),
  (860, .istore 6, 6, 0, 0, [], 862),
  (862, .aload_n 2, 2, 0, 0, [], 863),
  (863, .invokevirtual 94, 178, 1, 0, [], 866),
  (866, .iload 5, 5, 0, 0, [], 868),
  (868, .if_icmp .eq 5, 873, 0, 0, [], 871),
  (871, .iconst 0, 0, 0, 0, [], 872),
  (872, .ireturn, 0, 0, 0, [], 873),
  (873, .iload 5, 5, 0, 0, [], 875),
  (875, .ifCond .ne 15, 890, 0, 0, [], 878),
  (878, .aload_n 3, 3, 0, 0, [], 879),
  (879, .iconst 0, 0, 0, 0, [], 880),
  (880, .laload, 0, 0, 0, [], 881),
  (881, .iload 6, 6, 0, 0, [], 883),
  (883, .i2l, 0, 0, 0, [], 884),
  (884, .lcmp, 0, 0, 0, [], 885),
  (885, .ifCond .eq 5, 890, 0, 0, [], 888),
  (888, .iconst 0, 0, 0, 0, [], 889),
  (889, .ireturn, 0, 0, 0, [], 890),
  (890, .goto 542, 1432, 0, 0, [], 893),
  (893, .aload_n 1, 1, 0, 0, [], 894),
  (894, .invokevirtual 135, 163, 1, 0, [], 897),
  (897, .aload_n 2, 2, 0, 0, [], 898),
  (898, .invokevirtual 138, 229, 1, 0, [], 901),
  (901, .lcmp, 0, 0, 0, [], 902),
  (902, .ifCond .eq 530, 1432, 0, 0, [], 905),
  (905, .iconst 0, 0, 0, 0, [], 906),
  (906, .ireturn, 0, 0, 0, [], 907),
  (907, .aload_n 1, 1, 0, 0, [], 908),
  (908, .invokevirtual 139, 164, 1, 0, [], 911),
  (911, .aload_n 2, 2, 0, 0, [], 912),
  (912, .invokevirtual 142, 231, 1, 0, [], 915),
  (915, .if_icmp .eq 517, 1432, 0, 0, [], 918),
  (918, .iconst 0, 0, 0, 0, [], 919),
  (919, .ireturn, 0, 0, 0, [], 920),
  (920, .aload_n 1, 1, 0, 0, [], 921),
  (921, .aload_n 3, 3, 0, 0, [], 922),
  (925, .istore 5, 5, 0, 0, [], 927),
  (927, .aload_n 2, 2, 0, 0, [], 928),
  (928, .invokevirtual 145, 232, 1, 0, [], 931),
  (931, .istore 6, 6, 0, 0, [], 933),
  (933, .aload_n 2, 2, 0, 0, [], 934),
  (934, .invokevirtual 94, 178, 1, 0, [], 937),
  (937, .iload 5, 5, 0, 0, [], 939),
  (939, .if_icmp .eq 5, 944, 0, 0, [], 942),
  (942, .iconst 0, 0, 0, 0, [], 943),
  (943, .ireturn, 0, 0, 0, [], 944),
  (944, .iload 5, 5, 0, 0, [], 946),
  (946, .ifCond .ne 22, 968, 0, 0, [], 949),
  (949, .aload_n 3, 3, 0, 0, [], 950),
  (950, .iconst 0, 0, 0, 0, [], 951),
  (951, .laload, 0, 0, 0, [], 952),
  (952, .iload 6, 6, 0, 0, [], 954),
  (954, .ifCond .eq 7, 961, 0, 0, [], 957),
  (957, .lconst 1, 1, 0, 0, [], 958),
  (958, .goto 4, 962, 0, 0, [], 961),
  (961, .lconst 0, 0, 0, 0, [], 962),
  (962, .lcmp, 0, 0, 0, [], 963),
  (963, .ifCond .eq 5, 968, 0, 0, [], 966),
  (966, .iconst 0, 0, 0, 0, [], 967),
  (967, .ireturn, 0, 0, 0, [], 968),
  (968, .goto 464, 1432, 0, 0, [], 971),
  (971, .aload_n 1, 1, 0, 0, [], 972),
  (972, .invokevirtual 146, 166, 1, 0, [], 975),
  (975, .aload_n 2, 2, 0, 0, [], 976),
  (976, .invokevirtual 149, 239, 1, 0, [], 979),
  (979, .lcmp, 0, 0, 0, [], 980),
  (980, .ifCond .eq 452, 1432, 0, 0, [], 983),
  (983, .iconst 0, 0, 0, 0, [], 984),
  (984, .ireturn, 0, 0, 0, [], 985),
  (985, .aload_n 1, 1, 0, 0, [], 986),
  (986, .aload_n 3, 3, 0, 0, [], 987),
  (990, .istore 5, 5, 0, 0, [], 992),
  (992, .aload_n 2, 2, 0, 0, [], 993),
  (993, .invokevirtual 152, 243, 1, 0, [], 996),
  (996, .lstore 6, 6, 0, 0, [], 998),
  (998, .aload_n 2, 2, 0, 0, [], 999),
  (999, .invokevirtual 94, 178, 1, 0, [], 1002),
  (1002, .iload 5, 5, 0, 0, [], 1004),
  (1004, .if_icmp .eq 5, 1009, 0, 0, [], 1007),
  (1007, .iconst 0, 0, 0, 0, [], 1008),
  (1008, .ireturn, 0, 0, 0, [], 1009),
  (1009, .iload 5, 5, 0, 0, [], 1011),
  (1011, .ifCond .ne 14, 1025, 0, 0, [], 1014),
  (1014, .aload_n 3, 3, 0, 0, [], 1015),
  (1015, .iconst 0, 0, 0, 0, [], 1016),
  (1016, .laload, 0, 0, 0, [], 1017),
  (1017, .lload 6, 6, 0, 0, [], 1019),
  (1019, .lcmp, 0, 0, 0, [], 1020),
  (1020, .ifCond .eq 5, 1025, 0, 0, [], 1023),
  (1023, .iconst 0, 0, 0, 0, [], 1024),
  (1024, .ireturn, 0, 0, 0, [], 1025),
  (1025, .goto 407, 1432, 0, 0, [], 1028),
  (1028, .aload_n 1, 1, 0, 0, [], 1029),
  (1029, .aload_n 0, 0, 0, 0, [], 1030),
  (1030, .iload 4, 4, 0, 0, [], 1032),
  (1032, .iconst 1, 0, 0, 1, [], 1033),
  (1033, .iadd, 0, 0, 0, [], 1034),
  (1034, .iaload, 0, 0, 0, [], 1035),
  (1035, .invokevirtual 153, 168, 2, 0, [], 1038),
  (1038, .aload_n 2, 2, 0, 0, [], 1039),
  (1039, .aload_n 0, 0, 0, 0, [], 1040),
  (1040, .iload 4, 4, 0, 0, [], 1042),
  (1042, .iconst 1, 0, 0, 1, [], 1043),
  (1043, .iadd, 0, 0, 0, [], 1044),
  (1044, .iaload, 0, 0, 0, [], 1045),
  (1045, .invokevirtual 156, 240, 2, 0, [], 1048),
  (1048, .lcmp, 0, 0, 0, [], 1049),
  (1049, .ifCond .eq 383, 1432, 0, 0, [], 1052),
  (1052, .iconst 0, 0, 0, 0, [], 1053),
  (1053, .ireturn, 0, 0, 0, [], 1054),
  (1054, .aload_n 1, 1, 0, 0, [], 1055),
  (1055, .aload_n 0, 0, 0, 0, [], 1056),
  (1056, .iload 4, 4, 0, 0, [], 1058),
  (1058, .iconst 1, 0, 0, 1, [], 1059),
  (1059, .iadd, 0, 0, 0, [], 1060),
  (1060, .iaload, 0, 0, 0, [], 1061),
  (1061, .aload_n 3, 3, 0, 0, [], 1062),
  (1065, .istore 5, 5, 0, 0, [], 1067),
  (1067, .aload_n 2, 2, 0, 0, [], 1068),
  (1068, .aload_n 0, 0, 0, 0, [], 1069),
  (1069, .iload 4, 4, 0, 0, [], 1071),
  (1071, .iconst 1, 0, 0, 1, [], 1072),
  (1072, .iadd, 0, 0, 0, [], 1073),
  (1073, .iaload, 0, 0, 0, [], 1074),
  (1074, .invokevirtual 159, 247, 2, 0, [], 1077),
  (1077, .lstore 6, 6, 0, 0, [], 1079),
  (1079, .aload_n 2, 2, 0, 0, [], 1080),
  (1080, .invokevirtual 94, 178, 1, 0, [], 1083),
  (1083, .iload 5, 5, 0, 0, [], 1085),
  (1085, .if_icmp .eq 5, 1090, 0, 0, [], 1088),
  (1088, .iconst 0, 0, 0, 0, [], 1089),
  (1089, .ireturn, 0, 0, 0, [], 1090),
  (1090, .iload 5, 5, 0, 0, [], 1092),
  (1092, .ifCond .ne 14, 1106, 0, 0, [], 1095),
  (1095, .aload_n 3, 3, 0, 0, [], 1096),
  (1096, .iconst 0, 0, 0, 0, [], 1097),
  (1097, .laload, 0, 0, 0, [], 1098),
  (1098, .lload 6, 6, 0, 0, [], 1100),
  (1100, .lcmp, 0, 0, 0, [], 1101),
  (1101, .ifCond .eq 5, 1106, 0, 0, [], 1104),
  (1104, .iconst 0, 0, 0, 0, [], 1105),
  (1105, .ireturn, 0, 0, 0, [], 1106),
  (1106, .goto 326, 1432, 0, 0, [], 1109),
  (1109, .aload_n 1, 1, 0, 0, [], 1110),
  (1110, .aload_n 0, 0, 0, 0, [], 1111),
  (1111, .iload 4, 4, 0, 0, [], 1113),
  (1113, .iconst 1, 0, 0, 1, [], 1114),
  (1114, .iadd, 0, 0, 0, [], 1115),
  (1115, .iaload, 0, 0, 0, [], 1116),
  (1116, .ifCond .eq 7, 1123, 0, 0, [], 1119),
  (1119, .iconst 1, 0, 0, 1, [], 1120),
  (1120, .goto 4, 1124, 0, 0, [], 1123),
  (1123, .iconst 0, 0, 0, 0, [], 1124),
  (1124, .invokevirtual 160, 170, 2, 0, [], 1127),
  (1127, .aload_n 2, 2, 0, 0, [], 1128),
  (1128, .aload_n 0, 0, 0, 0, [], 1129),
  (1129, .iload 4, 4, 0, 0, [], 1131),
  (1131, .iconst 1, 0, 0, 1, [], 1132),
  (1132, .iadd, 0, 0, 0, [], 1133),
  (1133, .iaload, 0, 0, 0, [], 1134),
  (1134, .ifCond .eq 7, 1141, 0, 0, [], 1137),
  (1137, .iconst 1, 0, 0, 1, [], 1138),
  (1138, .goto 4, 1142, 0, 0, [], 1141),
  (1141, .iconst 0, 0, 0, 0, [], 1142),
  (1142, .invokevirtual 164, 249, 2, 0, [], 1145),
  (1145, .if_icmp .eq 287, 1432, 0, 0, [], 1148),
  (1148, .iconst 0, 0, 0, 0, [], 1149),
  (1149, .ireturn, 0, 0, 0, [], 1150),
  (1150, .aload_n 1, 1, 0, 0, [], 1151),
  (1151, .aload_n 0, 0, 0, 0, [], 1152),
  (1152, .iload 4, 4, 0, 0, [], 1154),
  (1154, .iconst 1, 0, 0, 1, [], 1155),
  (1155, .iadd, 0, 0, 0, [], 1156),
  (1156, .iaload, 0, 0, 0, [], 1157),
  (1157, .aload_n 0, 0, 0, 0, [], 1158),
  (1158, .iload 4, 4, 0, 0, [], 1160),
  (1160, .iconst 2, 0, 0, 2, [], 1161),
  (1161, .iadd, 0, 0, 0, [], 1162),
  (1162, .iaload, 0, 0, 0, [], 1163),
  (1163, .aload_n 0, 0, 0, 0, [], 1164),
  (1164, .iload 4, 4, 0, 0, [], 1166),
  (1166, .iconst 3, 0, 0, 3, [], 1167),
  (1167, .iadd, 0, 0, 0, [], 1168),
  (1168, .iaload, 0, 0, 0, [], 1169),
  (1169, .aload_n 3, 3, 0, 0, [], 1170),
  (1173, .istore 5, 5, 0, 0, [], 1175),
  (1175, .aload_n 2, 2, 0, 0, [], 1176),
  (1176, .aload_n 0, 0, 0, 0, [], 1177),
  (1177, .iload 4, 4, 0, 0, [], 1179),
  (1179, .iconst 1, 0, 0, 1, [], 1180),
  (1180, .iadd, 0, 0, 0, [], 1181),
  (1181, .iaload, 0, 0, 0, [], 1182),
  (1182, .aload_n 0, 0, 0, 0, [], 1183),
  (1183, .iload 4, 4, 0, 0, [], 1185),
  (1185, .iconst 2, 0, 0, 2, [], 1186),
  (1186, .iadd, 0, 0, 0, [], 1187),
  (1187, .iaload, 0, 0, 0, [], 1188),
  (1188, .aload_n 0, 0, 0, 0, [], 1189),
  (1189, .iload 4, 4, 0, 0, [], 1191),
  (1191, .iconst 3, 0, 0, 3, [], 1192),
  (1192, .iadd, 0, 0, 0, [], 1193),
  (1193, .iaload, 0, 0, 0, [], 1194),
  (1194, .invokevirtual 167, 251, 4, 0, [], 1197),
  (1197, .lstore 6, 6, 0, 0, [], 1199),
  (1199, .aload_n 2, 2, 0, 0, [], 1200),
  (1200, .invokevirtual 94, 178, 1, 0, [], 1203),
  (1203, .iload 5, 5, 0, 0, [], 1205),
  (1205, .if_icmp .eq 5, 1210, 0, 0, [], 1208),
  (1208, .iconst 0, 0, 0, 0, [], 1209),
  (1209, .ireturn, 0, 0, 0, [], 1210),
  (1210, .iload 5, 5, 0, 0, [], 1212),
  (1212, .ifCond .ne 14, 1226, 0, 0, [], 1215),
  (1215, .aload_n 3, 3, 0, 0, [], 1216),
  (1216, .iconst 0, 0, 0, 0, [], 1217),
  (1217, .laload, 0, 0, 0, [], 1218),
  (1218, .lload 6, 6, 0, 0, [], 1220),
  (1220, .lcmp, 0, 0, 0, [], 1221),
  (1221, .ifCond .eq 5, 1226, 0, 0, [], 1224),
  (1224, .iconst 0, 0, 0, 0, [], 1225),
  (1225, .ireturn, 0, 0, 0, [], 1226),
  (1226, .goto 206, 1432, 0, 0, [], 1229),
  (1229, .aload_n 1, 1, 0, 0, [], 1230),
  (1230, .aload_n 0, 0, 0, 0, [], 1231),
  (1231, .iload 4, 4, 0, 0, [], 1233),
  (1233, .iconst 1, 0, 0, 1, [], 1234),
  (1234, .iadd, 0, 0, 0, [], 1235),
  (1235, .iaload, 0, 0, 0, [], 1236),
  (1236, .aload_n 3, 3, 0, 0, [], 1237),
  (1240, .istore 5, 5, 0, 0, [], 1242),
  (1242, .aload_n 2, 2, 0, 0, [], 1243),
  (1243, .aload_n 0, 0, 0, 0, [], 1244),
  (1244, .iload 4, 4, 0, 0, [], 1246),
  (1246, .iconst 1, 0, 0, 1, [], 1247),
  (1247, .iadd, 0, 0, 0, [], 1248),
  (1248, .iaload, 0, 0, 0, [], 1249),
  (1249, .invokevirtual 170, 253, 2, 0, [], 1252),
  (1252, .istore 6, 6, 0, 0, [], 1254),
  (1254, .aload_n 2, 2, 0, 0, [], 1255),
  (1255, .invokevirtual 94, 178, 1, 0, [], 1258),
  (1258, .iload 5, 5, 0, 0, [], 1260),
  (1260, .if_icmp .eq 5, 1265, 0, 0, [], 1263),
  (1263, .iconst 0, 0, 0, 0, [], 1264),
  (1264, .ireturn, 0, 0, 0, [], 1265),
  (1265, .iload 5, 5, 0, 0, [], 1267),
  (1267, .ifCond .ne 15, 1282, 0, 0, [], 1270),
  (1270, .aload_n 3, 3, 0, 0, [], 1271),
  (1271, .iconst 0, 0, 0, 0, [], 1272),
  (1272, .laload, 0, 0, 0, [], 1273),
  (1273, .iload 6, 6, 0, 0, [], 1275),
  (1275, .i2l, 0, 0, 0, [], 1276),
  (1276, .lcmp, 0, 0, 0, [], 1277),
  (1277, .ifCond .eq 5, 1282, 0, 0, [], 1280),
  (1280, .iconst 0, 0, 0, 0, [], 1281),
  (1281, .ireturn, 0, 0, 0, [], 1282),
  (1282, .goto 150, 1432, 0, 0, [], 1285),
  (1285, .aload_n 1, 1, 0, 0, [], 1286),
  (1286, .aload_n 3, 3, 0, 0, [], 1287),
  (1290, .istore 5, 5, 0, 0, [], 1292),
  (1292, .aload_n 2, 2, 0, 0, [], 1293),
  (1293, .invokevirtual 173, 254, 1, 0, [], 1296),
  (1296, .lstore 6, 6, 0, 0, [], 1298),
  (1298, .aload_n 2, 2, 0, 0, [], 1299),
  (1299, .invokevirtual 94, 178, 1, 0, [], 1302),
  (1302, .iload 5, 5, 0, 0, [], 1304),
  (1304, .if_icmp .eq 5, 1309, 0, 0, [], 1307),
  (1307, .iconst 0, 0, 0, 0, [], 1308),
  (1308, .ireturn, 0, 0, 0, [], 1309),
  (1309, .iload 5, 5, 0, 0, [], 1311),
  (1311, .ifCond .ne 14, 1325, 0, 0, [], 1314),
  (1314, .aload_n 3, 3, 0, 0, [], 1315),
  (1315, .iconst 0, 0, 0, 0, [], 1316),
  (1316, .laload, 0, 0, 0, [], 1317),
  (1317, .lload 6, 6, 0, 0, [], 1319),
  (1319, .lcmp, 0, 0, 0, [], 1320),
  (1320, .ifCond .eq 5, 1325, 0, 0, [], 1323),
  (1323, .iconst 0, 0, 0, 0, [], 1324),
  (1324, .ireturn, 0, 0, 0, [], 1325),
  (1325, .goto 107, 1432, 0, 0, [], 1328),
  (1328, .aload_n 1, 1, 0, 0, [], 1329),
  (1329, .aload_n 0, 0, 0, 0, [], 1330),
  (1330, .iload 4, 4, 0, 0, [], 1332),
  (1332, .iconst 1, 0, 0, 1, [], 1333),
  (1333, .iadd, 0, 0, 0, [], 1334),
  (1334, .iaload, 0, 0, 0, [], 1335),
  (1335, .aload_n 3, 3, 0, 0, [], 1336),
  (1339, .istore 5, 5, 0, 0, [], 1341),
  (1341, .aload_n 2, 2, 0, 0, [], 1342),
  (1342, .aload_n 0, 0, 0, 0, [], 1343),
  (1343, .iload 4, 4, 0, 0, [], 1345),
  (1345, .iconst 1, 0, 0, 1, [], 1346),
  (1346, .iadd, 0, 0, 0, [], 1347),
  (1347, .iaload, 0, 0, 0, [], 1348),
  (1348, .invokevirtual 176, 255, 2, 0, [], 1351),
  (1351, .lstore 6, 6, 0, 0, [], 1353),
  (1353, .aload_n 2, 2, 0, 0, [], 1354),
  (1354, .invokevirtual 94, 178, 1, 0, [], 1357),
  (1357, .iload 5, 5, 0, 0, [], 1359),
  (1359, .if_icmp .eq 5, 1364, 0, 0, [], 1362),
  (1362, .iconst 0, 0, 0, 0, [], 1363),
  (1363, .ireturn, 0, 0, 0, [], 1364),
  (1364, .iload 5, 5, 0, 0, [], 1366),
  (1366, .ifCond .ne 14, 1380, 0, 0, [], 1369),
  (1369, .aload_n 3, 3, 0, 0, [], 1370),
  (1370, .iconst 0, 0, 0, 0, [], 1371),
  (1371, .laload, 0, 0, 0, [], 1372),
  (1372, .lload 6, 6, 0, 0, [], 1374),
  (1374, .lcmp, 0, 0, 0, [], 1375),
  (1375, .ifCond .eq 5, 1380, 0, 0, [], 1378),
  (1378, .iconst 0, 0, 0, 0, [], 1379),
  (1379, .ireturn, 0, 0, 0, [], 1380),
  (1380, .goto 52, 1432, 0, 0, [], 1383),
  (1383, .aload_n 1, 1, 0, 0, [], 1384),
  (1384, .invokevirtual 177, 175, 1, 0, [], 1387),
  (1387, .aload_n 2, 2, 0, 0, [], 1388),
  (1388, .invokevirtual 180, 256, 1, 0, [], 1391),
  (1391, .goto 41, 1432, 0, 0, [], 1394),
  (1394, .aload_n 1, 1, 0, 0, [], 1395),
  (1395, .invokevirtual 181, 176, 1, 0, [], 1398),
  (1398, .aload_n 2, 2, 0, 0, [], 1399),
  (1399, .invokevirtual 184, 257, 1, 0, [], 1402),
  (1402, .if_icmp .eq 30, 1432, 0, 0, [], 1405),
  (1405, .iconst 0, 0, 0, 0, [], 1406),
  (1406, .ireturn, 0, 0, 0, [], 1407),
  (1407, .aload_n 1, 1, 0, 0, [], 1408),
  (1408, .aload_n 0, 0, 0, 0, [], 1409),
  (1409, .iload 4, 4, 0, 0, [], 1411),
  (1411, .iconst 1, 0, 0, 1, [], 1412),
  (1412, .iadd, 0, 0, 0, [], 1413),
  (1413, .iaload, 0, 0, 0, [], 1414),
  (1414, .invokevirtual 185, 177, 2, 0, [], 1417),
  (1417, .aload_n 2, 2, 0, 0, [], 1418),
  (1418, .aload_n 0, 0, 0, 0, [], 1419),
  (1419, .iload 4, 4, 0, 0, [], 1421),
  (1421, .iconst 1, 0, 0, 1, [], 1422),
  (1422, .iadd, 0, 0, 0, [], 1423),
  (1423, .iaload, 0, 0, 0, [], 1424),
  (1424, .invokevirtual 188, 258, 2, 0, [], 1427),
  (1427, .if_icmp .eq 5, 1432, 0, 0, [], 1430),
  (1430, .iconst 0, 0, 0, 0, [], 1431),
  (1431, .ireturn, 0, 0, 0, [], 1432),
  (1432, .iinc 4 6, 4, 0, 6, [], 1435),
  (1435, .goto (-1412), 23, 0, 0, [], 1438),
  (1438, .iconst 1, 0, 0, 1, [], 1439),
  (1439, .ireturn, 0, 0, 0, [], 1440)]
set_option maxRecDepth 100000 in
def k_lawW : List aE := [(268, .invokestatic 88, 0, 2, 0, [], 271),
  (337, .invokestatic 101, 1, 4, 0, [], 340),
  (405, .invokestatic 105, 2, 4, 0, [], 408),
  (487, .invokestatic 108, 3, 5, 0, [], 490),
  (589, .invokestatic 112, 4, 6, 0, [], 592),
  (677, .invokestatic 116, 5, 4, 0, [], 680),
  (751, .invokestatic 119, 6, 5, 0, [], 754),
  (845, .invokestatic 131, 7, 3, 0, [], 848),
  (922, .invokestatic 143, 8, 2, 0, [], 925),
  (987, .invokestatic 150, 9, 2, 0, [], 990),
  (1062, .invokestatic 157, 10, 3, 0, [], 1065),
  (1170, .invokestatic 165, 11, 5, 0, [], 1173),
  (1237, .invokestatic 168, 12, 3, 0, [], 1240),
  (1287, .invokestatic 171, 13, 2, 0, [], 1290),
  (1336, .invokestatic 174, 14, 3, 0, [], 1339)]
def a_wlT : List (Nat × Nat × Nat) := [(88, 0, 777), (101, 1, 1058), (105, 2, 1087), (108, 3, 1127), (112, 4, 1137), (116, 5, 1159), (119, 6, 1169), (131, 7, 1183), (143, 8, 1271), (150, 9, 1311), (157, 10, 1370), (165, 11, 1405), (168, 12, 1419), (171, 13, 1435), (174, 14, 1450)]
/-! the law's body in the small machine -/
def a_wpW (nS d : Nat) (K : Nat → aK) (n pc : Nat) (L : aL) (S : List aV) (M : aM) : Prop :=
  match a_fnd k_lawW pc with
  | some (.invokestatic _, x, y, _, _, nx) => n < 1000 ∧ ∃ P, aCW nS d x (S.take y).reverse M P ∧ (Nat.ble (a_wid (S.drop y)) 8 && Nat.ble y S.length) = true ∧ ∀ v M', P v M' → K (n + 1) nx L (a_res v (S.drop y)) M'
  | _ => False
/-- the law, from a place of its body on: it comes to its end, with true -/
def aCL (nS d : Nat) (pc0 : Nat) (L0 : aL) (M0 : aM) : Prop :=
  ∀ K : Nat → aK, (∀ n pc L S M, a_wp d nS (fun y as M P => aC nS d y as M P (fun _ _ => False)) ret k_law (fun _ _ => False) (fun _ _ => False) (K n) pc L S M → K n pc L S M) →
    (∀ n pc L S M, a_wpW nS d K n pc L S M → K n pc L S M) → (∀ n pc L M e, a_fnd k_law pc = some e → e.1 = .ireturn → K n pc L [vI 1] M) →
    (∀ n pc L L' S M, a_le L' L → K n pc L' S M → K n pc L S M) → K 0 pc0 L0 [] M0
def a_lwB (e : aE) : Bool := match e with
  | (pc, i, x, y, _, _, nx) => match i with
    | .invokestatic ix => decide (decode code pc = .ok (.invokestatic ix, 3)) && Nat.beq nx (pc + 3) && (match a_wt[x]? with
      | some (nm, _, _, _, na, _, _) => Nat.beq na y && a_wlT.any (fun q => Nat.beq q.1 ix && (Nat.beq q.2.1 x && a_w q.2.2 (.methodLink "TurnBoardLaw" ix nm)))
      | none => false)
    | _ => false
theorem a_lwB_ok : k_lawW.all a_lwB = true := by decide +kernel
set_option maxHeartbeats 4000000 in
theorem a_soundL {l : Launch} (hl : l.stackTraces = false) {p : Program} {e : Env} {s : State} {m : MethodId} {below : List Frame} {meth : Method} {c : Code} {b : Nat} {D : va_G} {cA cL : ClassId} {ad : Nat → Nat → Nat} {adV : Nat → Nat} {lv : List (Nat × Nat)} {nS : Nat} {xs : Nat → Int32} (hmt : ∀ m ∈ a_mt, a_ckM m = true) (hwt : ∀ m ∈ a_wt, a_ckW m = true) (hckL : a_ckP code 12 8 k_law = true) (hinj : a_inj lv) (hclo : a_clo lv) (hO1 : a_adOK ad)
    (hnew : ∀ q ∈ lv, s.heap.size ≤ ad q.1 q.2) (Cx : a_Cx p s m #[Value.ref b] meth c D cA cL ad lv (a_X ad adV nS xs) 8 code 12 ret) {kc ks : Nat} (hkc : kc + 1001 ≤ 600002) (hks : ks + 6006 ≤ 7302232) {pc0 : Nat} {L0 : aL} {M0 : aM} (h : aCL nS 60 pc0 L0 M0) :
    a_KW p l e room_1 s m #[Value.ref b] below meth c D cA cL ad lv nS xs 8 kc ks (lw_Z below #[Value.ref b] s) pc0 L0 [] M0 := by
  have hcal : ∀ y as M P, aC nS 60 y as M P (fun _ _ => False) → a_J l D cA cL ad lv nS xs (a_X ad adV nS xs) 60 y as M P := fun y as M P hc => a_sound a_Xok hmt hinj hclo (a_RuX hO1) 60 y as M P hc
  have hR : 60 + 1 ≤ room_1.frames ∧ 64 * 60 + 41 ≤ room_1.locals := ⟨Nat.le_of_ble_eq_true rfl, Nat.le_of_ble_eq_true rfl⟩
  have Cx' := Cx
  obtain ⟨hx, hb, hr, hml, hown, hts, hlocks, hK, hDall, -, -, hXs⟩ := Cx
  have key := h (fun n pc L S M => n ≤ 1000 → a_KW p l e room_1 s m #[Value.ref b] below meth c D cA cL ad lv nS xs 8 (kc + n) (ks + 6 * n) (lw_Z below #[Value.ref b] s) pc L S M) ?_ ?_ ?_ ?_ (Nat.zero_le _)
  · exact key
  · intro n pc L S M h9 hn
    have hC : kc + n ≤ room_1.cells ∧ ks + 6 * n ≤ room_1.slots := ⟨by show kc + n ≤ 600002; omega, by show ks + 6 * n ≤ 7302232; omega⟩
    refine a_step Cx' a_Xok hckL hmt hR hC hcal (mc := kc + n) (ms := ks + 6 * n) (post := fun _ _ => False) (px := fun _ _ => False) (fun H locs g hq T hT X => ?_) (a_RuX hO1 p e room_1 s m _ below meth c 8 (kc + n) (ks + 6 * n) code 12 60 ret (lw_Z below #[Value.ref b] s) Cx' hR hC) (a_wp_mono (fun pc L S M hk => hk hn) h9)
    obtain ⟨t, a1, o, g1, g2, ⟨⟨v, M', g3, g4, g5⟩, g6⟩, g7⟩ := hq T hT X
    exact False.elim g4
  · intro n pc L S M h9 hn H locs ls hP9 hS9 hLR9 hoL9 hoS9 hsc9
    unfold a_wpW at h9
    cases hf : a_fnd k_lawW pc with
    | none => rw [hf] at h9; exact False.elim h9
    | some ee =>
      obtain ⟨i, x, y, c0, t, nx⟩ := ee
      rw [hf] at h9
      have hB := List.all_eq_true.mp a_lwB_ok _ (a_fnd_mem k_lawW pc _ hf)
      unfold a_lwB at hB
      dsimp only at hB h9
      cases i with
      | invokestatic ix =>
        dsimp only at hB h9
        obtain ⟨hn9, P, hC9, hb9, hk9⟩ := h9
        simp only [Bool.and_eq_true, decide_eq_true_eq] at hB hb9
        obtain ⟨⟨hd, hnx⟩, hB⟩ := hB
        have hnx := Nat.eq_of_beq_eq_true hnx
        subst hnx
        cases hwx : a_wt[x]? with
        | none => rw [hwx] at hB; cases hB
        | some wm =>
          obtain ⟨nm, b', nL', hh', na', ps', cd'⟩ := wm
          rw [hwx] at hB
          simp only [Bool.and_eq_true] at hB
          have hna := Nat.eq_of_beq_eq_true hB.1
          subst hna
          obtain ⟨q, hq1, hq2⟩ := List.any_eq_true.mp hB.2
          simp only [Bool.and_eq_true] at hq2
          have hlk := a_w_in hq2.2.2
          obtain ⟨hck', hpl', hn1, hn2, hpar, hcl', hnL', hcw', hsta, hini⟩ := a_wtf hwt hwx
          have hJ := a_soundW (xs := xs) (adV := adV) (D := D) (cA := cA) (cL := cL) hl hmt hwt hinj hclo hO1 59 x _ M P hC9 nm b' nL' hh' na' ps' cd' hwx H.size
          have hwid := Nat.le_of_ble_eq_true hb9.1
          have hyl := Nat.le_of_ble_eq_true hb9.2
          have hoA9 : ∀ v ∈ (S.take na').reverse, a_okv lv v := fun v hv => hoS9 v (List.mem_of_mem_take (List.mem_reverse.mp hv))
          have hpc := a_Pc_at Cx' a_Xok hP9 hS9 hoA9 hsc9
          have cw : vx_CSW room_1 s #[Value.ref b] "TurnBoardLaw" ix nm b' nL' (some .int) hh' (Cond.codeWith nm b' nL' (some .int) hh' :: a_tbl) (a_rm 61 1) 1 6 na' := by
            refine ⟨⟨rfl, rfl, Nat.le_of_ble_eq_true rfl, ?_, fun w hw a' U hW => ?_, List.mem_cons_self⟩, hts _ hcw', hts _ hini, ⟨hn1, hn2⟩, fun sig hsig => ?_, hts _ hlk, hts _ hsta⟩
            · show 8 + (nL' + 11) + 64 * 61 ≤ 84000
              omega
            · have hm : w ∈ a_tbl := by
                rcases List.mem_cons.mp hw with h | h
                · rw [h]; exact hcw'
                · exact h
              exact word_at hW (good_of_word (List.mem_filter.mp hm).2) (hts w hm)
            · rw [hsig] at hpar
              exact (Option.some.inj hpar).symm
          have hrun := vx_runSX (R := room_1) (As := (S.take na').reverse.map (a_tr ad)) (rest := (S.drop na').map (a_tr ad)) (g := F0 m pc ls (S.map (a_tr ad))) (cells := kc + n) (slots := ks + 6 * n) (locs := locs) (e := e) (below := below) (meth := meth) (Ts := a_tbl) ⟨hx, hb, hml, hown, hts⟩ hJ cw ⟨a_blind a_Xok, hpc⟩ rfl (by simp; omega) hLR9.2.1 (by
              show S.map (a_tr ad) = _
              conv => lhs; rw [← List.take_append_drop na' S]
              simp) (lv_room (by rw [a_wid_eq]; exact hwid)) hd ⟨by show kc + n + 1 ≤ 600002; omega, by show ks + 6 * n + 6 ≤ 7302232; omega⟩
          have hsub : ∀ q, a_A ad lv H.size q → a_A ad lv s.heap.size q := fun q hq => by
            rcases hq with hq | hq
            · exact Or.inl hq
            · exact Or.inr (Nat.le_trans hS9.1 hq)
          intro T hT XX
          rcases hrun T hT XX with ⟨v, st₀, t9, T', Lx, h0, X', hL, e1, e2, ⟨⟨v0, M', hv, hpost, hokv, hPM, hsc'⟩, hz, hkk⟩, st⟩ | ⟨q, st₀, t9, T', Lx, E, ce, h0, X', hL, e1, e2, hF9, -⟩
          · obtain ⟨k1, k2, k3⟩ := vx_keep (A1 := a_A ad lv H.size) h0 e1 hS9 (fun q _ hq => hsub q hq) hsub hL ⟨hz, hkk⟩
            have hv : v = v0.map (a_tr ad) := by injection hv
            have e9 : v.toList ++ (S.drop na').map (a_tr ad) = (a_res v0 (S.drop na')).map (a_tr ad) := by
              subst hv
              cases v0 <;> rfl
            have hoS' : ∀ w ∈ a_res v0 (S.drop na'), a_okv lv w := by
              cases v0 with
              | none => exact fun v hv => hoS9 v (List.mem_of_mem_drop hv)
              | some w => exact List.forall_mem_cons.mpr ⟨hokv w rfl, fun v hv => hoS9 v (List.mem_of_mem_drop hv)⟩
            obtain ⟨t2, a1, b1⟩ := hk9 v0 M' hpost (by omega) T'.heap (locs ++ Lx) ls (by rw [e1]; exact hPM) k3 hLR9 hoL9 hoS' hsc' T' rfl X'
            rw [← e9] at a1
            exact ⟨t2, st t2 a1, b1⟩
          · exact False.elim hF9
      | _ => exact False.elim h9
  · intro n pc L M ee hf hi hn H locs ls hP9 hS9 hLR9 hoL9 hoS9 hsc9
    obtain ⟨len, hd, hc⟩ := a_fnd_ck hckL hf
    obtain ⟨i, x, y, c0, t, nx⟩ := ee
    dsimp only at hi hd
    subst hi
    obtain ⟨rfl, rfl⟩ := a_len3 (show (Nat.beq len 1 && Nat.beq nx (pc + 1)) = true from hc)
    refine W.widen (k := 600002) (n := 7302232) (by omega) (by omega) ?_
    refine va_forget (fun q hq => ?_) ?_
    · rcases hS9.2.2 q hq with ⟨r, hr1, hr2⟩ | hq9
      · rw [hr2]; exact hnew r hr1
      · exact hq9
    · exact lw_ret hx hb hr hlocks hd
  · intro n pc L L' S M hle hk hn
    exact a_KW_le hle (hk hn)
