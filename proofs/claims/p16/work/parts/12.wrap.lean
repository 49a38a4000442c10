/-! the law's own methods with a table: one call of a method that may throw, its handlers -/
abbrev aW : Type := MethodName × ByteArray × Nat × List (Nat × Nat × Nat × Nat) × Nat × List Nat × List aE
def k_L_board : List aE := [(0, .aload_n 1, 1, 0, 0, [], 1),
  (1, .iconst 0, 0, 0, 0, [], 2),
  (2, .aload_n 0, 0, 0, 0, [], 3),
  (3, .invokevirtual 7, 152, 1, 0, [], 6),
  (6, .i2l, 0, 0, 0, [], 7),
  (7, .lastore, 0, 0, 0, [], 8),
  (8, .goto 9, 17, 0, 0, [], 11),
  (11, .astore_n 2, 2, 0, 0, [], 12),
  (12, .iconst 1, 0, 0, 1, [], 13),
  (13, .ireturn, 0, 0, 0, [], 14),
  (14, .astore_n 2, 2, 0, 0, [], 15),
  (15, .iconst 2, 0, 0, 2, [], 16),
  (16, .ireturn, 0, 0, 0, [], 17),
  (17, .iconst 0, 0, 0, 0, [], 18),
  (18, .ireturn, 0, 0, 0, [], 19)]
def wt_L_board : aW := (yL_board, cL_board, 3, [(0, 8, 11, 13), (0, 8, 14, 15)], 2, [779, 778, 90], k_L_board)
def k_L_by : List aE := [(0, .aload_n 3, 3, 0, 0, [], 1),
  (1, .iconst 0, 0, 0, 0, [], 2),
  (2, .aload_n 0, 0, 0, 0, [], 3),
  (3, .iload_n 1, 1, 0, 0, [], 4),
  (4, .iload_n 2, 2, 0, 0, [], 5),
  (5, .invokevirtual 17, 154, 3, 0, [], 8),
  (8, .i2l, 0, 0, 0, [], 9),
  (9, .lastore, 0, 0, 0, [], 10),
  (10, .goto 7, 17, 0, 0, [], 13),
  (13, .astore 4, 4, 0, 0, [], 15),
  (15, .iconst 1, 0, 0, 1, [], 16),
  (16, .ireturn, 0, 0, 0, [], 17),
  (17, .iconst 0, 0, 0, 0, [], 18),
  (18, .ireturn, 0, 0, 0, [], 19)]
def wt_L_by : aW := (yL_by, cL_by, 5, [(0, 10, 13, 21)], 4, [1060, 1059, 90], k_L_by)
def k_L_turn : List aE := [(0, .aload_n 3, 3, 0, 0, [], 1),
  (1, .iconst 0, 0, 0, 0, [], 2),
  (2, .aload_n 0, 0, 0, 0, [], 3),
  (3, .iload_n 1, 1, 0, 0, [], 4),
  (4, .iload_n 2, 2, 0, 0, [], 5),
  (5, .invokevirtual 23, 155, 3, 0, [], 8),
  (8, .i2l, 0, 0, 0, [], 9),
  (9, .lastore, 0, 0, 0, [], 10),
  (10, .goto 11, 21, 0, 0, [], 13),
  (13, .astore 4, 4, 0, 0, [], 15),
  (15, .iconst 1, 0, 0, 1, [], 16),
  (16, .ireturn, 0, 0, 0, [], 17),
  (17, .astore 4, 4, 0, 0, [], 19),
  (19, .iconst 2, 0, 0, 2, [], 20),
  (20, .ireturn, 0, 0, 0, [], 21),
  (21, .iconst 0, 0, 0, 0, [], 22),
  (22, .ireturn, 0, 0, 0, [], 23)]
def wt_L_turn : aW := (yL_turn, cL_turn, 5, [(0, 10, 13, 21), (0, 10, 17, 26)], 4, [1089, 1088, 90], k_L_turn)
def k_L_line : List aE := [(0, .aload 4, 4, 0, 0, [], 2),
  (2, .iconst 0, 0, 0, 0, [], 3),
  (3, .aload_n 0, 0, 0, 0, [], 4),
  (4, .iload_n 1, 1, 0, 0, [], 5),
  (5, .iload_n 2, 2, 0, 0, [], 6),
  (6, .iload_n 3, 3, 0, 0, [], 7),
  (7, .invokevirtual 28, 156, 4, 0, [], 10),
  (10, .i2l, 0, 0, 0, [], 11),
  (11, .lastore, 0, 0, 0, [], 12),
  (12, .goto 7, 19, 0, 0, [], 15),
  (15, .astore 5, 5, 0, 0, [], 17),
  (17, .iconst 1, 0, 0, 1, [], 18),
  (18, .ireturn, 0, 0, 0, [], 19),
  (19, .iconst 0, 0, 0, 0, [], 20),
  (20, .ireturn, 0, 0, 0, [], 21)]
def wt_L_line : aW := (yL_line, cL_line, 6, [(0, 12, 15, 21)], 5, [1129, 1128, 90], k_L_line)
def k_L_set : List aE := [(0, .aload 5, 5, 0, 0, [], 2),
  (2, .iconst 0, 0, 0, 0, [], 3),
  (3, .aload_n 0, 0, 0, 0, [], 4),
  (4, .iload_n 1, 1, 0, 0, [], 5),
  (5, .iload_n 2, 2, 0, 0, [], 6),
  (6, .iload_n 3, 3, 0, 0, [], 7),
  (7, .iload 4, 4, 0, 0, [], 9),
  (9, .invokevirtual 32, 157, 5, 0, [], 12),
  (12, .i2l, 0, 0, 0, [], 13),
  (13, .lastore, 0, 0, 0, [], 14),
  (14, .goto 7, 21, 0, 0, [], 17),
  (17, .astore 6, 6, 0, 0, [], 19),
  (19, .iconst 1, 0, 0, 1, [], 20),
  (20, .ireturn, 0, 0, 0, [], 21),
  (21, .iconst 0, 0, 0, 0, [], 22),
  (22, .ireturn, 0, 0, 0, [], 23)]
def wt_L_set : aW := (yL_set, cL_set, 7, [(0, 14, 17, 21)], 6, [1139, 1138, 90], k_L_set)
def k_L_round : List aE := [(0, .aload_n 3, 3, 0, 0, [], 1),
  (1, .iconst 0, 0, 0, 0, [], 2),
  (2, .aload_n 0, 0, 0, 0, [], 3),
  (3, .iload_n 1, 1, 0, 0, [], 4),
  (4, .iload_n 2, 2, 0, 0, [], 5),
  (5, .invokevirtual 36, 158, 3, 0, [], 8),
  (8, .i2l, 0, 0, 0, [], 9),
  (9, .lastore, 0, 0, 0, [], 10),
  (10, .goto 7, 17, 0, 0, [], 13),
  (13, .astore 4, 4, 0, 0, [], 15),
  (15, .iconst 1, 0, 0, 1, [], 16),
  (16, .ireturn, 0, 0, 0, [], 17),
  (17, .iconst 0, 0, 0, 0, [], 18),
  (18, .ireturn, 0, 0, 0, [], 19)]
def wt_L_round : aW := (yL_round, cL_round, 5, [(0, 10, 13, 21)], 4, [1161, 1160, 90], k_L_round)
def k_L_frame : List aE := [(0, .aload 4, 4, 0, 0, [], 2),
  (2, .iconst 0, 0, 0, 0, [], 3),
  (3, .aload_n 0, 0, 0, 0, [], 4),
  (4, .iload_n 1, 1, 0, 0, [], 5),
  (5, .iload_n 2, 2, 0, 0, [], 6),
  (6, .iload_n 3, 3, 0, 0, [], 7),
  (7, .invokevirtual 39, 159, 4, 0, [], 10),
  (10, .i2l, 0, 0, 0, [], 11),
  (11, .lastore, 0, 0, 0, [], 12),
  (12, .goto 7, 19, 0, 0, [], 15),
  (15, .astore 5, 5, 0, 0, [], 17),
  (17, .iconst 1, 0, 0, 1, [], 18),
  (18, .ireturn, 0, 0, 0, [], 19),
  (19, .iconst 0, 0, 0, 0, [], 20),
  (20, .ireturn, 0, 0, 0, [], 21)]
def wt_L_frame : aW := (yL_frame, cL_frame, 6, [(0, 12, 15, 21)], 5, [1171, 1170, 90], k_L_frame)
def k_L_walk : List aE := [(0, .aload_n 2, 2, 0, 0, [], 1),
  (1, .iconst 0, 0, 0, 0, [], 2),
  (2, .aload_n 0, 0, 0, 0, [], 3),
  (3, .iload_n 1, 1, 0, 0, [], 4),
  (4, .invokevirtual 43, 162, 2, 0, [], 7),
  (7, .i2l, 0, 0, 0, [], 8),
  (8, .lastore, 0, 0, 0, [], 9),
  (9, .goto 9, 18, 0, 0, [], 12),
  (12, .astore_n 3, 3, 0, 0, [], 13),
  (13, .iconst 1, 0, 0, 1, [], 14),
  (14, .ireturn, 0, 0, 0, [], 15),
  (15, .astore_n 3, 3, 0, 0, [], 16),
  (16, .iconst 2, 0, 0, 2, [], 17),
  (17, .ireturn, 0, 0, 0, [], 18),
  (18, .iconst 0, 0, 0, 0, [], 19),
  (19, .ireturn, 0, 0, 0, [], 20)]
def wt_L_walk : aW := (yL_walk, cL_walk, 4, [(0, 9, 12, 13), (0, 9, 15, 26)], 3, [1185, 1184, 90], k_L_walk)
def k_L_alike : List aE := [(0, .aload_n 1, 1, 0, 0, [], 1),
  (1, .iconst 0, 0, 0, 0, [], 2),
  (2, .aload_n 0, 0, 0, 0, [], 3),
  (3, .invokevirtual 47, 165, 1, 0, [], 6),
  (6, .ifCond .eq 7, 13, 0, 0, [], 9),
  (9, .lconst 1, 1, 0, 0, [], 10),
  (10, .goto 4, 14, 0, 0, [], 13),
  (13, .lconst 0, 0, 0, 0, [], 14),
  (14, .lastore, 0, 0, 0, [], 15),
  (15, .goto 6, 21, 0, 0, [], 18),
  (18, .astore_n 2, 2, 0, 0, [], 19),
  (19, .iconst 1, 0, 0, 1, [], 20),
  (20, .ireturn, 0, 0, 0, [], 21),
  (21, .iconst 0, 0, 0, 0, [], 22),
  (22, .ireturn, 0, 0, 0, [], 23)]
def wt_L_alike : aW := (yL_alike, cL_alike, 3, [(0, 15, 18, 51)], 2, [1273, 1272, 90], k_L_alike)
def k_L_listed : List aE := [(0, .aload_n 1, 1, 0, 0, [], 1),
  (1, .iconst 0, 0, 0, 0, [], 2),
  (2, .aload_n 0, 0, 0, 0, [], 3),
  (3, .invokevirtual 53, 167, 1, 0, [], 6),
  (6, .lastore, 0, 0, 0, [], 7),
  (7, .goto 6, 13, 0, 0, [], 10),
  (10, .astore_n 2, 2, 0, 0, [], 11),
  (11, .iconst 1, 0, 0, 1, [], 12),
  (12, .ireturn, 0, 0, 0, [], 13),
  (13, .iconst 0, 0, 0, 0, [], 14),
  (14, .ireturn, 0, 0, 0, [], 15)]
def wt_L_listed : aW := (yL_listed, cL_listed, 3, [(0, 7, 10, 51)], 2, [1313, 1312, 90], k_L_listed)
def k_L_mean : List aE := [(0, .aload_n 2, 2, 0, 0, [], 1),
  (1, .iconst 0, 0, 0, 0, [], 2),
  (2, .aload_n 0, 0, 0, 0, [], 3),
  (3, .iload_n 1, 1, 0, 0, [], 4),
  (4, .invokevirtual 57, 169, 2, 0, [], 7),
  (7, .lastore, 0, 0, 0, [], 8),
  (8, .goto 12, 20, 0, 0, [], 11),
  (11, .astore_n 3, 3, 0, 0, [], 12),
  (12, .iconst 1, 0, 0, 1, [], 13),
  (13, .ireturn, 0, 0, 0, [], 14),
  (14, .astore_n 3, 3, 0, 0, [], 15),
  (15, .iconst 2, 0, 0, 2, [], 16),
  (16, .ireturn, 0, 0, 0, [], 17),
  (17, .astore_n 3, 3, 0, 0, [], 18),
  (18, .iconst 3, 0, 0, 3, [], 19),
  (19, .ireturn, 0, 0, 0, [], 20),
  (20, .iconst 0, 0, 0, 0, [], 21),
  (21, .ireturn, 0, 0, 0, [], 22)]
def wt_L_mean : aW := (yL_mean, cL_mean, 4, [(0, 8, 11, 21), (0, 8, 14, 13), (0, 8, 17, 51)], 3, [1372, 1371, 90], k_L_mean)
def k_L_body : List aE := [(0, .aload 4, 4, 0, 0, [], 2),
  (2, .iconst 0, 0, 0, 0, [], 3),
  (3, .aload_n 0, 0, 0, 0, [], 4),
  (4, .iload_n 1, 1, 0, 0, [], 5),
  (5, .iload_n 2, 2, 0, 0, [], 6),
  (6, .iload_n 3, 3, 0, 0, [], 7),
  (7, .invokevirtual 61, 171, 4, 0, [], 10),
  (10, .lastore, 0, 0, 0, [], 11),
  (11, .goto 7, 18, 0, 0, [], 14),
  (14, .astore 5, 5, 0, 0, [], 16),
  (16, .iconst 1, 0, 0, 1, [], 17),
  (17, .ireturn, 0, 0, 0, [], 18),
  (18, .iconst 0, 0, 0, 0, [], 19),
  (19, .ireturn, 0, 0, 0, [], 20)]
def wt_L_body : aW := (yL_body, cL_body, 6, [(0, 11, 14, 13)], 5, [1407, 1406, 90], k_L_body)
def k_L_dual : List aE := [(0, .aload_n 2, 2, 0, 0, [], 1),
  (1, .iconst 0, 0, 0, 0, [], 2),
  (2, .aload_n 0, 0, 0, 0, [], 3),
  (3, .iload_n 1, 1, 0, 0, [], 4),
  (4, .invokevirtual 65, 172, 2, 0, [], 7),
  (7, .i2l, 0, 0, 0, [], 8),
  (8, .lastore, 0, 0, 0, [], 9),
  (9, .goto 9, 18, 0, 0, [], 12),
  (12, .astore_n 3, 3, 0, 0, [], 13),
  (13, .iconst 1, 0, 0, 1, [], 14),
  (14, .ireturn, 0, 0, 0, [], 15),
  (15, .astore_n 3, 3, 0, 0, [], 16),
  (16, .iconst 2, 0, 0, 2, [], 17),
  (17, .ireturn, 0, 0, 0, [], 18),
  (18, .iconst 0, 0, 0, 0, [], 19),
  (19, .ireturn, 0, 0, 0, [], 20)]
def wt_L_dual : aW := (yL_dual, cL_dual, 4, [(0, 9, 12, 21), (0, 9, 15, 51)], 3, [1421, 1420, 90], k_L_dual)
def k_L_dualSum : List aE := [(0, .aload_n 1, 1, 0, 0, [], 1),
  (1, .iconst 0, 0, 0, 0, [], 2),
  (2, .aload_n 0, 0, 0, 0, [], 3),
  (3, .invokevirtual 68, 173, 1, 0, [], 6),
  (6, .lastore, 0, 0, 0, [], 7),
  (7, .goto 6, 13, 0, 0, [], 10),
  (10, .astore_n 2, 2, 0, 0, [], 11),
  (11, .iconst 1, 0, 0, 1, [], 12),
  (12, .ireturn, 0, 0, 0, [], 13),
  (13, .iconst 0, 0, 0, 0, [], 14),
  (14, .ireturn, 0, 0, 0, [], 15)]
def wt_L_dualSum : aW := (yL_dualSum, cL_dualSum, 3, [(0, 7, 10, 51)], 2, [1437, 1436, 90], k_L_dualSum)
def k_L_draw : List aE := [(0, .aload_n 2, 2, 0, 0, [], 1),
  (1, .iconst 0, 0, 0, 0, [], 2),
  (2, .aload_n 0, 0, 0, 0, [], 3),
  (3, .iload_n 1, 1, 0, 0, [], 4),
  (4, .invokevirtual 71, 174, 2, 0, [], 7),
  (7, .lastore, 0, 0, 0, [], 8),
  (8, .goto 6, 14, 0, 0, [], 11),
  (11, .astore_n 3, 3, 0, 0, [], 12),
  (12, .iconst 1, 0, 0, 1, [], 13),
  (13, .ireturn, 0, 0, 0, [], 14),
  (14, .iconst 0, 0, 0, 0, [], 15),
  (15, .ireturn, 0, 0, 0, [], 16)]
def wt_L_draw : aW := (yL_draw, cL_draw, 4, [(0, 8, 11, 51)], 3, [1452, 1451, 90], k_L_draw)
def a_wt : List aW := [wt_L_board, wt_L_by, wt_L_turn, wt_L_line, wt_L_set, wt_L_round, wt_L_frame, wt_L_walk, wt_L_alike, wt_L_listed, wt_L_mean, wt_L_body, wt_L_dual, wt_L_dualSum, wt_L_draw]
def a_clT : List (Nat × Nat × Nat) := [(13, 0, 780), (15, 1, 781), (21, 2, 1061), (26, 3, 1090), (51, 4, 1274)]
def a_clW (q : Nat × Nat × Nat) : Bool := a_w q.2.2 (.classLink "TurnBoardLaw" q.1 (a_en q.2.1)) && !(Nat.beq q.1 0)
theorem a_clW_ok : a_clT.all a_clW = true := by decide +kernel
def a_hnd (pc e : Nat) : List (Nat × Nat × Nat × Nat) → Option Nat
  | [] => none
  | (s, en, h, ct) :: r => bif covers ⟨s, en, h, ct⟩ pc then (match a_clT.find? (fun q => Nat.beq q.1 ct) with
      | some (_, e', _) => bif Nat.beq e' e then some h else bif a_ncT.any (fun z => Nat.beq z.1 e && Nat.beq z.2 e') then a_hnd pc e r else none
      | none => none) else a_hnd pc e r
theorem a_hnd_ok {pc e h : Nat} : ∀ {hh : List (Nat × Nat × Nat × Nat)}, a_hnd pc e hh = some h →
    ∃ (pre : List ExceptionTableEntry) (x : ExceptionTableEntry) (suf : List ExceptionTableEntry), tableOf hh = pre ++ x :: suf ∧ (∀ z ∈ pre, covers z pc = false ∨ (z.catchType ≠ 0 ∧ ∃ e' : Nat, Cond.classLink "TurnBoardLaw" z.catchType (a_en e') ∈ a_tbl ∧ (e, e') ∈ a_ncT)) ∧ covers x pc = true ∧ x.catchType ≠ 0 ∧ Cond.classLink "TurnBoardLaw" x.catchType (a_en e) ∈ a_tbl ∧ x.handlerPc = h
  | [], hh => by simp [a_hnd] at hh
  | (s, en, hp, ct) :: r, hh => by
    simp only [a_hnd] at hh
    cases hc : covers ⟨s, en, hp, ct⟩ pc with
    | false =>
      rw [hc] at hh
      simp only [cond_false] at hh
      obtain ⟨pre, x, suf, h1, h2, h3⟩ := a_hnd_ok hh
      refine ⟨⟨s, en, hp, ct⟩ :: pre, x, suf, by show _ :: tableOf r = _; rw [h1]; rfl, fun z hz => ?_, h3⟩
      rcases List.mem_cons.mp hz with rfl | hz
      · exact Or.inl hc
      · exact h2 z hz
    | true =>
      rw [hc] at hh
      simp only [cond_true] at hh
      cases hf : a_clT.find? (fun q => Nat.beq q.1 ct) with
      | none => rw [hf] at hh; cases hh
      | some q =>
        obtain ⟨ct', e', p'⟩ := q
        rw [hf] at hh
        dsimp only at hh
        have hm := List.mem_of_find?_eq_some hf
        have he := List.find?_some hf
        have he := Nat.eq_of_beq_eq_true he
        dsimp only at he
        subst he
        have hw := List.all_eq_true.mp a_clW_ok _ hm
        unfold a_clW at hw
        rw [Bool.and_eq_true] at hw
        have hin := a_w_in hw.1
        have h0 : ct' ≠ 0 := fun z => by
          have := hw.2
          rw [z] at this
          cases this
        cases hb : Nat.beq e' e with
        | true =>
          rw [hb] at hh
          simp only [cond_true, Option.some.injEq] at hh
          have := Nat.eq_of_beq_eq_true hb
          subst this
          exact ⟨[], ⟨s, en, hp, ct'⟩, tableOf r, rfl, (fun z hz => by cases hz), hc, h0, hin, hh⟩
        | false =>
          rw [hb] at hh
          simp only [cond_false] at hh
          cases hn : a_ncT.any (fun z => Nat.beq z.1 e && Nat.beq z.2 e') with
          | false => rw [hn] at hh; cases hh
          | true =>
            rw [hn] at hh
            simp only [cond_true] at hh
            obtain ⟨z, hz1, hz2⟩ := List.any_eq_true.mp hn
            rw [Bool.and_eq_true] at hz2
            have hnc : (e, e') ∈ a_ncT := by
              rw [← Nat.eq_of_beq_eq_true hz2.1, ← Nat.eq_of_beq_eq_true hz2.2]
              exact hz1
            obtain ⟨pre, x, suf, h1, h2, h3⟩ := a_hnd_ok hh
            refine ⟨⟨s, en, hp, ct'⟩ :: pre, x, suf, by show _ :: tableOf r = _; rw [h1]; rfl, fun z hz => ?_, h3⟩
            rcases List.mem_cons.mp hz with rfl | hz
            · exact Or.inr ⟨h0, e', hin, hnc⟩
            · exact h2 z hz
def a_wpT (nS d : Nat) (hh : List (Nat × Nat × Nat × Nat)) (cd : List aE) (K2 : aK) (pc : Nat) (L : aL) (S : List aV) (M : aM) : Prop :=
  match a_fnd cd pc with
  | some (.invokevirtual _, x, y, _, _, nx) => ∃ P PX, aC nS d x (S.take y).reverse M P PX ∧ (Nat.ble (a_wid (S.drop y)) 8 && a_rok x y S && !(Nat.beq x 900) && !(Nat.beq x 901)) = true ∧ (∀ v M', P v M' → K2 nx L (a_res v (S.drop y)) M') ∧ ∀ e M', PX e M' → ∃ h, a_hnd pc e hh = some h ∧ Nat.blt e 5 = true ∧ ∀ q, K2 h L [vR 97 q] M'
  | _ => False
/-- the contract of such a method: it returns -/
def aCW (nS : Nat) (d w : Nat) (as : List aV) (M : aM) (post : Option aV → aM → Prop) : Prop :=
  match a_wt[w]? with
  | none => False
  | some (_, _, nL, hh, _, _, cd) => Nat.ble (a_ent as).length nL = true ∧ ∀ K1 K2 : aK,
      (∀ pc L S M, a_wp d nS (fun y as M P => aC nS d y as M P (fun _ _ => False)) (some .int) cd post (fun _ _ => False) K1 pc L S M → K1 pc L S M) →
      (∀ pc L S M, a_wp d nS (fun y as M P => aC nS d y as M P (fun _ _ => False)) (some .int) cd post (fun _ _ => False) K2 pc L S M → K2 pc L S M) →
      (∀ pc L S M, a_wpT nS d hh cd K2 pc L S M → K1 pc L S M) → K1 0 (a_pad nL (a_ent as)) [] M
def a_ckW (m : aW) : Bool := match m with
  | (nm, b, nL, hh, na, ps, cd) => a_ckP b 12 nL cd && (plainName nm.cls && decide (nm.cls ≠ "java/lang/invoke/MethodHandle") && decide (nm.cls ≠ "java/lang/invoke/VarHandle") && decide ((parseMethodDescriptor nm.desc).map (fun d => d.parameters.length) = some na) && decide (a_cls 12 = nm.cls) && Nat.ble nL 22) &&
    (match ps with
      | [p1, p2, p3] => a_w p1 (.codeWith nm b nL (some .int) hh) && a_w p2 (.static nm) && a_w p3 (.initialized nm.cls)
      | _ => false)
theorem a_wtf (hwt : ∀ m ∈ a_wt, a_ckW m = true) {w : Nat} {nm : MethodName} {b : ByteArray} {nL na : Nat} {hh : List (Nat × Nat × Nat × Nat)} {ps : List Nat} {cd : List aE} (h : a_wt[w]? = some (nm, b, nL, hh, na, ps, cd)) :
    a_ckP b 12 nL cd = true ∧ plainName nm.cls = true ∧ nm.cls ≠ "java/lang/invoke/MethodHandle" ∧ nm.cls ≠ "java/lang/invoke/VarHandle" ∧ (parseMethodDescriptor nm.desc).map (fun d => d.parameters.length) = some na ∧ a_cls 12 = nm.cls ∧ nL ≤ 22 ∧ Cond.codeWith nm b nL (some .int) hh ∈ a_tbl ∧ Cond.static nm ∈ a_tbl ∧ Cond.initialized nm.cls ∈ a_tbl := by
  have h1 := hwt _ (List.mem_of_getElem? h)
  unfold a_ckW at h1
  dsimp only at h1
  rw [Bool.and_eq_true, Bool.and_eq_true] at h1
  obtain ⟨⟨h2, h3⟩, h4⟩ := h1
  simp only [Bool.and_eq_true, decide_eq_true_eq] at h3
  obtain ⟨⟨⟨⟨⟨g1, g2⟩, g3⟩, g4⟩, g5⟩, g6⟩ := h3
  rcases ps with _ | ⟨p1, _ | ⟨p2, _ | ⟨p3, _ | ⟨p4, r⟩⟩⟩⟩
  · cases h4
  · cases h4
  · cases h4
  · dsimp only at h4
    rw [Bool.and_eq_true, Bool.and_eq_true] at h4
    obtain ⟨⟨k1, k2⟩, k3⟩ := h4
    exact ⟨h2, g1, g2, g3, g4, g5, Nat.le_of_ble_eq_true g6, a_w_in k1, a_w_in k2, a_w_in k3⟩
  · cases h4
def a_JW (l : Launch) (D : va_G) (cA cL : ClassId) (ad : Nat → Nat → Nat) (lv : List (Nat × Nat)) (nS : Nat) (xs : Nat → Int32) (X : (Nat → Prop) → State → Prop) (d w : Nat) (as : List aV) (M : aM) (post : Option aV → aM → Prop) : Prop :=
  ∀ (nm : MethodName) (b : ByteArray) (nL : Nat) (hh : List (Nat × Nat × Nat × Nat)) (na : Nat) (ps : List Nat) (cd : List aE), a_wt[w]? = some (nm, b, nL, hh, na, ps, cd) → ∀ sz : Nat,
    vx_Met l nm (Cond.codeWith nm b nL (some .int) hh :: a_tbl) (a_rm d 1) (a_Pc D cA cL ad lv nS xs X sz as M) (a_Qc D cA cL ad lv nS xs sz post) (fun _ _ _ => False) 1 6 (a_A ad lv sz)
set_option maxHeartbeats 4000000 in
theorem a_soundW {l : Launch} (hl : l.stackTraces = false) {D : va_G} {cA cL : ClassId} {ad : Nat → Nat → Nat} {adV : Nat → Nat} {lv : List (Nat × Nat)} {nS : Nat} {xs : Nat → Int32} (hmt : ∀ m ∈ a_mt, a_ckM m = true) (hwt : ∀ m ∈ a_wt, a_ckW m = true) (hinj : a_inj lv) (hclo : a_clo lv) (hO1 : a_adOK ad) (d w : Nat) (as : List aV) (M : aM) (post : Option aV → aM → Prop)
    (h : aCW nS (d + 1) w as M post) : a_JW l D cA cL ad lv nS xs (a_X ad adV nS xs) (d + 2) w as M post := by
  intro nm b nL hh na ps cd hmx sz
  unfold aCW at h
  rw [hmx] at h
  dsimp only at h
  obtain ⟨hw, h⟩ := h
  obtain ⟨hck, hpl, -, -, -, hcls', -, hcw, -, -⟩ := a_wtf hwt hmx
  refine vx_ofWH (cc := b) (maxL := nL) (ret := some .int) (hh := hh) hpl rfl ?_
  intro p e s m args below meth c s₁ B hml hv
  obtain ⟨rfl, hsz, hP, hK, hD0, hsc, hoA, hXs⟩ := hv
  subst hsz
  have hts0 := atoms_spec (ws := Cond.codeWith nm b nL (some .int) hh :: a_tbl) B.pre
  have htab : c.exceptionTable.toList = tableOf hh := vx_table (x := nm) B (hts0 _ List.mem_cons_self)
  have hown : s.vm.findClass (a_cls 12) = some m.cls := by rw [hcls']; exact findClass_of_methodNamed B.named
  have hts : ∀ w ∈ a_tbl, w.before (as.map (a_tr ad)).toArray s = true := fun w hw => hts0 w (List.mem_cons_of_mem _ hw)
  have Cx : a_Cx p s m (as.map (a_tr ad)).toArray meth c D cA cL ad lv (a_X ad adV nS xs) nL b 12 (some .int) :=
    ⟨B.exec, B.bytes, B.returns, hml, hown, hts, B.notSynchronized, hK, fun M' => a_D_any hD0, hinj, hclo, hXs⟩
  have hR : d + 1 + 1 ≤ (a_rm (d + 2) 1).frames ∧ 64 * (d + 1) + 41 ≤ (a_rm (d + 2) 1).locals := ⟨Nat.le_refl _, by show 64 * (d + 1) + 41 ≤ 64 * (d + 2); omega⟩
  have hcal : ∀ y as M P, aC nS (d + 1) y as M P (fun _ _ => False) → a_J l D cA cL ad lv nS xs (a_X ad adV nS xs) (d + 1) y as M P := fun y as M P hc => a_sound a_Xok hmt hinj hclo (a_RuX hO1) (d + 1) y as M P hc
  obtain ⟨Q, hQe⟩ : ∃ Q, Q = vx_MQ below (a_Qc D cA cL ad lv nS xs s.heap.size post) (fun _ _ _ => False) (as.map (a_tr ad)).toArray s 1 6 (a_A ad lv s.heap.size) := ⟨_, rfl⟩
  have key := h (a_KW p l e (a_rm (d + 2) 1) s m (as.map (a_tr ad)).toArray below meth c D cA cL ad lv nS xs nL 0 0 Q) (a_KW p l e (a_rm (d + 2) 1) s m (as.map (a_tr ad)).toArray below meth c D cA cL ad lv nS xs nL 1 6 Q)
    (fun pc L S M h9 => a_step Cx a_Xok hck hmt hR ⟨Nat.zero_le _, Nat.zero_le _⟩ hcal (mc := 1) (ms := 6) (fun H locs g hq => by rw [hQe]; exact W.widen (Nat.zero_le _) (Nat.zero_le _) (vx_ret hq)) (a_RuX hO1 p e (a_rm (d + 2) 1) s m _ below meth c nL 0 0 b 12 (d + 1) (some .int) Q Cx hR ⟨Nat.zero_le _, Nat.zero_le _⟩) h9)
    (fun pc L S M h9 => a_step Cx a_Xok hck hmt hR ⟨Nat.le_refl _, Nat.le_refl _⟩ hcal (mc := 1) (ms := 6) (fun H locs g hq => by rw [hQe]; exact vx_ret hq) (a_RuX hO1 p e (a_rm (d + 2) 1) s m _ below meth c nL 1 6 b 12 (d + 1) (some .int) Q Cx hR ⟨Nat.le_refl _, Nat.le_refl _⟩) h9)
    (fun pc L S M h9 => ?_)
  · rw [hQe] at key
    rw [lg_entry_eq]
    exact key s.heap [] _ hP va_S.rf (a_LR_entry (Nat.le_of_ble_eq_true hw)) (fun j v hj => hoA v (a_ent_of as j v (a_pad_at hj))) (fun v hv => by cases hv) hsc
  · intro H locs ls hP9 hS9 hLR9 hoL9 hoS9 hsc9
    unfold a_wpT at h9
    cases hf : a_fnd cd pc with
    | none => rw [hf] at h9; exact False.elim h9
    | some ee =>
      obtain ⟨i, x, y, c0, t, nx⟩ := ee
      rw [hf] at h9
      obtain ⟨len, hd, hc⟩ := a_fnd_ck hck hf
      cases i with
      | invokevirtual ix =>
        dsimp only at h9 hd
        obtain ⟨P, PX, hC9, hb9, hk9, hx9⟩ := h9
        simp only [Bool.and_eq_true, Bool.not_eq_true'] at hb9
        obtain ⟨⟨⟨hb1, hb2⟩, hb3⟩, hb4⟩ := hb9
        have hc : ((Nat.beq len 3 && Nat.beq nx (pc + 3)) && (bif Nat.beq x 900 || Nat.beq x 901 then a_slT.any (fun q => Nat.beq q.1 12 && (Nat.beq q.2.1 ix && Nat.beq q.2.2.1 x)) else (a_mlT.any (fun q => Nat.beq q.1 12 && (Nat.beq q.2.1 ix && Nat.beq q.2.2.1 x)) && (match a_mt[x]? with
          | some (_, _, _, _, st, _) => !st
          | none => false)))) = true := hc
        rw [Bool.and_eq_true, hb3, hb4] at hc
        obtain ⟨h12, h3⟩ := hc
        obtain ⟨rfl, rfl⟩ := a_len3 h12
        simp only [Bool.or_self, cond_false] at h3
        rw [Bool.and_eq_true] at h3
        obtain ⟨⟨nm', b', nL', rt', st', ci', na', own', ps', cd'⟩, hmx', hlk⟩ := a_mlk h3.1
        have hst : st' = false := by
          have := h3.2
          rw [hmx'] at this
          simpa using this
        subst hst
        have hJ := a_soundX (xs := xs) (adV := adV) (D := D) (cA := cA) (cL := cL) hl hmt hinj hclo hO1 d x _ M P PX hC9 nm' b' nL' rt' false ci' na' own' ps' cd' hmx' H.size
        obtain ⟨hck', hpl', hn1, hn2, hpar, hcl', hnL', hcw', hini, -, hins⟩ := a_mtf hmt hmx'
        obtain ⟨hin, hsel, T9, N9, hcl9⟩ := hins rfl
        have hwid := Nat.le_of_ble_eq_true hb1
        unfold a_rok at hb2
        rw [hmx'] at hb2
        simp only [cond_false, Bool.and_eq_true] at hb2
        obtain ⟨hy, hrc⟩ := hb2
        have hy := Nat.eq_of_beq_eq_true hy
        subst hy
        rcases hSn : S[na']? with _ | v
        · rw [hSn] at hrc; cases hrc
        rw [hSn] at hrc
        rcases v with v | v | ⟨k, j⟩
        · cases hrc
        · cases hrc
        dsimp only at hrc
        rcases hsh : a_shp k with _ | ⟨c9, fl⟩ | ⟨bb, n⟩
        · rw [hsh] at hrc; cases hrc
        · rw [hsh] at hrc
          have hc9 : c9 = ci' := Nat.eq_of_beq_eq_true hrc
          subst hc9
          have hlt : na' < S.length := (List.getElem?_eq_some_iff.mp hSn).1
          have hget : S[na'] = vR k j := (List.getElem?_eq_some_iff.mp hSn).2
          have hSeq : S = S.take na' ++ vR k j :: S.drop (na' + 1) := by
            conv => lhs; rw [← List.take_append_drop na' S]
            rw [List.drop_eq_getElem_cons hlt, hget]
          have has : (S.take (na' + 1)).reverse = vR k j :: (S.take na').reverse := by
            rw [List.take_succ, hSn]
            simp
          have hmem : vR k j ∈ S := List.mem_of_getElem? hSn
          have hlv := a_shp_lv (hoS9 _ hmem) hsh
          obtain ⟨q0, hq0, hq1⟩ := a_ws_at (cA := cA) (cL := cL) (ad := ad) (M := M) hlv
          have hce : a_cell cA cL ad M k j = .inr (c9, a_fs ad (M.1 k j) j fl) := by unfold a_cell; rw [hsh]
          rw [show a_cell cA cL ad M (k, j).1 (k, j).2 = a_cell cA cL ad M k j from rfl, hce] at hq1
          have hoA9 : ∀ v ∈ (S.take (na' + 1)).reverse, a_okv lv v := fun v hv => hoS9 v (List.mem_of_mem_take (List.mem_reverse.mp hv))
          have hpc := a_Pc_at Cx a_Xok hP9 hS9 hoA9 hsc9
          have emap : ((S.take (na' + 1)).reverse.map (a_tr ad)).toArray = (Value.ref (ad k j) :: ((S.take na').reverse.map (a_tr ad))).toArray := by
            rw [has]; rfl
          rw [emap] at hpc
          have cw : CallW (a_rm (d + 2) 1) s (as.map (a_tr ad)).toArray (a_cls 12) nm'.cls ix nm' b' nL' rt' (Cond.code nm' b' nL' rt' :: a_tbl) (a_rm (d + 1) 1) 1 6 na' := by
            refine ⟨⟨rfl, rfl, Nat.le_refl _, ?_, a_tbl_hts hts hcw', List.mem_cons_self, hts _ hcw', hts _ hini, ⟨hn1, hn2⟩, fun sig hsig => ?_, hts _ hlk⟩, hts _ hin, hts _ hsel⟩
            · show 8 + (nL' + 11) + 64 * (d + 1) ≤ 64 * (d + 2)
              omega
            · rw [hsig] at hpar
              exact (Option.some.inj hpar).symm
          have hrun := vx_runV (R := a_rm (d + 2) 1) (As := (S.take na').reverse.map (a_tr ad)) (rest := (S.drop (na' + 1)).map (a_tr ad)) (g := F0 m pc ls (S.map (a_tr ad))) (cells := 0) (slots := 0) (locs := locs) (e := e) (below := below) (meth := meth) ⟨B.exec, B.bytes, hml, hown, hts⟩ hJ cw ⟨a_blind a_Xok, va_recv hK hP9 hcl9 hq1, hpc⟩ rfl (by simp; omega) hLR9.2.1 (by
              show S.map (a_tr ad) = _
              conv => lhs; rw [hSeq]
              simp [a_tr]) (lv_room (by rw [a_wid_eq]; exact hwid)) hd ⟨Nat.le_refl _, Nat.le_refl _⟩
          have hsub : ∀ q, a_A ad lv H.size q → a_A ad lv s.heap.size q := fun q hq => by
            rcases hq with hq | hq
            · exact Or.inl hq
            · exact Or.inr (Nat.le_trans hS9.1 hq)
          intro T hT XX
          rcases hrun T hT XX with ⟨v, st₀, t9, T', Lx, h0, X', hL, e1, e2, ⟨⟨v0, M', hv, hpost, hokv, hPM, hsc'⟩, hz, hkk⟩, st⟩ | ⟨q, st₀, t9, T', Lx, E, ce, h0, X', hL, e1, e2, ⟨⟨x9, M', hE, hpx, hPM, hsc'⟩, hF9⟩, hce9, hcv, hcl0, st⟩
          · obtain ⟨k1, k2, k3⟩ := vx_keep (A1 := a_A ad lv H.size) h0 e1 hS9 (fun q _ hq => hsub q hq) hsub hL ⟨hz, hkk⟩
            have hv : v = v0.map (a_tr ad) := by injection hv
            have e9 : v.toList ++ (S.drop (na' + 1)).map (a_tr ad) = (a_res v0 (S.drop (na' + 1))).map (a_tr ad) := by
              subst hv
              cases v0 <;> rfl
            have hoS' : ∀ w ∈ a_res v0 (S.drop (na' + 1)), a_okv lv w := by
              cases v0 with
              | none => exact fun v hv => hoS9 v (List.mem_of_mem_drop hv)
              | some w => exact List.forall_mem_cons.mpr ⟨hokv w rfl, fun v hv => hoS9 v (List.mem_of_mem_drop hv)⟩
            obtain ⟨t2, a1, b1⟩ := hk9 v0 M' hpost T'.heap (locs ++ Lx) ls (by rw [e1]; exact hPM) k3 hLR9 hoL9 hoS' hsc' T' rfl X'
            rw [← e9] at a1
            exact ⟨t2, st t2 a1, b1⟩
          · obtain ⟨k1, k2, k3⟩ := vx_keep (A1 := a_A ad lv H.size) h0 e1 hS9 (fun q _ hq => hsub q hq) hsub hL hF9
            obtain ⟨hpc9, hh9, hlt9, hkx⟩ := hx9 x9 M' hpx
            obtain ⟨pre, xe, suf, t1, t2, t3, t4, t5, t6⟩ := a_hnd_ok hh9
            subst hE
            obtain ⟨-, -, -, -, -, -, hbad, hnc⟩ := hXs
            have hex : ∃ q9, a_exT[x9]? = some q9 := ⟨a_exT[x9]'(Nat.le_of_ble_eq_true hlt9), List.getElem?_eq_getElem _⟩
            obtain ⟨q9, hq9⟩ := hex
            have hcast := hbad.cast hq9
            have hWt : W p l e (a_rm (d + 2) 1) s m (as.map (a_tr ad)).toArray below meth c T'.heap (locs ++ Lx) 1 6 Q (F0 m xe.handlerPc ls [.ref q]) := by
              rw [t6]
              have := hkx q T'.heap (locs ++ Lx) ls (by rw [e1]; exact hPM) k3 hLR9 hoL9 (List.forall_mem_cons.mpr ⟨Or.inr ⟨Nat.le_refl _, by show (97 : Nat) ≠ 98; decide⟩, fun v hv => by cases hv⟩) hsc'
              have e97 : [vR 97 q].map (a_tr ad) = [Value.ref q] := by
                show [Value.ref (ad 97 q)] = _
                rw [hO1.2.2]
              rw [e97] at this
              exact this
            have hfin := vx_catch (own := "TurnBoardLaw") (name := a_en x9) (E := a_en x9) (ce := ce) (q := q) (pc := pc) (rest := (S.drop (na' + 1)).map (a_tr ad)) (H := T'.heap) (Q := Q) hown pre xe suf (by rw [htab]; exact t1) (fun z hz => by
              rcases t2 z hz with z1 | ⟨z1, e8, z2, z3⟩
              · exact Or.inl z1
              · exact Or.inr ⟨z1, a_en e8, hts _ z2, hnc _ z3⟩) t3 t4 (hts _ t5) (va_tabs rfl rfl hcast) (by rw [e1]; exact hce9) hcv hcl0 hWt
            obtain ⟨t2', a1, b1⟩ := hfin T' rfl X'
            exact ⟨t2', st.trans a1, b1⟩
        · rw [hsh] at hrc; cases hrc
      | _ => exact False.elim h9
