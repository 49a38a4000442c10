theorem a_le_r (L : aL) : a_le L L := ⟨rfl, fun _ _ h => h⟩
theorem a_le_t {A B C : aL} (h : a_le A B) (g : a_le B C) : a_le A C := ⟨h.1.trans g.1, fun j v z => g.2 j v (h.2 j v z)⟩
theorem a_le_brk {A B : aL} (h : a_le A B) (n : Nat) : a_le (a_brk A n) (a_brk B n) := by
  refine ⟨by rw [a_brk_len, a_brk_len]; exact h.1, fun j v z => ?_⟩
  obtain ⟨z1, z2⟩ := a_brk_at z
  have z3 := h.2 j v z1
  cases n with
  | zero => exact z3
  | succ n =>
    simp only [a_brk]
    cases hg : a_lng B[n]? with
    | false => exact z3
    | true =>
      rw [cond_true]
      by_cases hj : n = j
      · subst hj
        exfalso
        refine z2 ⟨rfl, ?_⟩
        rw [z3] at hg
        rcases v with v | v | v
        · cases hg
        · rfl
        · cases hg
      · rw [List.getElem?_set_ne hj]
        exact z3
theorem a_le_set {A B : aL} (h : a_le A B) (n : Nat) (o : Option aV) : a_le (A.set n o) (B.set n o) := by
  refine ⟨by simp [h.1], fun j v z => ?_⟩
  by_cases hj : n = j
  · subst hj
    rw [List.getElem?_set] at z ⊢
    rw [if_pos rfl] at z ⊢
    rw [h.1] at z
    exact z
  · rw [List.getElem?_set_ne hj] at z ⊢
    exact h.2 j v z
theorem a_le_s1 {A B : aL} (h : a_le A B) (n : Nat) (v : aV) : a_le (a_s1 A n v) (a_s1 B n v) := a_le_set (a_le_brk h n) n (some v)
theorem a_le_s2 {A B : aL} (h : a_le A B) (n : Nat) (v : aV) : a_le (a_s2 A n v) (a_s2 B n v) := a_le_set (a_le_set (a_le_brk h n) n (some v)) (n + 1) none
set_option maxHeartbeats 2000000 in
theorem a_w1_L {d nS : Nat} {cal : Nat → List aV → aM → (Option aV → aM → Prop) → Prop} {rt : Option FieldType} {post : Option aV → aM → Prop} {px : Nat → aM → Prop} {K K' : aK} {A B : aL} (a : a_le A B) (hK : ∀ pc A B S M, a_le A B → K pc A S M → K' pc B S M) {i : Instr} {x y : Nat} {c0 : Int32} {t : List Nat} {nx : Nat} {S : List aV} {M : aM} (h : a_w1 d nS cal rt post px K i x y c0 t nx A S M) : a_w1 d nS cal rt post px K' i x y c0 t nx B S M := by
  cases i with
  | iconst n =>
    exact hK _ _ _ _ _ a h
  | bipush n =>
    exact hK _ _ _ _ _ a h
  | sipush n =>
    exact hK _ _ _ _ _ a h
  | ldc_w n =>
    exact hK _ _ _ _ _ a h
  | goto n =>
    exact hK _ _ _ _ _ a h
  | ldc n =>
    cases y with
    | zero => exact hK _ _ _ _ _ a h
    | succ y => exact hK _ _ _ _ _ a h
  | lconst n =>
    cases x with
    | zero => exact hK _ _ _ _ _ a h
    | succ x => exact hK _ _ _ _ _ a h
  | iload_n n =>
    unfold a_w1 at h ⊢
    dsimp only at h ⊢
    split at h
    · rename_i v e1
      rw [a.2 _ _ e1]
      exact hK _ _ _ _ _ a h
    · exact False.elim h
  | iload n =>
    unfold a_w1 at h ⊢
    dsimp only at h ⊢
    split at h
    · rename_i v e1
      rw [a.2 _ _ e1]
      exact hK _ _ _ _ _ a h
    · exact False.elim h
  | lload_n n =>
    unfold a_w1 at h ⊢
    dsimp only at h ⊢
    split at h
    · rename_i v e1
      rw [a.2 _ _ e1]
      exact hK _ _ _ _ _ a h
    · exact False.elim h
  | lload n =>
    unfold a_w1 at h ⊢
    dsimp only at h ⊢
    split at h
    · rename_i v e1
      rw [a.2 _ _ e1]
      exact hK _ _ _ _ _ a h
    · exact False.elim h
  | aload_n n =>
    unfold a_w1 at h ⊢
    dsimp only at h ⊢
    split at h
    · rename_i v e1
      rw [a.2 _ _ e1]
      exact hK _ _ _ _ _ a h
    · exact False.elim h
  | aload n =>
    unfold a_w1 at h ⊢
    dsimp only at h ⊢
    split at h
    · rename_i v e1
      rw [a.2 _ _ e1]
      exact hK _ _ _ _ _ a h
    · exact False.elim h
  | iinc n k =>
    unfold a_w1 at h ⊢
    dsimp only at h ⊢
    split at h
    · rename_i v e1
      rw [a.2 _ _ e1]
      exact hK _ _ _ _ _ (a_le_s1 a _ _) h
    · exact False.elim h
  | istore_n n =>
    unfold a_w1 at h ⊢
    dsimp only at h ⊢
    split at h
    · exact hK _ _ _ _ _ (a_le_s1 a _ _) h
    · exact False.elim h
  | istore n =>
    unfold a_w1 at h ⊢
    dsimp only at h ⊢
    split at h
    · exact hK _ _ _ _ _ (a_le_s1 a _ _) h
    · exact False.elim h
  | lstore_n n =>
    unfold a_w1 at h ⊢
    dsimp only at h ⊢
    split at h
    · exact hK _ _ _ _ _ (a_le_s2 a _ _) h
    · exact False.elim h
  | lstore n =>
    unfold a_w1 at h ⊢
    dsimp only at h ⊢
    split at h
    · exact hK _ _ _ _ _ (a_le_s2 a _ _) h
    · exact False.elim h
  | astore_n n =>
    unfold a_w1 at h ⊢
    dsimp only at h ⊢
    split at h
    · exact hK _ _ _ _ _ (a_le_s1 a _ _) h
    · exact False.elim h
  | astore n =>
    unfold a_w1 at h ⊢
    dsimp only at h ⊢
    split at h
    · exact hK _ _ _ _ _ (a_le_s1 a _ _) h
    · exact False.elim h
  | iadd =>
    unfold a_w1 at h ⊢
    dsimp only at h ⊢
    split at h
    · exact hK _ _ _ _ _ a h
    · exact False.elim h
  | isub =>
    unfold a_w1 at h ⊢
    dsimp only at h ⊢
    split at h
    · exact hK _ _ _ _ _ a h
    · exact False.elim h
  | imul =>
    unfold a_w1 at h ⊢
    dsimp only at h ⊢
    split at h
    · exact hK _ _ _ _ _ a h
    · exact False.elim h
  | iand =>
    unfold a_w1 at h ⊢
    dsimp only at h ⊢
    split at h
    · exact hK _ _ _ _ _ a h
    · exact False.elim h
  | ior =>
    unfold a_w1 at h ⊢
    dsimp only at h ⊢
    split at h
    · exact hK _ _ _ _ _ a h
    · exact False.elim h
  | ixor =>
    unfold a_w1 at h ⊢
    dsimp only at h ⊢
    split at h
    · exact hK _ _ _ _ _ a h
    · exact False.elim h
  | ishl =>
    unfold a_w1 at h ⊢
    dsimp only at h ⊢
    split at h
    · exact hK _ _ _ _ _ a h
    · exact False.elim h
  | ishr =>
    unfold a_w1 at h ⊢
    dsimp only at h ⊢
    split at h
    · exact hK _ _ _ _ _ a h
    · exact False.elim h
  | iushr =>
    unfold a_w1 at h ⊢
    dsimp only at h ⊢
    split at h
    · exact hK _ _ _ _ _ a h
    · exact False.elim h
  | ineg =>
    unfold a_w1 at h ⊢
    dsimp only at h ⊢
    split at h
    · exact hK _ _ _ _ _ a h
    · exact False.elim h
  | i2l =>
    unfold a_w1 at h ⊢
    dsimp only at h ⊢
    split at h
    · exact hK _ _ _ _ _ a h
    · exact False.elim h
  | ladd =>
    unfold a_w1 at h ⊢
    dsimp only at h ⊢
    split at h
    · exact hK _ _ _ _ _ a h
    · exact False.elim h
  | lcmp =>
    unfold a_w1 at h ⊢
    dsimp only at h ⊢
    split at h
    · exact hK _ _ _ _ _ a h
    · exact False.elim h
  | lmul =>
    unfold a_w1 at h ⊢
    dsimp only at h ⊢
    split at h
    · exact hK _ _ _ _ _ a h
    · exact False.elim h
  | pop2 =>
    unfold a_w1 at h ⊢
    dsimp only at h ⊢
    split at h
    · exact hK _ _ _ _ _ a h
    · exact False.elim h
  | dup2 =>
    unfold a_w1 at h ⊢
    dsimp only at h ⊢
    split at h
    · exact hK _ _ _ _ _ a h
    · exact False.elim h
  | idiv =>
    unfold a_w1 at h ⊢
    dsimp only at h ⊢
    split at h
    · exact ⟨h.1, hK _ _ _ _ _ a h.2⟩
    · exact False.elim h
  | irem =>
    unfold a_w1 at h ⊢
    dsimp only at h ⊢
    split at h
    · exact ⟨h.1, hK _ _ _ _ _ a h.2⟩
    · exact False.elim h
  | pop =>
    unfold a_w1 at h ⊢
    dsimp only at h ⊢
    split at h
    · exact hK _ _ _ _ _ a h
    · exact hK _ _ _ _ _ a h
    · exact False.elim h
  | dup =>
    unfold a_w1 at h ⊢
    dsimp only at h ⊢
    split at h
    · exact hK _ _ _ _ _ a h
    · exact hK _ _ _ _ _ a h
    · exact False.elim h
  | ifCond cnd off =>
    unfold a_w1 at h ⊢
    dsimp only at h ⊢
    split at h
    · cases cnd <;> exact ⟨fun z => hK _ _ _ _ _ a (h.1 z), fun z => hK _ _ _ _ _ a (h.2 z)⟩
    · exact False.elim h
  | if_icmp cnd off =>
    unfold a_w1 at h ⊢
    dsimp only at h ⊢
    split at h
    · cases cnd <;> exact ⟨fun z => hK _ _ _ _ _ a (h.1 z), fun z => hK _ _ _ _ _ a (h.2 z)⟩
    · exact False.elim h
  | tableswitch a1 b1 c1 d1 =>
    unfold a_w1 at h ⊢
    dsimp only at h ⊢
    split at h
    · exact ⟨a_swc_mono (fun q z => hK _ _ _ _ _ a z) h.1, fun z => hK _ _ _ _ _ a (h.2 z)⟩
    · exact False.elim h
  | getfield n =>
    unfold a_w1 at h ⊢
    dsimp only at h ⊢
    split at h
    · split at h
      · rename_i ci fl hsh
        cases hb : Nat.beq ci y with
        | false => rw [hb] at h; exact False.elim h
        | true =>
          rw [hb] at h
          simp only [cond_true] at h ⊢
          split at h
          · exact hK _ _ _ _ _ a h
          · exact hK _ _ _ _ _ a h
          · exact hK _ _ _ _ _ a h
          · exact False.elim h
      · exact False.elim h
    · exact False.elim h
  | putfield n =>
    unfold a_w1 at h ⊢
    dsimp only at h ⊢
    split at h
    · split at h
      · rename_i ci fl hsh
        cases hb : Nat.beq ci y with
        | false => rw [hb] at h; exact False.elim h
        | true =>
          rw [hb] at h
          simp only [cond_true] at h ⊢
          split at h
          · cases t with
            | nil => exact hK _ _ _ _ _ a h
            | cons t0 tr => exact ⟨h.1, hK _ _ _ _ _ a h.2⟩
          · exact False.elim h
      · exact False.elim h
    · exact False.elim h
  | iaload =>
    unfold a_w1 at h ⊢
    dsimp only at h ⊢
    split at h
    · split at h
      · exact ⟨h.1, hK _ _ _ _ _ a h.2⟩
      · generalize Nat.beq _ 99 = bb at h ⊢
        cases bb with
        | false => exact False.elim h
        | true => exact ⟨h.1, hK _ _ _ _ _ a h.2⟩
      · exact False.elim h
    · exact False.elim h
  | laload =>
    unfold a_w1 at h ⊢
    dsimp only at h ⊢
    split at h
    · split at h
      · exact ⟨h.1, hK _ _ _ _ _ a h.2⟩
      · exact False.elim h
    · exact False.elim h
  | iastore =>
    unfold a_w1 at h ⊢
    dsimp only at h ⊢
    split at h
    · split at h
      · exact ⟨h.1, hK _ _ _ _ _ a h.2⟩
      · exact False.elim h
    · exact False.elim h
  | lastore =>
    unfold a_w1 at h ⊢
    dsimp only at h ⊢
    split at h
    · split at h
      · exact ⟨h.1, hK _ _ _ _ _ a h.2⟩
      · exact False.elim h
    · exact False.elim h
  | arraylength =>
    unfold a_w1 at h ⊢
    dsimp only at h ⊢
    split at h
    · split at h
      · exact hK _ _ _ _ _ a h
      · generalize Nat.beq _ 99 = bb at h ⊢
        cases bb with
        | false => exact False.elim h
        | true => exact hK _ _ _ _ _ a h
      · exact False.elim h
    · exact False.elim h
  | invokevirtual n =>
    unfold a_w1 at h ⊢
    dsimp only at h ⊢
    cases h900 : Nat.beq x 900 with
    | true =>
      rw [h900] at h
      simp only [cond_true] at h ⊢
      split at h
      · split at h
        · exact ⟨h.1, hK _ _ _ _ _ a h.2⟩
        · exact False.elim h
      · exact False.elim h
    | false =>
    rw [h900] at h
    simp only [cond_false] at h ⊢
    cases h901 : Nat.beq x 901 with
    | true =>
      rw [h901] at h
      simp only [cond_true] at h ⊢
      split at h
      · split at h
        · exact ⟨h.1, h.2.1, hK _ _ _ _ _ a h.2.2⟩
        · exact False.elim h
      · exact False.elim h
    | false =>
    rw [h901] at h
    simp only [cond_false] at h ⊢
    obtain ⟨P, g1, g2, g3⟩ := h
    exact ⟨P, g1, g2, fun v M' z => hK _ _ _ _ _ a (g3 v M' z)⟩
  | invokestatic n =>
    unfold a_w1 at h ⊢
    dsimp only at h ⊢
    cases h902 : Nat.beq x 902 with
    | true =>
      rw [h902] at h
      simp only [cond_true] at h ⊢
      split at h
      · exact ⟨h.1, hK _ _ _ _ _ a h.2⟩
      · exact False.elim h
    | false =>
    rw [h902] at h
    simp only [cond_false] at h ⊢
    obtain ⟨P, g1, g2, g3⟩ := h
    exact ⟨P, g1, g2, fun v M' z => hK _ _ _ _ _ a (g3 v M' z)⟩
  | ireturn =>
    exact h
  | lreturn =>
    exact h
  | areturn =>
    exact h
  | return_ =>
    exact h
  | new n =>
    exact h
  | _ => exact False.elim h

theorem a_swc_and {K1 K2 K : Nat → Prop} (h : ∀ q, K1 q → K2 q → K q) {v : Int32} : ∀ {n : Nat} {t : List Nat}, a_swc K1 v n t → a_swc K2 v n t → a_swc K v n t
  | _, [], _, _ => trivial
  | _, _ :: _, h1, h2 => ⟨fun z => h _ (h1.1 z) (h2.1 z), a_swc_and h h1.2 h2.2⟩
set_option maxHeartbeats 2000000 in
theorem a_w1_A {d nS : Nat} {cal : Nat → List aV → aM → (Option aV → aM → Prop) → Prop} {rt : Option FieldType} {p1 p2 : Option aV → aM → Prop} {x1 x2 : Nat → aM → Prop} {K1 K2 K : aK} (hcal : ∀ y as M P Q, cal y as M P → cal y as M Q → cal y as M (fun v M' => P v M' ∧ Q v M')) (hK : ∀ pc L S M, K1 pc L S M → K2 pc L S M → K pc L S M) {i : Instr} {x y : Nat} {c0 : Int32} {t : List Nat} {nx : Nat} {L : aL} {S : List aV} {M : aM} (h : a_w1 d nS cal rt p1 x1 K1 i x y c0 t nx L S M) (g : a_w1 d nS cal rt p2 x2 K2 i x y c0 t nx L S M) : a_w1 d nS cal rt (fun v M => p1 v M ∧ p2 v M) (fun x M => x1 x M ∧ x2 x M) K i x y c0 t nx L S M := by
  cases i with
  | iconst n =>
    exact hK _ _ _ _ h g
  | bipush n =>
    exact hK _ _ _ _ h g
  | sipush n =>
    exact hK _ _ _ _ h g
  | ldc_w n =>
    exact hK _ _ _ _ h g
  | goto n =>
    exact hK _ _ _ _ h g
  | ldc n =>
    cases y with
    | zero => exact hK _ _ _ _ h g
    | succ y => exact hK _ _ _ _ h g
  | lconst n =>
    cases x with
    | zero => exact hK _ _ _ _ h g
    | succ x => exact hK _ _ _ _ h g
  | iload_n n =>
    unfold a_w1 at h g ⊢
    dsimp only at h g ⊢
    revert g
    split at h
    · intro g
      exact hK _ _ _ _ h g
    · exact False.elim h
  | iload n =>
    unfold a_w1 at h g ⊢
    dsimp only at h g ⊢
    revert g
    split at h
    · intro g
      exact hK _ _ _ _ h g
    · exact False.elim h
  | lload_n n =>
    unfold a_w1 at h g ⊢
    dsimp only at h g ⊢
    revert g
    split at h
    · intro g
      exact hK _ _ _ _ h g
    · exact False.elim h
  | lload n =>
    unfold a_w1 at h g ⊢
    dsimp only at h g ⊢
    revert g
    split at h
    · intro g
      exact hK _ _ _ _ h g
    · exact False.elim h
  | aload_n n =>
    unfold a_w1 at h g ⊢
    dsimp only at h g ⊢
    revert g
    split at h
    · intro g
      exact hK _ _ _ _ h g
    · exact False.elim h
  | aload n =>
    unfold a_w1 at h g ⊢
    dsimp only at h g ⊢
    revert g
    split at h
    · intro g
      exact hK _ _ _ _ h g
    · exact False.elim h
  | iinc n k =>
    unfold a_w1 at h g ⊢
    dsimp only at h g ⊢
    revert g
    split at h
    · intro g
      exact hK _ _ _ _ h g
    · exact False.elim h
  | istore_n n =>
    unfold a_w1 at h g ⊢
    dsimp only at h g ⊢
    revert g
    split at h
    · intro g
      exact hK _ _ _ _ h g
    · exact False.elim h
  | istore n =>
    unfold a_w1 at h g ⊢
    dsimp only at h g ⊢
    revert g
    split at h
    · intro g
      exact hK _ _ _ _ h g
    · exact False.elim h
  | lstore_n n =>
    unfold a_w1 at h g ⊢
    dsimp only at h g ⊢
    revert g
    split at h
    · intro g
      exact hK _ _ _ _ h g
    · exact False.elim h
  | lstore n =>
    unfold a_w1 at h g ⊢
    dsimp only at h g ⊢
    revert g
    split at h
    · intro g
      exact hK _ _ _ _ h g
    · exact False.elim h
  | astore_n n =>
    unfold a_w1 at h g ⊢
    dsimp only at h g ⊢
    revert g
    split at h
    · intro g
      exact hK _ _ _ _ h g
    · exact False.elim h
  | astore n =>
    unfold a_w1 at h g ⊢
    dsimp only at h g ⊢
    revert g
    split at h
    · intro g
      exact hK _ _ _ _ h g
    · exact False.elim h
  | iadd =>
    unfold a_w1 at h g ⊢
    dsimp only at h g ⊢
    revert g
    split at h
    · intro g
      exact hK _ _ _ _ h g
    · exact False.elim h
  | isub =>
    unfold a_w1 at h g ⊢
    dsimp only at h g ⊢
    revert g
    split at h
    · intro g
      exact hK _ _ _ _ h g
    · exact False.elim h
  | imul =>
    unfold a_w1 at h g ⊢
    dsimp only at h g ⊢
    revert g
    split at h
    · intro g
      exact hK _ _ _ _ h g
    · exact False.elim h
  | iand =>
    unfold a_w1 at h g ⊢
    dsimp only at h g ⊢
    revert g
    split at h
    · intro g
      exact hK _ _ _ _ h g
    · exact False.elim h
  | ior =>
    unfold a_w1 at h g ⊢
    dsimp only at h g ⊢
    revert g
    split at h
    · intro g
      exact hK _ _ _ _ h g
    · exact False.elim h
  | ixor =>
    unfold a_w1 at h g ⊢
    dsimp only at h g ⊢
    revert g
    split at h
    · intro g
      exact hK _ _ _ _ h g
    · exact False.elim h
  | ishl =>
    unfold a_w1 at h g ⊢
    dsimp only at h g ⊢
    revert g
    split at h
    · intro g
      exact hK _ _ _ _ h g
    · exact False.elim h
  | ishr =>
    unfold a_w1 at h g ⊢
    dsimp only at h g ⊢
    revert g
    split at h
    · intro g
      exact hK _ _ _ _ h g
    · exact False.elim h
  | iushr =>
    unfold a_w1 at h g ⊢
    dsimp only at h g ⊢
    revert g
    split at h
    · intro g
      exact hK _ _ _ _ h g
    · exact False.elim h
  | ineg =>
    unfold a_w1 at h g ⊢
    dsimp only at h g ⊢
    revert g
    split at h
    · intro g
      exact hK _ _ _ _ h g
    · exact False.elim h
  | i2l =>
    unfold a_w1 at h g ⊢
    dsimp only at h g ⊢
    revert g
    split at h
    · intro g
      exact hK _ _ _ _ h g
    · exact False.elim h
  | ladd =>
    unfold a_w1 at h g ⊢
    dsimp only at h g ⊢
    revert g
    split at h
    · intro g
      exact hK _ _ _ _ h g
    · exact False.elim h
  | lcmp =>
    unfold a_w1 at h g ⊢
    dsimp only at h g ⊢
    revert g
    split at h
    · intro g
      exact hK _ _ _ _ h g
    · exact False.elim h
  | lmul =>
    unfold a_w1 at h g ⊢
    dsimp only at h g ⊢
    revert g
    split at h
    · intro g
      exact hK _ _ _ _ h g
    · exact False.elim h
  | pop2 =>
    unfold a_w1 at h g ⊢
    dsimp only at h g ⊢
    revert g
    split at h
    · intro g
      exact hK _ _ _ _ h g
    · exact False.elim h
  | dup2 =>
    unfold a_w1 at h g ⊢
    dsimp only at h g ⊢
    revert g
    split at h
    · intro g
      exact hK _ _ _ _ h g
    · exact False.elim h
  | idiv =>
    unfold a_w1 at h g ⊢
    dsimp only at h g ⊢
    revert g
    split at h
    · intro g
      exact ⟨h.1, hK _ _ _ _ h.2 g.2⟩
    · exact False.elim h
  | irem =>
    unfold a_w1 at h g ⊢
    dsimp only at h g ⊢
    revert g
    split at h
    · intro g
      exact ⟨h.1, hK _ _ _ _ h.2 g.2⟩
    · exact False.elim h
  | pop =>
    unfold a_w1 at h g ⊢
    dsimp only at h g ⊢
    revert g
    split at h
    · intro g
      exact hK _ _ _ _ h g
    · intro g
      exact hK _ _ _ _ h g
    · exact False.elim h
  | dup =>
    unfold a_w1 at h g ⊢
    dsimp only at h g ⊢
    revert g
    split at h
    · intro g
      exact hK _ _ _ _ h g
    · intro g
      exact hK _ _ _ _ h g
    · exact False.elim h
  | ifCond cnd off =>
    unfold a_w1 at h g ⊢
    dsimp only at h g ⊢
    revert g
    split at h
    · intro g
      cases cnd <;> exact ⟨fun z => hK _ _ _ _ (h.1 z) (g.1 z), fun z => hK _ _ _ _ (h.2 z) (g.2 z)⟩
    · exact False.elim h
  | if_icmp cnd off =>
    unfold a_w1 at h g ⊢
    dsimp only at h g ⊢
    revert g
    split at h
    · intro g
      cases cnd <;> exact ⟨fun z => hK _ _ _ _ (h.1 z) (g.1 z), fun z => hK _ _ _ _ (h.2 z) (g.2 z)⟩
    · exact False.elim h
  | tableswitch a b c d =>
    unfold a_w1 at h g ⊢
    dsimp only at h g ⊢
    revert g
    split at h
    · intro g
      exact ⟨a_swc_and (fun q z1 z2 => hK _ _ _ _ z1 z2) h.1 g.1, fun z => hK _ _ _ _ (h.2 z) (g.2 z)⟩
    · exact False.elim h
  | getfield n =>
    unfold a_w1 at h g ⊢
    dsimp only at h g ⊢
    revert g
    split at h
    · intro g
      revert g
      split at h
      · rename_i ci fl hsh
        intro g
        cases hb : Nat.beq ci y with
        | false => rw [hb] at h; exact False.elim h
        | true =>
          rw [hb] at h g
          simp only [cond_true] at h g ⊢
          revert g
          split at h
          · intro g
            exact hK _ _ _ _ h g
          · intro g
            exact hK _ _ _ _ h g
          · intro g
            exact hK _ _ _ _ h g
          · exact False.elim h
      · exact False.elim h
    · exact False.elim h
  | putfield n =>
    unfold a_w1 at h g ⊢
    dsimp only at h g ⊢
    revert g
    split at h
    · intro g
      revert g
      split at h
      · rename_i ci fl hsh
        intro g
        cases hb : Nat.beq ci y with
        | false => rw [hb] at h; exact False.elim h
        | true =>
          rw [hb] at h g
          simp only [cond_true] at h g ⊢
          revert g
          split at h
          · intro g
            cases t with
            | nil => exact hK _ _ _ _ h g
            | cons t0 tr => exact ⟨h.1, hK _ _ _ _ h.2 g.2⟩
          · exact False.elim h
      · exact False.elim h
    · exact False.elim h
  | iaload =>
    unfold a_w1 at h g ⊢
    dsimp only at h g ⊢
    revert g
    split at h
    · intro g
      revert g
      split at h
      · intro g
        exact ⟨h.1, hK _ _ _ _ h.2 g.2⟩
      · intro g
        generalize Nat.beq _ 99 = bb at h g ⊢
        cases bb with
        | false => exact False.elim h
        | true => exact ⟨h.1, hK _ _ _ _ h.2 g.2⟩
      · exact False.elim h
    · exact False.elim h
  | laload =>
    unfold a_w1 at h g ⊢
    dsimp only at h g ⊢
    revert g
    split at h
    · intro g
      revert g
      split at h
      · intro g
        exact ⟨h.1, hK _ _ _ _ h.2 g.2⟩
      · exact False.elim h
    · exact False.elim h
  | iastore =>
    unfold a_w1 at h g ⊢
    dsimp only at h g ⊢
    revert g
    split at h
    · intro g
      revert g
      split at h
      · intro g
        exact ⟨h.1, hK _ _ _ _ h.2 g.2⟩
      · exact False.elim h
    · exact False.elim h
  | lastore =>
    unfold a_w1 at h g ⊢
    dsimp only at h g ⊢
    revert g
    split at h
    · intro g
      revert g
      split at h
      · intro g
        exact ⟨h.1, hK _ _ _ _ h.2 g.2⟩
      · exact False.elim h
    · exact False.elim h
  | arraylength =>
    unfold a_w1 at h g ⊢
    dsimp only at h g ⊢
    revert g
    split at h
    · intro g
      revert g
      split at h
      · intro g
        exact hK _ _ _ _ h g
      · intro g
        generalize Nat.beq _ 99 = bb at h g ⊢
        cases bb with
        | false => exact False.elim h
        | true => exact hK _ _ _ _ h g
      · exact False.elim h
    · exact False.elim h
  | invokevirtual n =>
    unfold a_w1 at h g ⊢
    dsimp only at h g ⊢
    cases h900 : Nat.beq x 900 with
    | true =>
      rw [h900] at h g
      simp only [cond_true] at h g ⊢
      revert g
      split at h
      · intro g
        revert g
        split at h
        · intro g
          exact ⟨h.1, hK _ _ _ _ h.2 g.2⟩
        · exact False.elim h
      · exact False.elim h
    | false =>
    rw [h900] at h g
    simp only [cond_false] at h g ⊢
    cases h901 : Nat.beq x 901 with
    | true =>
      rw [h901] at h g
      simp only [cond_true] at h g ⊢
      revert g
      split at h
      · intro g
        revert g
        split at h
        · intro g
          exact ⟨h.1, h.2.1, hK _ _ _ _ h.2.2 g.2.2⟩
        · exact False.elim h
      · exact False.elim h
    | false =>
    rw [h901] at h g
    simp only [cond_false] at h g ⊢
    obtain ⟨P, g1, g2, g3⟩ := h
    obtain ⟨Q, f1, f2, f3⟩ := g
    exact ⟨_, hcal _ _ _ _ _ g1 f1, g2, fun v M' z => hK _ _ _ _ (g3 v M' z.1) (f3 v M' z.2)⟩
  | invokestatic n =>
    unfold a_w1 at h g ⊢
    dsimp only at h g ⊢
    cases h902 : Nat.beq x 902 with
    | true =>
      rw [h902] at h g
      simp only [cond_true] at h g ⊢
      revert g
      split at h
      · intro g
        exact ⟨h.1, hK _ _ _ _ h.2 g.2⟩
      · exact False.elim h
    | false =>
    rw [h902] at h g
    simp only [cond_false] at h g ⊢
    obtain ⟨P, g1, g2, g3⟩ := h
    obtain ⟨Q, f1, f2, f3⟩ := g
    exact ⟨_, hcal _ _ _ _ _ g1 f1, g2, fun v M' z => hK _ _ _ _ (g3 v M' z.1) (f3 v M' z.2)⟩
  | ireturn =>
    unfold a_w1 at h g ⊢
    dsimp only at h g ⊢
    revert g
    split at h
    · intro g
      revert g
      split at h
      · intro g
        exact ⟨h, g⟩
      · intro g
        exact ⟨h.1, h.2, g.2⟩
      · exact False.elim h
    · exact False.elim h
  | lreturn =>
    unfold a_w1 at h g ⊢
    dsimp only at h g ⊢
    revert g
    split at h
    · intro g
      revert g
      split at h
      · intro g
        exact ⟨h, g⟩
      · exact False.elim h
    · exact False.elim h
  | areturn =>
    unfold a_w1 at h g ⊢
    dsimp only at h g ⊢
    revert g
    split at h
    · intro g
      revert g
      split at h
      · intro g
        exact ⟨h, g⟩
      · exact False.elim h
    · exact False.elim h
  | return_ =>
    unfold a_w1 at h g ⊢
    dsimp only at h g ⊢
    revert g
    split at h
    · intro g
      revert g
      split at h
      · intro g
        exact ⟨h, g⟩
      · exact False.elim h
    · exact False.elim h
  | new n =>
    unfold a_w1 at h g ⊢
    dsimp only at h g ⊢
    revert g
    split at h
    · intro g
      exact ⟨h.1, h.2, g.2⟩
    · exact False.elim h
  | _ => exact False.elim h

theorem a_wp_L {d nS : Nat} {cal : Nat → List aV → aM → (Option aV → aM → Prop) → Prop} {rt : Option FieldType} {cd : List aE} {post : Option aV → aM → Prop} {px : Nat → aM → Prop} {K K' : aK} {A B : aL} (a : a_le A B) (hK : ∀ pc A B S M, a_le A B → K pc A S M → K' pc B S M) {pc : Nat} {S : List aV} {M : aM} (h : a_wp d nS cal rt cd post px K pc A S M) : a_wp d nS cal rt cd post px K' pc B S M := by
  unfold a_wp at h ⊢
  cases hf : a_fnd cd pc with
  | none => rw [hf] at h; exact False.elim h
  | some ee =>
  obtain ⟨i, x, y, c0, t, nx⟩ := ee
  rw [hf] at h
  exact a_w1_L a hK h
theorem a_wp_A {d nS : Nat} {cal : Nat → List aV → aM → (Option aV → aM → Prop) → Prop} {rt : Option FieldType} {cd : List aE} {p1 p2 : Option aV → aM → Prop} {x1 x2 : Nat → aM → Prop} {K1 K2 K : aK} (hcal : ∀ y as M P Q, cal y as M P → cal y as M Q → cal y as M (fun v M' => P v M' ∧ Q v M')) (hK : ∀ pc L S M, K1 pc L S M → K2 pc L S M → K pc L S M) {pc : Nat} {L : aL} {S : List aV} {M : aM} (h : a_wp d nS cal rt cd p1 x1 K1 pc L S M) (g : a_wp d nS cal rt cd p2 x2 K2 pc L S M) : a_wp d nS cal rt cd (fun v M => p1 v M ∧ p2 v M) (fun x M => x1 x M ∧ x2 x M) K pc L S M := by
  unfold a_wp at h g ⊢
  cases hf : a_fnd cd pc with
  | none => rw [hf] at h; exact False.elim h
  | some ee =>
  obtain ⟨i, x, y, c0, t, nx⟩ := ee
  rw [hf] at h g
  exact a_w1_A hcal hK h g
/-- two contracts of one method hold together -/
theorem aC_and {nS : Nat} : ∀ {d y : Nat} {as : List aV} {M : aM} {p1 p2 : Option aV → aM → Prop} {x1 x2 : Nat → aM → Prop}, aC nS d y as M p1 x1 → aC nS d y as M p2 x2 → aC nS d y as M (fun v M' => p1 v M' ∧ p2 v M') (fun x M' => x1 x M' ∧ x2 x M') := by
  intro d
  induction d with
  | zero => intro y as M p1 p2 x1 x2 h; exact False.elim h
  | succ d ih =>
    intro y as M p1 p2 x1 x2 h g
    unfold aC at h g ⊢
    cases hm : a_mt[y]? with
    | none => rw [hm] at h; exact False.elim h
    | some mm =>
    obtain ⟨nm, b, nL, rt, st, ci, na, own, ps, cd⟩ := mm
    rw [hm] at h g
    dsimp only at h g ⊢
    refine ⟨h.1, fun K hK hF => ?_⟩
    have hcal : ∀ y as M P Q, aC nS d y as M P (fun _ _ => False) → aC nS d y as M Q (fun _ _ => False) → aC nS d y as M (fun v M' => P v M' ∧ Q v M') (fun _ _ => False) := fun y as M P Q a b => aC_post (ih a b) (fun _ _ z => z) (fun _ _ z => z.1)
    let G : aK := fun pc L S M => ∀ K2 : aK, (∀ pc L S M, a_wp d nS (fun y as M P => aC nS d y as M P (fun _ _ => False)) rt cd p2 x2 K2 pc L S M → K2 pc L S M) → (∀ pc L L' S M, a_le L' L → K2 pc L' S M → K2 pc L S M) → K2 pc L S M
    have hG1 : ∀ pc L S M, a_wp d nS (fun y as M P => aC nS d y as M P (fun _ _ => False)) rt cd p2 x2 G pc L S M → G pc L S M := fun pc L S M w K2 a b => a _ _ _ _ (a_wp_mono (fun _ _ _ _ z => z K2 a b) w)
    have hG2 : ∀ pc L L' S M, a_le L' L → G pc L' S M → G pc L S M := fun pc L L' S M q w K2 a b => b _ _ _ _ _ q (w K2 a b)
    have hG3 : ∀ pc L S M, G pc L S M → a_wp d nS (fun y as M P => aC nS d y as M P (fun _ _ => False)) rt cd p2 x2 G pc L S M := by
      intro pc L S M w
      have w2 := w (fun pc L S M => ∃ L', a_le L' L ∧ a_wp d nS (fun y as M P => aC nS d y as M P (fun _ _ => False)) rt cd p2 x2 G pc L' S M) (fun pc L S M z => ⟨L, a_le_r L, a_wp_mono (fun _ _ _ _ q => by obtain ⟨L', q1, q2⟩ := q; exact hG2 _ _ _ _ _ q1 (hG1 _ _ _ _ q2)) z⟩) (fun pc L L' S M q z => by obtain ⟨L2, q1, q2⟩ := z; exact ⟨L2, a_le_t q1 q, q2⟩)
      obtain ⟨L', q1, q2⟩ := w2
      exact a_wp_L (K := G) (K' := G) q1 (fun pc A B S M q z => hG2 _ _ _ _ _ q z) q2
    have f := h.2 (fun pc L S M => ∀ B, a_le L B → G pc B S M → K pc B S M) (fun pc L S M w B q gB => hK _ _ _ _ (a_wp_A hcal (K1 := fun pc L S M => G pc L S M → K pc L S M) (fun _ _ _ _ a b => a b) (a_wp_L q (fun pc A B S M q z gB => z B q gB) w) (hG3 _ _ _ _ gB))) (fun pc L L' S M q w B q2 gB => w B (a_le_t q q2) gB)
    exact f _ (a_le_r _) (fun K2 a b => g.2 K2 a b)
