/-! the small machine run: lists of numbers as its memory -/
abbrev aQ (α : Type) : Type := List (List α)
def a_lg {α : Type} (z : α) : List α → Nat → α
  | [], _ => z
  | a :: r, k => match k with
    | 0 => a
    | k + 1 => a_lg z r k
def a_ls {α β : Type} (z : α) : Nat → List α → α → (List α → β) → β
  | 0, l, v, k => match l with
    | [] => k [v]
    | _ :: r => k (v :: r)
  | n + 1, l, v, k => match l with
    | [] => a_ls z n [] v (fun q => k (z :: q))
    | a :: r => a_ls z n r v (fun q => k (a :: q))
def a_l0 {α : Type} (z : α) : Nat → List α → α → List α
  | 0, l, v => v :: l.tail
  | n + 1, l, v => l.headD z :: a_l0 z n l.tail v
theorem a_ls_eq {α β : Type} (z : α) : ∀ (n : Nat) (l : List α) (v : α) (k : List α → β), a_ls z n l v k = k (a_l0 z n l v)
  | 0, [], _, _ => rfl
  | 0, _ :: _, _, _ => rfl
  | n + 1, [], v, k => a_ls_eq z n [] v (fun q => k (z :: q))
  | n + 1, a :: r, v, k => a_ls_eq z n r v (fun q => k (a :: q))
theorem a_lg_l0 {α : Type} (z : α) : ∀ (n : Nat) (l : List α) (v : α) (j : Nat), a_lg z (a_l0 z n l v) j = if j = n then v else a_lg z l j
  | 0, l, v, 0 => by cases l <;> rfl
  | 0, l, v, j + 1 => by
    rw [if_neg (by omega)]
    cases l <;> simp [a_l0, a_lg]
  | n + 1, l, v, 0 => by
    rw [if_neg (by omega)]
    cases l <;> simp [a_l0, a_lg]
  | n + 1, l, v, j + 1 => by
    have h := a_lg_l0 z n l.tail v j
    show a_lg z (a_l0 z n l.tail v) j = _
    rw [h]
    by_cases hj : j = n
    · rw [if_pos hj, if_pos (by omega)]
    · rw [if_neg hj, if_neg (by omega)]
      cases l <;> simp [a_lg]
def a_gt {α : Type} (z : α) (q : aQ α) (j : Nat) : α := a_lg z (a_lg [] q (j / 32)) (j % 32)
def a_sq {α β : Type} (z : α) (q : aQ α) (j : Nat) (v : α) (k : aQ α → β) : β := a_ls z (j % 32) (a_lg [] q (j / 32)) v (fun r => a_ls [] (j / 32) q r k)
theorem a_gt_sq {α : Type} (z : α) (q : aQ α) (j : Nat) (v : α) (j' : Nat) : a_sq z q j v (fun q => a_gt z q j') = if j' = j then v else a_gt z q j' := by
  unfold a_sq
  rw [a_ls_eq, a_ls_eq]
  unfold a_gt
  rw [a_lg_l0]
  by_cases h : j' / 32 = j / 32
  · rw [if_pos h, a_lg_l0]
    by_cases h2 : j' % 32 = j % 32
    · rw [if_pos h2, if_pos (by omega)]
    · rw [if_neg h2, if_neg (by omega), h]
  · rw [if_neg h, if_neg (by omega)]
theorem a_sq_k {α β γ : Type} (z : α) (q : aQ α) (j : Nat) (v : α) (k : aQ α → β) (f : β → γ) : f (a_sq z q j v k) = a_sq z q j v (fun q => f (k q)) := by
  unfold a_sq
  rw [a_ls_eq, a_ls_eq, a_ls_eq, a_ls_eq]
abbrev aH (α : Type) : Type := List (List (aQ α))
def a_gh {α : Type} (z : α) (g : aH α) (k i j : Nat) : α := a_gt z (a_lg [] (a_lg [] g k) i) j
def a_sh {α β : Type} (z : α) (g : aH α) (k i j : Nat) (v : α) (kk : aH α → β) : β := a_sq z (a_lg [] (a_lg [] g k) i) j v (fun q => a_ls [] i (a_lg [] g k) q (fun r => a_ls [] k g r kk))
theorem a_gh_sh {α : Type} (z : α) (g : aH α) (k i j : Nat) (v : α) (k' i' j' : Nat) : a_sh z g k i j v (fun g => a_gh z g k' i' j') = if k' = k ∧ i' = i ∧ j' = j then v else a_gh z g k' i' j' := by
  unfold a_sh
  have e1 : ∀ q : aQ α, a_ls [] i (a_lg [] g k) q (fun r => a_ls [] k g r (fun g => a_gh z g k' i' j')) = if k' = k ∧ i' = i then a_gt z q j' else a_gh z g k' i' j' := by
    intro q
    rw [a_ls_eq, a_ls_eq]
    unfold a_gh
    rw [a_lg_l0]
    by_cases h : k' = k
    · rw [if_pos h, a_lg_l0]
      by_cases h2 : i' = i
      · rw [if_pos h2, if_pos ⟨h, h2⟩]
      · rw [if_neg h2, if_neg (fun z => h2 z.2), h]
    · rw [if_neg h, if_neg (fun z => h z.1)]
  simp only [e1]
  by_cases h : k' = k ∧ i' = i
  · have e2 : (fun q : aQ α => if k' = k ∧ i' = i then a_gt z q j' else a_gh z g k' i' j') = fun q => a_gt z q j' := by
      funext q
      rw [if_pos h]
    rw [e2, a_gt_sq]
    obtain ⟨rfl, rfl⟩ := h
    by_cases hj : j' = j
    · rw [if_pos hj, if_pos ⟨rfl, rfl, hj⟩]
    · rw [if_neg hj, if_neg (fun z => hj z.2.2)]
      rfl
  · have e2 : (fun q : aQ α => if k' = k ∧ i' = i then a_gt z q j' else a_gh z g k' i' j') = fun _ => a_gh z g k' i' j' := by
      funext q
      rw [if_neg h]
    rw [e2, if_neg (fun z => h ⟨z.1, z.2.1⟩)]
    unfold a_sq
    rw [a_ls_eq, a_ls_eq]
theorem a_sh_k {α β γ : Type} (z : α) (g : aH α) (k i j : Nat) (v : α) (kk : aH α → β) (f : β → γ) : f (a_sh z g k i j v kk) = a_sh z g k i j v (fun g => f (kk g)) := by
  unfold a_sh a_sq
  simp only [a_ls_eq]
theorem a_sh_id {α β : Type} (z : α) (g : aH α) (k i j : Nat) (v : α) (kk : aH α → β) : a_sh z g k i j v kk = kk (a_sh z g k i j v (fun g => g)) := by
  rw [a_sh_k z g k i j v (fun g => g) kk]
theorem a_gh_sh' {α : Type} (z : α) (g : aH α) (k i j : Nat) (v : α) (k' i' j' : Nat) : a_gh z (a_sh z g k i j v (fun g => g)) k' i' j' = if k' = k ∧ i' = i ∧ j' = j then v else a_gh z g k' i' j' := by
  rw [← a_gh_sh, ← a_sh_id z g k i j v (fun g => a_gh z g k' i' j')]
abbrev aG : Type := aH Int32 × aH Int64
def a_toM (B : aM) (g : aG) : aM := (fun k i j => bif Nat.blt k 47 then a_gh 0 g.1 k i j else B.1 k i j, fun k i j => bif Nat.blt k 47 then a_gh 0 g.2 k i j else B.2 k i j)
theorem a_toM_gI {B : aM} {g : aG} {k i j : Nat} {x : Int32} (h : Nat.blt k 47 = true) : a_toM B (a_sh 0 g.1 k i j x (fun q => q), g.2) = a_pI (a_toM B g) k i j x := by
  refine Prod.ext ?_ rfl
  funext k' i' j'
  show (bif Nat.blt k' 47 then a_gh 0 (a_sh 0 g.1 k i j x (fun q => q)) k' i' j' else B.1 k' i' j') = if k' = k ∧ i' = i ∧ j' = j then x else bif Nat.blt k' 47 then a_gh 0 g.1 k' i' j' else B.1 k' i' j'
  rw [a_gh_sh']
  cases hb : Nat.blt k' 47 with
  | false =>
    rw [cond_false, cond_false, if_neg]
    rintro ⟨rfl, -, -⟩
    rw [h] at hb
    cases hb
  | true => rfl
theorem a_toM_gL {B : aM} {g : aG} {k i j : Nat} {x : Int64} (h : Nat.blt k 47 = true) : a_toM B (g.1, a_sh 0 g.2 k i j x (fun q => q)) = a_pL (a_toM B g) k i j x := by
  refine Prod.ext rfl ?_
  funext k' i' j'
  show (bif Nat.blt k' 47 then a_gh 0 (a_sh 0 g.2 k i j x (fun q => q)) k' i' j' else B.2 k' i' j') = if k' = k ∧ i' = i ∧ j' = j then x else bif Nat.blt k' 47 then a_gh 0 g.2 k' i' j' else B.2 k' i' j'
  rw [a_gh_sh']
  cases hb : Nat.blt k' 47 with
  | false =>
    rw [cond_false, cond_false, if_neg]
    rintro ⟨rfl, -, -⟩
    rw [h] at hb
    cases hb
  | true => rfl
/-! values held as numbers, so that a run stays small -/
def a_fn {α : Type} (n : Nat) (k : Nat → α) : α := match n with
  | 0 => k 0
  | m + 1 => k (m + 1)
theorem a_fn_eq {α : Type} (n : Nat) (k : Nat → α) : a_fn n k = k n := by cases n <;> rfl
def a_fi {α : Type} (x : Int32) (k : Int32 → α) : α := a_fn x.toUInt32.toNat (fun n => k (UInt32.ofNat n).toInt32)
theorem a_fi_eq {α : Type} (x : Int32) (k : Int32 → α) : a_fi x k = k x := by
  unfold a_fi
  rw [a_fn_eq]
  simp
def a_fl {α : Type} (x : Int64) (k : Int64 → α) : α := a_fn x.toUInt64.toNat (fun n => k (UInt64.ofNat n).toInt64)
theorem a_fl_eq {α : Type} (x : Int64) (k : Int64 → α) : a_fl x k = k x := by
  unfold a_fl
  rw [a_fn_eq]
  simp
def a_fL {α β : Type} : List α → (List α → β) → β
  | [], k => k []
  | a :: r, k => a_fL r (fun r' => k (a :: r'))
theorem a_fL_eq {α β : Type} : ∀ (l : List α) (k : List α → β), a_fL l k = k l
  | [], _ => rfl
  | _ :: r, k => a_fL_eq r (fun r' => k (_ :: r'))
abbrev aR : Type := Option ((Nat × aL × List aV × aG) ⊕ ((Option aV × aG) ⊕ ((Nat × aG) ⊕ (Nat × Nat × Nat))))
def aR.no : aR := none
def aR.go (pc : Nat) (L : aL) (S : List aV) (g : aG) : aR := some (.inl (pc, L, S, g))
def aR.ret (v : Option aV) (g : aG) : aR := some (.inr (.inl (v, g)))
def aR.thr (x : Nat) (g : aG) : aR := some (.inr (.inr (.inl (x, g))))
def aR.call (x y nx : Nat) : aR := some (.inr (.inr (.inr (x, y, nx))))
def a_pI9 (nx : Nat) (L : aL) (x : Int32) (r : List aV) (g : aG) : aR := a_fi x (fun x => .go nx L (vI x :: r) g)
def a_pL9 (nx : Nat) (L : aL) (x : Int64) (r : List aV) (g : aG) : aR := a_fl x (fun x => .go nx L (vL x :: r) g)
def a_ifR (b : Bool) (x nx : Nat) (L : aL) (r : List aV) (g : aG) : aR := bif b then .go x L r g else .go nx L r g
def a_swf (v : Int32) : Nat → List Nat → Option Nat
  | _, [] => none
  | n, t :: ts => bif decide (v = Int32.ofNat n) then some t else a_swf v (n + 1) ts
def a_swa (v : Int32) (q : Nat) : Nat → List Nat → Bool
  | _, [] => true
  | n, t :: ts => (!decide (v = Int32.ofNat n) || Nat.beq t q) && a_swa v q (n + 1) ts
def a_st (d : Nat) (rt : Option FieldType) (i : Instr) (x y : Nat) (c : Int32) (t : List Nat) (nx : Nat) (L : aL) (S : List aV) (g : aG) : aR :=
  match i with
  | .iconst _ | .bipush _ | .sipush _ | .ldc_w _ => .go nx L (vI c :: S) g
  | .ldc _ => match y with
    | 0 => .go nx L (vI c :: S) g
    | _ => .go nx L (vR x 0 :: S) g
  | .lconst _ => match x with
    | 0 => .go nx L (vL 0 :: S) g
    | _ => .go nx L (vL 1 :: S) g
  | .iload_n _ | .iload _ => match L[x]? with
    | some (some (.inl v)) => .go nx L (.inl v :: S) g
    | _ => .no
  | .lload_n _ | .lload _ => match L[x]? with
    | some (some (.inr (.inl v))) => .go nx L (.inr (.inl v) :: S) g
    | _ => .no
  | .aload_n _ | .aload _ => match L[x]? with
    | some (some (.inr (.inr q))) => .go nx L (.inr (.inr q) :: S) g
    | _ => .no
  | .istore_n _ | .istore _ => match S with
    | .inl v :: r => a_fL (a_s1 L x (.inl v)) (fun L => .go nx L r g)
    | _ => .no
  | .lstore_n _ | .lstore _ => match S with
    | .inr (.inl v) :: r => a_fL (a_s2 L x (.inr (.inl v))) (fun L => .go nx L r g)
    | _ => .no
  | .astore_n _ | .astore _ => match S with
    | .inr (.inr q) :: r => a_fL (a_s1 L x (.inr (.inr q))) (fun L => .go nx L r g)
    | _ => .no
  | .iinc _ _ => match L[x]? with
    | some (some (.inl v)) => a_fi (v + c) (fun v => a_fL (a_s1 L x (.inl v)) (fun L => .go nx L S g))
    | _ => .no
  | .iadd => match S with
    | .inl b :: .inl a :: r => a_pI9 nx L (a + b) r g
    | _ => .no
  | .isub => match S with
    | .inl b :: .inl a :: r => a_pI9 nx L (a - b) r g
    | _ => .no
  | .imul => match S with
    | .inl b :: .inl a :: r => a_pI9 nx L (a * b) r g
    | _ => .no
  | .iand => match S with
    | .inl b :: .inl a :: r => a_pI9 nx L (a &&& b) r g
    | _ => .no
  | .ior => match S with
    | .inl b :: .inl a :: r => a_pI9 nx L (a ||| b) r g
    | _ => .no
  | .ixor => match S with
    | .inl b :: .inl a :: r => a_pI9 nx L (a ^^^ b) r g
    | _ => .no
  | .ishl => match S with
    | .inl b :: .inl a :: r => a_pI9 nx L (a <<< (b &&& 31)) r g
    | _ => .no
  | .ishr => match S with
    | .inl b :: .inl a :: r => a_pI9 nx L (a >>> (b &&& 31)) r g
    | _ => .no
  | .iushr => match S with
    | .inl b :: .inl a :: r => a_pI9 nx L ((a.toUInt32 >>> (b.toUInt32 &&& Int32.toUInt32 31)).toInt32) r g
    | _ => .no
  | .idiv => match S with
    | .inl b :: .inl a :: r => bif decide (b = 0) then .no else a_pI9 nx L (a / b) r g
    | _ => .no
  | .irem => match S with
    | .inl b :: .inl a :: r => bif decide (b = 0) then .no else a_pI9 nx L (a - a / b * b) r g
    | _ => .no
  | .ineg => match S with
    | .inl a :: r => a_pI9 nx L (-a) r g
    | _ => .no
  | .i2l => match S with
    | .inl a :: r => a_pL9 nx L a.toInt64 r g
    | _ => .no
  | .ladd => match S with
    | .inr (.inl b) :: .inr (.inl a) :: r => a_pL9 nx L (a + b) r g
    | _ => .no
  | .lmul => match S with
    | .inr (.inl b) :: .inr (.inl a) :: r => a_pL9 nx L (a * b) r g
    | _ => .no
  | .pop => match S with
    | .inl _ :: r => .go nx L r g
    | .inr (.inr _) :: r => .go nx L r g
    | _ => .no
  | .pop2 => match S with
    | .inr (.inl _) :: r => .go nx L r g
    | _ => .no
  | .dup => match S with
    | .inl v :: r => .go nx L (.inl v :: .inl v :: r) g
    | .inr (.inr q) :: r => .go nx L (.inr (.inr q) :: .inr (.inr q) :: r) g
    | _ => .no
  | .dup2 => match S with
    | .inl j :: .inr (.inr q) :: r => .go nx L (.inl j :: .inr (.inr q) :: .inl j :: .inr (.inr q) :: r) g
    | _ => .no
  | .goto _ => .go x L S g
  | .ifCond cnd _ => match S with
    | .inl v :: r => match cnd with
      | .eq => a_ifR (decide (v = 0)) x nx L r g
      | .ne => a_ifR (decide (v = 0)) nx x L r g
      | .lt => a_ifR (decide (v < 0)) x nx L r g
      | .ge => a_ifR (decide (0 ≤ v)) x nx L r g
      | .gt => a_ifR (decide (0 < v)) x nx L r g
      | .le => a_ifR (decide (v ≤ 0)) x nx L r g
    | _ => .no
  | .if_icmp cnd _ => match S with
    | .inl b :: .inl a :: r => match cnd with
      | .eq => a_ifR (decide (a = b)) x nx L r g
      | .ne => a_ifR (decide (a = b)) nx x L r g
      | .lt => a_ifR (decide (a < b)) x nx L r g
      | .ge => a_ifR (decide (b ≤ a)) x nx L r g
      | .gt => a_ifR (decide (b < a)) x nx L r g
      | .le => a_ifR (decide (a ≤ b)) x nx L r g
    | _ => .no
  | .tableswitch _ _ _ _ => match S with
    | .inl v :: r => match a_swf v 0 t with
      | some q => bif a_swa v q 0 t then .go q L r g else .no
      | none => .go x L r g
    | _ => .no
  | .getfield _ => match S with
    | .inr (.inr (k, j)) :: r => match a_shp k with
      | some (.inl (ci, fl)) => bif Nat.beq ci y then (match fl[x]? with
        | some none => bif Nat.blt k 47 then a_pI9 nx L (a_gh 0 g.1 k j x) r g else .no
        | some (some (k', none)) => .go nx L (vR k' j :: r) g
        | some (some (k', some j')) => .go nx L (vR k' j' :: r) g
        | none => .no) else .no
      | _ => .no
    | _ => .no
  | .putfield _ => match S with
    | .inl v :: .inr (.inr (k, j)) :: r => match a_shp k with
      | some (.inl (ci, fl)) => bif Nat.beq ci y then (match fl[x]? with
        | some none => bif Nat.blt k 47 && (match t with
          | [] => true
          | _ => decide (v = 0) || decide (v = 1)) then a_sh 0 g.1 k j x v (fun q => .go nx L r (q, g.2)) else .no
        | _ => .no) else .no
      | _ => .no
    | _ => .no
  | .iaload => match S with
    | .inl j :: .inr (.inr (k, q)) :: r => match a_shp k with
      | some (.inr (false, n)) => bif Nat.blt k 47 && (decide (0 ≤ j) && Nat.blt j.toNatClampNeg n) then a_pI9 nx L (a_gh 0 g.1 k q j.toNatClampNeg) r g else .no
      | _ => .no
    | _ => .no
  | .laload => match S with
    | .inl j :: .inr (.inr (k, q)) :: r => match a_shp k with
      | some (.inr (true, n)) => bif Nat.blt k 47 && (decide (0 ≤ j) && Nat.blt j.toNatClampNeg n) then a_pL9 nx L (a_gh 0 g.2 k q j.toNatClampNeg) r g else .no
      | _ => .no
    | _ => .no
  | .iastore => match S with
    | .inl v :: .inl j :: .inr (.inr (k, q)) :: r => match a_shp k with
      | some (.inr (false, n)) => bif Nat.blt k 47 && (decide (0 ≤ j) && Nat.blt j.toNatClampNeg n) then a_sh 0 g.1 k q j.toNatClampNeg v (fun q => .go nx L r (q, g.2)) else .no
      | _ => .no
    | _ => .no
  | .lastore => match S with
    | .inr (.inl v) :: .inl j :: .inr (.inr (k, q)) :: r => match a_shp k with
      | some (.inr (true, n)) => bif Nat.blt k 47 && (decide (0 ≤ j) && Nat.blt j.toNatClampNeg n) then a_sh 0 g.2 k q j.toNatClampNeg v (fun q => .go nx L r (g.1, q)) else .no
      | _ => .no
    | _ => .no
  | .arraylength => match S with
    | .inr (.inr (k, _)) :: r => match a_shp k with
      | some (.inr (_, n)) => .go nx L (.inl (Int32.ofNat n) :: r) g
      | _ => .no
    | _ => .no
  | .invokevirtual _ => bif Nat.beq x 900 then (match S with
      | .inr (.inr (k, _)) :: r => match a_stx k with
        | some bs => bif Nat.ble 6 d && Nat.ble (a_wid r) 8 then a_pI9 nx L (Int32.ofNat bs.length) r g else .no
        | none => .no
      | _ => .no)
    else bif Nat.beq x 901 then (match S with
      | .inl j :: .inr (.inr (k, _)) :: r => match a_stx k with
        | some bs => bif (Nat.ble 6 d && Nat.ble (a_wid r) 8) && (decide (0 ≤ j) && Nat.blt j.toNatClampNeg bs.length) then a_pI9 nx L (Int32.ofNat (bs.getD j.toNatClampNeg 0)) r g else .no
        | none => .no
      | _ => .no)
    else bif Nat.ble (a_wid (S.drop y)) 8 && a_rok x y S then .call x y nx else .no
  | .invokestatic _ => bif Nat.ble (a_wid (S.drop y)) 8 && a_rok x y S then .call x y nx else .no
  | .ireturn => match S with
    | [.inl v] => match rt with
      | some .int => .ret (some (.inl v)) g
      | some .boolean => bif decide (v = 0) || decide (v = 1) then .ret (some (.inl v)) g else .no
      | _ => .no
    | _ => .no
  | .lreturn => match S with
    | [.inr (.inl v)] => match rt with
      | some .long => .ret (some (.inr (.inl v))) g
      | _ => .no
    | _ => .no
  | .areturn => match S with
    | [.inr (.inr q)] => match rt with
      | some (.object _) => .ret (some (.inr (.inr q))) g
      | _ => .no
    | _ => .no
  | .return_ => match S with
    | [] => match rt with
      | none => .ret none g
      | _ => .no
    | _ => .no
  | .new _ => match S with
    | [] => bif Nat.ble 6 d then .thr x g else .no
    | _ => .no
  | _ => .no
abbrev aO : Type := Option ((Option aV × aG) ⊕ (Nat × aG))
def a_lp (cal : Nat → List aV → aG → aO) (d : Nat) (rt : Option FieldType) (cd : List aE) : Nat → Nat → aL → List aV → aG → aO
  | 0, _, _, _, _ => none
  | f + 1, pc, L, S, g => match a_fnd cd pc with
    | none => none
    | some (i, x, y, c, t, nx) => match a_st d rt i x y c t nx L S g with
      | none => none
      | some (.inl (pc', L', S', g')) => match g' with
        | (a, b) => a_lp cal d rt cd f pc' L' S' (a, b)
      | some (.inr (.inl (v, g'))) => some (.inl (v, g'))
      | some (.inr (.inr (.inl (x, g')))) => some (.inr (x, g'))
      | some (.inr (.inr (.inr (x, y, nx)))) => match cal x (S.take y).reverse g with
        | some (.inl (v, g')) => a_fL (a_res v (S.drop y)) (fun S' => match g' with
          | (a, b) => a_lp cal d rt cd f nx L S' (a, b))
        | _ => none
def a_run : Nat → Nat → List aV → aG → aO
  | 0, _, _, _ => none
  | d + 1, y, as, g => match a_mt[y]? with
    | none => none
    | some (_, _, nL, rt, _, _, _, _, _, cd) => bif Nat.ble (a_ent as).length nL then a_fL (a_pad nL (a_ent as)) (fun L => a_lp (a_run d) d rt cd 100000 0 L [] g) else none
theorem a_swa_ok {K : Nat → Prop} {v : Int32} {q : Nat} (hK : K q) : ∀ {n : Nat} {t : List Nat}, a_swa v q n t = true → a_swc K v n t
  | _, [], _ => trivial
  | n, t :: ts, h => by
    simp only [a_swa, Bool.and_eq_true, Bool.or_eq_true, Bool.not_eq_true', decide_eq_false_iff_not] at h
    refine ⟨fun hv => ?_, a_swa_ok hK h.2⟩
    rcases h.1 with h1 | h1
    · exact absurd hv h1
    · rw [Nat.eq_of_beq_eq_true h1]; exact hK
theorem a_swf_none {v : Int32} : ∀ {n : Nat} {t : List Nat}, a_swf v n t = none → ∀ m, m < t.length → ¬ v = Int32.ofNat (n + m)
  | _, [], _, m, hm => absurd hm (Nat.not_lt_zero m)
  | n, t :: ts, h, m, hm => by
    simp only [a_swf] at h
    by_cases hv : v = Int32.ofNat n
    · rw [decide_eq_true hv] at h; cases h
    · rw [decide_eq_false hv] at h
      cases m with
      | zero => exact hv
      | succ m =>
        have := a_swf_none h m (Nat.lt_of_succ_lt_succ hm)
        rwa [show n + (m + 1) = n + 1 + m by omega]
theorem a_swf_some {v : Int32} {q : Nat} : ∀ {n : Nat} {t : List Nat}, a_swf v n t = some q → ¬ (∀ m : Nat, m < t.length → ¬ v = Int32.ofNat (n + m))
  | _, [], h, _ => by cases h
  | n, t :: ts, h, z => by
    simp only [a_swf] at h
    by_cases hv : v = Int32.ofNat n
    · exact z 0 (Nat.succ_pos _) hv
    · rw [decide_eq_false hv] at h
      exact a_swf_some h (fun m hm hv => z (m + 1) (Nat.succ_lt_succ hm) (by rwa [show n + (m + 1) = n + 1 + m by omega]))
theorem a_swc_none {K : Nat → Prop} {v : Int32} : ∀ {n : Nat} {t : List Nat}, (∀ m, m < t.length → ¬ v = Int32.ofNat (n + m)) → a_swc K v n t
  | _, [], _ => trivial
  | n, t :: ts, h => ⟨fun hv => absurd hv (h 0 (Nat.succ_pos _)), a_swc_none (fun m hm hv => h (m + 1) (Nat.succ_lt_succ hm) (by rwa [show n + (m + 1) = n + 1 + m by omega]))⟩
theorem a_vpin {j : Int32} {n : Nat} (h : (decide (0 ≤ j) && Nat.blt j.toNatClampNeg n) = true) : vp_in j n := by
  rw [Bool.and_eq_true, decide_eq_true_eq] at h
  intro z
  rcases z with z | z
  · exact Int32.not_le.mpr z h.1
  · exact absurd (Nat.le_of_ble_eq_true h.2) (Nat.not_le.mpr (Nat.lt_succ_of_le z))
/-- where a step of the run may go, K holds: then it held ahead of it -/
def a_stP (cal : Nat → List aV → aM → (Option aV → aM → Prop) → Prop) (post : Option aV → aM → Prop) (px : Nat → aM → Prop) (K : aK) (B : aM) (L : aL) (S : List aV) (g : aG) : aR → Prop
  | none => False
  | some (.inl (pc, L', S', g')) => K pc L' S' (a_toM B g')
  | some (.inr (.inl (v, g'))) => post v (a_toM B g')
  | some (.inr (.inr (.inl (x, g')))) => px x (a_toM B g')
  | some (.inr (.inr (.inr (x, y, nx)))) => ∃ P, cal x (S.take y).reverse (a_toM B g) P ∧ ∀ v M', P v M' → K nx L (a_res v (S.drop y)) M'
theorem a_ifR_ok {cal : Nat → List aV → aM → (Option aV → aM → Prop) → Prop} {post : Option aV → aM → Prop} {px : Nat → aM → Prop} {K : aK} {B : aM} {L0 : aL} {S : List aV} {g0 : aG} {P : Prop} [Decidable P] {x nx : Nat} {L : aL} {r : List aV} {g : aG} (h : a_stP cal post px K B L0 S g0 (a_ifR (decide P) x nx L r g)) : (P → K x L r (a_toM B g)) ∧ (¬ P → K nx L r (a_toM B g)) := by
  unfold a_ifR at h
  by_cases hp : P
  · rw [decide_eq_true hp] at h
    exact ⟨fun _ => h, fun z => absurd hp z⟩
  · rw [decide_eq_false hp] at h
    exact ⟨fun z => absurd z hp, fun _ => h⟩
theorem a_cnd {b : Bool} {x : aR} {P : aR → Prop} (hn : ¬ P aR.no) (h : P (bif b then x else aR.no)) : b = true ∧ P x := by
  cases b with
  | true => exact ⟨rfl, h⟩
  | false => exact absurd h hn
theorem a_rok902 {x y : Nat} {S : List aV} (h : a_rok x y S = true) : Nat.beq x 902 = false := by
  cases hb : Nat.beq x 902 with
  | false => rfl
  | true =>
    have e := Nat.eq_of_beq_eq_true hb
    subst e
    have e2 : a_mt[902]? = none := rfl
    unfold a_rok at h
    rw [e2] at h
    cases h
set_option maxHeartbeats 2000000 in
theorem a_exS {d nS : Nat} {cal : Nat → List aV → aM → (Option aV → aM → Prop) → Prop} {rt : Option FieldType} {post : Option aV → aM → Prop} {px : Nat → aM → Prop} {K : aK} {B : aM} {i : Instr} {x y : Nat} {c : Int32} {t : List Nat} {nx : Nat} {L : aL} {S : List aV} {g : aG}
    (h : a_stP cal post px K B L S g (a_st d rt i x y c t nx L S g)) : a_w1 d nS cal rt post px K i x y c t nx L S (a_toM B g) := by
  cases i with
  | iconst n =>
    exact h
  | bipush n =>
    exact h
  | sipush n =>
    exact h
  | ldc_w n =>
    exact h
  | goto n =>
    exact h
  | ldc n =>
    cases y with
    | zero => exact h
    | succ y => exact h
  | lconst n =>
    cases x with
    | zero => exact h
    | succ x => exact h
  | iload_n n =>
    unfold a_w1
    unfold a_st at h
    dsimp only at h ⊢
    split at h
    · rename_i hv
      rw [hv]
      exact h
    · exact False.elim h
  | iload n =>
    unfold a_w1
    unfold a_st at h
    dsimp only at h ⊢
    split at h
    · rename_i hv
      rw [hv]
      exact h
    · exact False.elim h
  | lload_n n =>
    unfold a_w1
    unfold a_st at h
    dsimp only at h ⊢
    split at h
    · rename_i hv
      rw [hv]
      exact h
    · exact False.elim h
  | lload n =>
    unfold a_w1
    unfold a_st at h
    dsimp only at h ⊢
    split at h
    · rename_i hv
      rw [hv]
      exact h
    · exact False.elim h
  | aload_n n =>
    unfold a_w1
    unfold a_st at h
    dsimp only at h ⊢
    split at h
    · rename_i hv
      rw [hv]
      exact h
    · exact False.elim h
  | aload n =>
    unfold a_w1
    unfold a_st at h
    dsimp only at h ⊢
    split at h
    · rename_i hv
      rw [hv]
      exact h
    · exact False.elim h
  | pop2 =>
    unfold a_w1
    unfold a_st at h
    dsimp only at h ⊢
    split at h
    · exact h
    · exact False.elim h
  | dup2 =>
    unfold a_w1
    unfold a_st at h
    dsimp only at h ⊢
    split at h
    · exact h
    · exact False.elim h
  | istore_n n =>
    unfold a_w1
    unfold a_st at h
    dsimp only at h ⊢
    split at h
    · rw [a_fL_eq] at h; exact h
    · exact False.elim h
  | istore n =>
    unfold a_w1
    unfold a_st at h
    dsimp only at h ⊢
    split at h
    · rw [a_fL_eq] at h; exact h
    · exact False.elim h
  | lstore_n n =>
    unfold a_w1
    unfold a_st at h
    dsimp only at h ⊢
    split at h
    · rw [a_fL_eq] at h; exact h
    · exact False.elim h
  | lstore n =>
    unfold a_w1
    unfold a_st at h
    dsimp only at h ⊢
    split at h
    · rw [a_fL_eq] at h; exact h
    · exact False.elim h
  | astore_n n =>
    unfold a_w1
    unfold a_st at h
    dsimp only at h ⊢
    split at h
    · rw [a_fL_eq] at h; exact h
    · exact False.elim h
  | astore n =>
    unfold a_w1
    unfold a_st at h
    dsimp only at h ⊢
    split at h
    · rw [a_fL_eq] at h; exact h
    · exact False.elim h
  | iinc n k =>
    unfold a_w1
    unfold a_st at h
    dsimp only at h ⊢
    split at h
    · rename_i hv
      rw [hv]
      rw [a_fi_eq, a_fL_eq] at h; exact h
    · exact False.elim h
  | iadd =>
    unfold a_w1
    unfold a_st at h
    dsimp only at h ⊢
    split at h
    · unfold a_pI9 at h; rw [a_fi_eq] at h; exact h
    · exact False.elim h
  | isub =>
    unfold a_w1
    unfold a_st at h
    dsimp only at h ⊢
    split at h
    · unfold a_pI9 at h; rw [a_fi_eq] at h; exact h
    · exact False.elim h
  | imul =>
    unfold a_w1
    unfold a_st at h
    dsimp only at h ⊢
    split at h
    · unfold a_pI9 at h; rw [a_fi_eq] at h; exact h
    · exact False.elim h
  | iand =>
    unfold a_w1
    unfold a_st at h
    dsimp only at h ⊢
    split at h
    · unfold a_pI9 at h; rw [a_fi_eq] at h; exact h
    · exact False.elim h
  | ior =>
    unfold a_w1
    unfold a_st at h
    dsimp only at h ⊢
    split at h
    · unfold a_pI9 at h; rw [a_fi_eq] at h; exact h
    · exact False.elim h
  | ixor =>
    unfold a_w1
    unfold a_st at h
    dsimp only at h ⊢
    split at h
    · unfold a_pI9 at h; rw [a_fi_eq] at h; exact h
    · exact False.elim h
  | ishl =>
    unfold a_w1
    unfold a_st at h
    dsimp only at h ⊢
    split at h
    · unfold a_pI9 at h; rw [a_fi_eq] at h; exact h
    · exact False.elim h
  | ishr =>
    unfold a_w1
    unfold a_st at h
    dsimp only at h ⊢
    split at h
    · unfold a_pI9 at h; rw [a_fi_eq] at h; exact h
    · exact False.elim h
  | iushr =>
    unfold a_w1
    unfold a_st at h
    dsimp only at h ⊢
    split at h
    · unfold a_pI9 at h; rw [a_fi_eq] at h; exact h
    · exact False.elim h
  | ineg =>
    unfold a_w1
    unfold a_st at h
    dsimp only at h ⊢
    split at h
    · unfold a_pI9 at h; rw [a_fi_eq] at h; exact h
    · exact False.elim h
  | i2l =>
    unfold a_w1
    unfold a_st at h
    dsimp only at h ⊢
    split at h
    · unfold a_pL9 at h; rw [a_fl_eq] at h; exact h
    · exact False.elim h
  | ladd =>
    unfold a_w1
    unfold a_st at h
    dsimp only at h ⊢
    split at h
    · unfold a_pL9 at h; rw [a_fl_eq] at h; exact h
    · exact False.elim h
  | lmul =>
    unfold a_w1
    unfold a_st at h
    dsimp only at h ⊢
    split at h
    · unfold a_pL9 at h; rw [a_fl_eq] at h; exact h
    · exact False.elim h
  | idiv =>
    unfold a_w1
    unfold a_st at h
    dsimp only at h ⊢
    split at h
    · rename_i b a r
      by_cases hb : b = 0
      · rw [decide_eq_true hb] at h; exact False.elim h
      · rw [decide_eq_false hb] at h
        unfold a_pI9 at h
        rw [cond_false, a_fi_eq] at h
        exact ⟨hb, h⟩
    · exact False.elim h
  | irem =>
    unfold a_w1
    unfold a_st at h
    dsimp only at h ⊢
    split at h
    · rename_i b a r
      by_cases hb : b = 0
      · rw [decide_eq_true hb] at h; exact False.elim h
      · rw [decide_eq_false hb] at h
        unfold a_pI9 at h
        rw [cond_false, a_fi_eq] at h
        exact ⟨hb, h⟩
    · exact False.elim h
  | pop =>
    unfold a_w1
    unfold a_st at h
    dsimp only at h ⊢
    split at h
    · exact h
    · exact h
    · exact False.elim h
  | dup =>
    unfold a_w1
    unfold a_st at h
    dsimp only at h ⊢
    split at h
    · exact h
    · exact h
    · exact False.elim h
  | ifCond cnd off =>
    unfold a_w1
    unfold a_st at h
    dsimp only at h ⊢
    split at h
    · cases cnd with
      | ne => exact ⟨(a_ifR_ok h).2, (a_ifR_ok h).1⟩
      | _ => exact a_ifR_ok h
    · exact False.elim h
  | if_icmp cnd off =>
    unfold a_w1
    unfold a_st at h
    dsimp only at h ⊢
    split at h
    · cases cnd with
      | ne => exact ⟨(a_ifR_ok h).2, (a_ifR_ok h).1⟩
      | _ => exact a_ifR_ok h
    · exact False.elim h
  | tableswitch a b c d =>
    unfold a_w1
    unfold a_st at h
    dsimp only at h ⊢
    split at h
    · rename_i v r
      split at h
      · rename_i q hq
        cases hb : a_swa v q 0 t with
        | false => rw [hb] at h; exact False.elim h
        | true =>
          rw [hb] at h
          exact ⟨a_swa_ok h hb, fun z => False.elim (a_swf_some hq (by simpa only [Nat.zero_add] using z))⟩
      · rename_i hq
        have hn := a_swf_none hq
        simp only [Nat.zero_add] at hn
        exact ⟨a_swc_none (by simpa only [Nat.zero_add] using hn), fun _ => h⟩
    · exact False.elim h
  | getfield n =>
    unfold a_w1
    unfold a_st at h
    dsimp only at h ⊢
    split at h
    · rename_i k j r
      split at h
      · rename_i ci fl hsh
        dsimp only
        rw [hsh]
        dsimp only
        obtain ⟨hb, h⟩ := a_cnd (P := a_stP cal post px K B L _ g) (fun z => z) h
        rw [hb, cond_true]
        split at h
        · rename_i hfl
          rw [hfl]
          obtain ⟨hk, h⟩ := a_cnd (P := a_stP cal post px K B L _ g) (fun z => z) h
          unfold a_pI9 at h
          rw [a_fi_eq] at h
          show K nx L (.inl ((bif Nat.blt k 47 then a_gh 0 g.1 k j x else B.1 k j x)) :: r) (a_toM B g)
          rw [hk]
          exact h
        · rename_i hfl
          rw [hfl]
          exact h
        · rename_i hfl
          rw [hfl]
          exact h
        · exact False.elim h
      · exact False.elim h
    · exact False.elim h
  | putfield n =>
    unfold a_w1
    unfold a_st at h
    dsimp only at h ⊢
    split at h
    · rename_i v k j r
      split at h
      · rename_i ci fl hsh
        dsimp only
        rw [hsh]
        dsimp only
        obtain ⟨hb, h⟩ := a_cnd (P := a_stP cal post px K B L _ g) (fun z => z) h
        rw [hb, cond_true]
        split at h
        · rename_i hfl
          rw [hfl]
          obtain ⟨hk, h⟩ := a_cnd (P := a_stP cal post px K B L _ g) (fun z => z) h
          rw [Bool.and_eq_true] at hk
          have h2 : K nx L r (a_toM B (a_sh 0 g.1 k j x v (fun q => q), g.2)) := by
            rw [a_sh_id] at h
            exact h
          rw [a_toM_gI hk.1] at h2
          cases t with
          | nil => exact h2
          | cons t0 tr =>
            refine ⟨?_, h2⟩
            have := hk.2
            simpa using this
        · exact False.elim h
      · exact False.elim h
    · exact False.elim h
  | iaload =>
    unfold a_w1
    unfold a_st at h
    dsimp only at h ⊢
    split at h
    · rename_i j k q r
      split at h
      · rename_i n hsh
        dsimp only
        rw [hsh]
        dsimp only
        obtain ⟨hb, h⟩ := a_cnd (P := a_stP cal post px K B L _ g) (fun z => z) h
        rw [Bool.and_eq_true] at hb
        refine ⟨a_vpin hb.2, ?_⟩
        unfold a_pI9 at h
        rw [a_fi_eq] at h
        have e : a_toM B g = a_toM B g := rfl
        unfold a_toM
        dsimp only
        rw [hb.1]
        exact h
      · exact False.elim h
    · exact False.elim h
  | laload =>
    unfold a_w1
    unfold a_st at h
    dsimp only at h ⊢
    split at h
    · rename_i j k q r
      split at h
      · rename_i n hsh
        dsimp only
        rw [hsh]
        dsimp only
        obtain ⟨hb, h⟩ := a_cnd (P := a_stP cal post px K B L _ g) (fun z => z) h
        rw [Bool.and_eq_true] at hb
        refine ⟨a_vpin hb.2, ?_⟩
        unfold a_pL9 at h
        rw [a_fl_eq] at h
        have e : a_toM B g = a_toM B g := rfl
        unfold a_toM
        dsimp only
        rw [hb.1]
        exact h
      · exact False.elim h
    · exact False.elim h
  | iastore =>
    unfold a_w1
    unfold a_st at h
    dsimp only at h ⊢
    split at h
    · rename_i v j k q r
      split at h
      · rename_i n hsh
        dsimp only
        rw [hsh]
        dsimp only
        obtain ⟨hb, h⟩ := a_cnd (P := a_stP cal post px K B L _ g) (fun z => z) h
        rw [Bool.and_eq_true] at hb
        refine ⟨a_vpin hb.2, ?_⟩
        have h2 : K nx L r (a_toM B (a_sh 0 g.1 k q j.toNatClampNeg v (fun q => q), g.2)) := by
          rw [a_sh_id] at h
          exact h
        rw [a_toM_gI hb.1] at h2
        exact h2
      · exact False.elim h
    · exact False.elim h
  | lastore =>
    unfold a_w1
    unfold a_st at h
    dsimp only at h ⊢
    split at h
    · rename_i v j k q r
      split at h
      · rename_i n hsh
        dsimp only
        rw [hsh]
        dsimp only
        obtain ⟨hb, h⟩ := a_cnd (P := a_stP cal post px K B L _ g) (fun z => z) h
        rw [Bool.and_eq_true] at hb
        refine ⟨a_vpin hb.2, ?_⟩
        have h2 : K nx L r (a_toM B (g.1, a_sh 0 g.2 k q j.toNatClampNeg v (fun q => q))) := by
          rw [a_sh_id] at h
          exact h
        rw [a_toM_gL hb.1] at h2
        exact h2
      · exact False.elim h
    · exact False.elim h
  | arraylength =>
    unfold a_w1
    unfold a_st at h
    dsimp only at h ⊢
    split at h
    · split at h
      · rename_i hsh
        dsimp only
        rw [hsh]
        exact h
      · exact False.elim h
    · exact False.elim h
  | invokestatic n =>
    unfold a_w1
    unfold a_st at h
    dsimp only at h ⊢
    obtain ⟨hb, P, h1, h2⟩ := a_cnd (P := a_stP cal post px K B L _ g) (fun z => z) h
    rw [a_rok902 ((Bool.and_eq_true _ _).mp hb).2]
    exact ⟨P, h1, hb, h2⟩
  | invokevirtual n =>
    unfold a_w1
    unfold a_st at h
    dsimp only at h ⊢
    cases h900 : Nat.beq x 900 with
    | true =>
      rw [h900] at h
      simp only [cond_true] at h ⊢
      split at h
      · split at h
        · rename_i hsx
          dsimp only
          rw [hsx]
          dsimp only
          obtain ⟨hb, h⟩ := a_cnd (P := a_stP cal post px K B L _ g) (fun z => z) h
          unfold a_pI9 at h
          rw [a_fi_eq] at h
          exact ⟨hb, h⟩
        · exact False.elim h
      · exact False.elim h
    | false =>
    rw [h900] at h
    simp only [cond_false] at h ⊢
    cases h901 : Nat.beq x 901 with
    | true =>
      rw [h901] at h
      simp only [cond_true] at h ⊢
      split at h
      · split at h
        · rename_i hsx
          dsimp only
          rw [hsx]
          dsimp only
          obtain ⟨hb, h⟩ := a_cnd (P := a_stP cal post px K B L _ g) (fun z => z) h
          unfold a_pI9 at h
          rw [a_fi_eq] at h
          rw [Bool.and_eq_true] at hb
          exact ⟨hb.1, a_vpin hb.2, h⟩
        · exact False.elim h
      · exact False.elim h
    | false =>
    rw [h901] at h
    simp only [cond_false] at h ⊢
    obtain ⟨hb, P, h1, h2⟩ := a_cnd (P := a_stP cal post px K B L _ g) (fun z => z) h
    exact ⟨P, h1, hb, h2⟩
  | ireturn =>
    unfold a_w1
    unfold a_st at h
    dsimp only at h ⊢
    split at h
    · split at h
      · exact h
      · obtain ⟨hb, h⟩ := a_cnd (P := a_stP cal post px K B L _ g) (fun z => z) h
        exact ⟨by simpa using hb, h⟩
      · exact False.elim h
    · exact False.elim h
  | lreturn =>
    unfold a_w1
    unfold a_st at h
    dsimp only at h ⊢
    split at h
    · split at h
      · exact h
      · exact False.elim h
    · exact False.elim h
  | areturn =>
    unfold a_w1
    unfold a_st at h
    dsimp only at h ⊢
    split at h
    · split at h
      · exact h
      · exact False.elim h
    · exact False.elim h
  | return_ =>
    unfold a_w1
    unfold a_st at h
    dsimp only at h ⊢
    split at h
    · split at h
      · exact h
      · exact False.elim h
    · exact False.elim h
  | new n =>
    unfold a_w1
    unfold a_st at h
    dsimp only at h ⊢
    split at h
    · obtain ⟨hb, h⟩ := a_cnd (P := a_stP cal post px K B L _ g) (fun z => z) h
      exact ⟨hb, h⟩
    · exact False.elim h
  | _ => exact False.elim h
def a_oP (post : Option aV → aM → Prop) (px : Nat → aM → Prop) (B : aM) : (Option aV × aG) ⊕ (Nat × aG) → Prop
  | .inl (v, g) => post v (a_toM B g)
  | .inr (x, g) => px x (a_toM B g)
theorem a_lp_ok {nS d : Nat} {B : aM} {cal : Nat → List aV → aG → aO} (hcal : ∀ y as g v g', cal y as g = some (.inl (v, g')) → aC nS d y as (a_toM B g) (fun v' M' => v' = v ∧ M' = a_toM B g') (fun _ _ => False)) {rt : Option FieldType} {cd : List aE} {post : Option aV → aM → Prop} {px : Nat → aM → Prop} {K : aK}
    (hK : ∀ pc L S M, a_wp d nS (fun y as M P => aC nS d y as M P (fun _ _ => False)) rt cd post px K pc L S M → K pc L S M) : ∀ (f pc : Nat) (L : aL) (S : List aV) (g : aG) (o : (Option aV × aG) ⊕ (Nat × aG)), a_lp cal d rt cd f pc L S g = some o → a_oP post px B o → K pc L S (a_toM B g) := by
  intro f
  induction f with
  | zero => intro pc L S g o h; cases h
  | succ f ih =>
    intro pc L S g o h ho
    refine hK _ _ _ _ ?_
    unfold a_lp at h
    unfold a_wp
    cases hf : a_fnd cd pc with
    | none => rw [hf] at h; cases h
    | some ee =>
    obtain ⟨i, x, y, c, t, nx⟩ := ee
    rw [hf] at h
    dsimp only at h ⊢
    refine a_exS ?_
    generalize a_st d rt i x y c t nx L S g = q at h ⊢
    rcases q with _ | ⟨pc', L', S', ga, gb⟩ | ⟨v, g'⟩ | ⟨x', g'⟩ | ⟨x', y', nx'⟩
    · cases h
    · exact ih _ _ _ _ _ h ho
    · cases h
      exact ho
    · cases h
      exact ho
    · dsimp only at h
      cases hc : cal x' (S.take y').reverse g with
      | none => rw [hc] at h; cases h
      | some r =>
        rw [hc] at h
        rcases r with ⟨v, ga, gb⟩ | ⟨x9, g'⟩
        · dsimp only at h
          rw [a_fL_eq] at h
          refine ⟨_, hcal _ _ _ _ _ hc, fun v' M' hv => ?_⟩
          obtain ⟨rfl, rfl⟩ := hv
          exact ih _ _ _ _ _ h ho
        · cases h
theorem a_run_all {nS : Nat} {B : aM} {post : Option aV → aM → Prop} {px : Nat → aM → Prop} : ∀ (d y : Nat) (as : List aV) (g : aG) (o : (Option aV × aG) ⊕ (Nat × aG)), a_run d y as g = some o → a_oP post px B o → aC nS d y as (a_toM B g) post px := by
  intro d
  induction d generalizing post px with
  | zero => intro y as g o h; cases h
  | succ d ih =>
    intro y as g o h ho
    unfold a_run at h
    unfold aC
    cases hm : a_mt[y]? with
    | none => rw [hm] at h; cases h
    | some mm =>
    obtain ⟨nm, b, nL, rt, st, ci, na, own, ps, cd⟩ := mm
    rw [hm] at h
    dsimp only at h ⊢
    cases hw : Nat.ble (a_ent as).length nL with
    | false => rw [hw] at h; cases h
    | true =>
      rw [hw, cond_true, a_fL_eq] at h
      exact ⟨rfl, fun K hK _ => a_lp_ok (fun y as g v g' hc => ih _ _ _ _ hc ⟨rfl, rfl⟩) hK _ _ _ _ _ _ h ho⟩
/-- a run that returns is a contract -/
theorem a_run_ok {nS d y : Nat} {B : aM} {as : List aV} {g g' : aG} {v : Option aV} (h : a_run d y as g = some (.inl (v, g'))) : aC nS d y as (a_toM B g) (fun v' M' => v' = v ∧ M' = a_toM B g') (fun _ _ => False) := a_run_all d y as g _ h ⟨rfl, rfl⟩
theorem a_run_ox {nS d y : Nat} {B : aM} {as : List aV} {g g' : aG} {x : Nat} (h : a_run d y as g = some (.inr (x, g'))) : aC nS d y as (a_toM B g) (fun _ _ => False) (fun x' M' => x' = x ∧ M' = a_toM B g') := a_run_all d y as g _ h ⟨rfl, rfl⟩
/-- whether a run returns with v -/
def a_is (o : aO) (v : Option aV) : Bool := match o with
  | some (.inl (v', _)) => decide (v' = v)
  | _ => false
