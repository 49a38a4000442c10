/-! what a program checks of the tables -/
def a_tbl : List Cond := lw_tbl.filter goodWord
theorem a_tbl_in {w : Cond} {p : Nat} (h : lw_tbl[p]? = some w) (hg : goodWord w = true) : w ∈ a_tbl := List.mem_filter.mpr ⟨List.mem_of_getElem? h, hg⟩
def a_w (p : Nat) (w : Cond) : Bool := decide (lw_tbl[p]? = some w) && goodWord w
theorem a_w_in {w : Cond} {p : Nat} (h : a_w p w = true) : w ∈ a_tbl := by
  simp only [a_w, Bool.and_eq_true, decide_eq_true_eq] at h
  exact a_tbl_in h.1 h.2
def a_cls (k : Nat) : String := (a_cn[k]?).getD ""
def a_flW (q : Nat × Nat × Nat × Nat × Nat) : Bool := match vwCl[q.2.2.1]? with
  | some (_, T, N) => Nat.blt q.2.2.2.1 N && a_w q.2.2.2.2 (.fieldLink (a_cls q.1) q.2.1 (T q.2.2.2.1).1 (T q.2.2.2.1).2.1 (T q.2.2.2.1).2.2.1)
  | none => false
def a_mlW (q : Nat × Nat × Nat × Nat) : Bool := match a_mt[q.2.2.1]? with
  | some (nm, _) => a_w q.2.2.2 (.methodLink (a_cls q.1) q.2.1 nm)
  | none => false
def a_cnW (q : Nat × Nat × Int32 × Nat) : Bool := a_w q.2.2.2 (.constant (a_cls q.1) q.2.1 q.2.2.1)
def a_ynm (x : Nat) : MethodName := bif Nat.beq x 900 then yJ0_length_8abf5 else bif Nat.beq x 902 then Lib.Math.max.name else yJ0_charAt_5068e
def a_slW (q : Nat × Nat × Nat × Nat) : Bool := a_w q.2.2.2 (.methodLink (a_cls q.1) q.2.1 (a_ynm q.2.2.1))
theorem a_flT_ok : a_flT.all a_flW = true := by decide +kernel
theorem a_mlT_ok : a_mlT.all a_mlW = true := by decide +kernel
theorem a_cnT_ok : a_cnT.all a_cnW = true := by decide +kernel
theorem a_slT_ok : a_slT.all a_slW = true := by decide +kernel
def a_pfB (y x : Nat) (t : List Nat) : Bool := match vwCl[y]? with
  | some (_, T, _) => !(T x).2.2.2 && (match t with
    | [] => decide ((T x).2.2.1 = "I")
    | _ => decide ((T x).2.2.1 = "Z"))
  | none => false
def a_thD (b : ByteArray) (pc y ic x : Nat) : Bool := (decide (decode b (pc + 4) = .ok (.ldc y, 2)) && decide (decode b (pc + 6) = .ok (.invokespecial ic, 3)) && decide (decode b (pc + 9) = .ok (.athrow, 1))) || (!(Nat.beq x 3) && decide (decode b (pc + 4) = .ok (.ldc_w y, 3)) && decide (decode b (pc + 7) = .ok (.invokespecial ic, 3)) && decide (decode b (pc + 10) = .ok (.athrow, 1)))
theorem a_thD_ok {b : ByteArray} {pc y ic x : Nat} (h : a_thD b pc y ic x = true) : (decode b (pc + 4) = .ok (.ldc y, 2) ∧ decode b (pc + 6) = .ok (.invokespecial ic, 3) ∧ decode b (pc + 9) = .ok (.athrow, 1)) ∨ (¬ x = 3 ∧ decode b (pc + 4) = .ok (.ldc_w y, 3) ∧ decode b (pc + 7) = .ok (.invokespecial ic, 3) ∧ decode b (pc + 10) = .ok (.athrow, 1)) := by
  unfold a_thD at h
  rw [Bool.or_eq_true] at h
  rcases h with h | h
  · simp only [Bool.and_eq_true, decide_eq_true_eq] at h
    exact Or.inl ⟨h.1.1, h.1.2, h.2⟩
  · simp only [Bool.and_eq_true, decide_eq_true_eq] at h
    refine Or.inr ⟨fun z => ?_, h.1.1.2, h.1.2, h.2⟩
    have h9 := h.1.1.1
    rw [z] at h9
    cases h9
def a_ckI (b : ByteArray) (own nL pc : Nat) (e : aI) (len : Nat) : Bool :=
  match e with
  | (i, x, y, c, t, nx) =>
  let f : Nat → Bool := fun n => Nat.beq len n && Nat.beq nx (pc + n)
  match i with
  | .iconst n => f 1 && decide (Int32.ofInt n = c)
  | .bipush n => f 2 && decide ((Int8.ofInt n).toInt32 = c)
  | .sipush n => f 3 && decide ((Int16.ofInt n).toInt32 = c)
  | .ldc_w ix => f 3 && a_cnT.any (fun q => Nat.beq q.1 own && (Nat.beq q.2.1 ix && decide (q.2.2.1 = c)))
  | .ldc ix => f 2 && (match y with
    | 0 => a_cnT.any (fun q => Nat.beq q.1 own && (Nat.beq q.2.1 ix && decide (q.2.2.1 = c)))
    | _ => Nat.ble 100 x && (match a_stL[x - 100]? with
      | some (o, ix', _) => Nat.beq o own && Nat.beq ix' ix
      | none => false))
  | .lconst n => f 1 && Nat.beq n.val x
  | .iload_n n | .lload_n n | .aload_n n => f 1 && Nat.beq n.val x
  | .iload n | .lload n | .aload n => f 2 && Nat.beq n x
  | .istore_n n | .astore_n n => f 1 && Nat.beq n.val x && Nat.blt x nL
  | .istore n | .astore n => f 2 && Nat.beq n x && Nat.blt x nL
  | .lstore_n n => f 1 && Nat.beq n.val x && Nat.blt (x + 1) nL
  | .lstore n => f 2 && Nat.beq n x && Nat.blt (x + 1) nL
  | .iinc n k => f 3 && Nat.beq n x && Nat.blt x nL && decide (Int32.ofInt k = c)
  | .iadd | .isub | .imul | .iand | .ior | .ixor | .ishl | .ishr | .iushr | .idiv | .irem | .ineg | .i2l | .ladd | .lmul | .lcmp | .pop | .pop2 | .dup | .dup2 => f 1
  | .goto off => f 3 && decide ((pc : Int) + off = (x : Int))
  | .ifCond _ off => f 3 && decide ((pc : Int) + off = (x : Int))
  | .if_icmp _ off => f 3 && decide ((pc : Int) + off = (x : Int))
  | .tableswitch dflt lo hi offs => decide (lo = 0) && decide (hi + 1 = (t.length : Int)) && Nat.blt t.length 1000 && decide ((pc : Int) + dflt = (x : Int)) && decide (offs.toList.map (fun o => (pc : Int) + o) = t.map Int.ofNat)
  | .getfield ix => f 3 && a_flT.any (fun q => Nat.beq q.1 own && (Nat.beq q.2.1 ix && (Nat.beq q.2.2.1 y && Nat.beq q.2.2.2.1 x)))
  | .putfield ix => f 3 && a_flT.any (fun q => Nat.beq q.1 own && (Nat.beq q.2.1 ix && (Nat.beq q.2.2.1 y && Nat.beq q.2.2.2.1 x))) && a_pfB y x t
  | .iaload | .laload | .iastore | .lastore | .arraylength => f 1
  | .invokevirtual ix => f 3 && (bif Nat.beq x 900 || Nat.beq x 901 then a_slT.any (fun q => Nat.beq q.1 own && (Nat.beq q.2.1 ix && Nat.beq q.2.2.1 x)) else (a_mlT.any (fun q => Nat.beq q.1 own && (Nat.beq q.2.1 ix && Nat.beq q.2.2.1 x)) && (match a_mt[x]? with
    | some (_, _, _, _, st, _) => !st
    | none => false)))
  | .invokestatic ix => bif Nat.beq x 902 then f 3 && a_slT.any (fun q => Nat.beq q.1 own && (Nat.beq q.2.1 ix && Nat.beq q.2.2.1 x)) else f 3 && a_mlT.any (fun q => Nat.beq q.1 own && (Nat.beq q.2.1 ix && Nat.beq q.2.2.1 x)) && (match a_mt[x]? with
    | some (_, _, _, _, st, _) => st
    | none => false)
  | .ireturn | .lreturn | .areturn | .return_ => f 1
  | .new ik => match t with
    | [ic] => f 3 && decide (decode b (pc + 3) = .ok (.dup, 1)) && a_thD b pc y ic x && a_thT.any (fun q => Nat.beq q.1 own && (Nat.beq q.2.1 ik && (Nat.beq q.2.2.1 y && (Nat.beq q.2.2.2.1 ic && Nat.beq q.2.2.2.2 x))))
    | _ => false
  | _ => false
def a_ckM (m : aT) : Bool := match m with
  | (nm, b, nL, rt, st, ci, na, own, ps, cd) =>
    cd.all (fun e => match decode b e.1 with
      | .ok (i, len) => decide (i = e.2.1) && a_ckI b own nL e.1 e.2 len
      | _ => false) &&
    (plainName nm.cls && decide (nm.cls ≠ "java/lang/invoke/MethodHandle") && decide (nm.cls ≠ "java/lang/invoke/VarHandle") && decide ((parseMethodDescriptor nm.desc).map (fun d => d.parameters.length) = some na) && decide (a_cls own = nm.cls) && Nat.ble nL 22) &&
    (match ps with
      | [p1, p2, p3, p4] => a_w p1 (.code nm b nL rt) && a_w p4 (.initialized nm.cls) && (bif st then a_w p2 (.static nm) else (a_w p2 (.instanceMethod nm) && a_w p3 (.selects nm.cls nm nm) && (match vwCl[ci]? with
        | some (C, _, _) => decide (C = nm.cls)
        | none => false)))
      | _ => false)
theorem a_mxS : Cond.static Lib.Math.max.name ∈ a_tbl := a_w_in (p := 1345) (by decide +kernel)
theorem a_mxI : Cond.initialized "java/lang/Math" ∈ a_tbl := a_w_in (p := 115) (by decide +kernel)
theorem a_mxC : Cond.code Lib.Math.max.name Lib.Math.max.code 2 (some .int) ∈ a_tbl := a_w_in (p := 1346) (by decide +kernel)
