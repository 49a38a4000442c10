/-! a quick check of the code's rows: the bytes of an instruction -/
def q_U (b : ByteArray) (p v : Nat) : Prop := ∃ h : p < b.size, b[p].toNat = v
theorem q_u1v {b : ByteArray} {p v : Nat} (h : q_U b p v) : (Reader.u1 : Decoder Nat) b p = Except.ok (v, p + 1) := by
  obtain ⟨h1, rfl⟩ := h
  have e : (Reader.u1 : Decoder Nat) b p = (dite (p < b.size) (fun h => fun (_ : ByteArray) (_ : Nat) => (Except.ok (b[p].toNat, p + 1) : Except DecodeError (Nat × Nat))) (fun _ => fun _ _ => Except.error (HasTruncated.truncated p))) b p := by
    unfold Reader.u1
    rfl
  rw [e, dif_pos h1]
theorem q_u2v {b : ByteArray} {p v w : Nat} (h : q_U b p v) (h2 : q_U b (p + 1) w) : (Reader.u2 : Decoder Nat) b p = Except.ok (v * 256 + w, p + 2) := by
  have e : (Reader.u2 : Decoder Nat) b p = Except.bind ((Reader.u1 : Decoder Nat) b p) (fun q => Except.bind ((Reader.u1 : Decoder Nat) b q.2) (fun r => Except.ok (q.1 * 256 + r.1, r.2))) := rfl
  rw [e, q_u1v h]
  show Except.bind ((Reader.u1 : Decoder Nat) b (p + 1)) _ = _
  rw [q_u1v h2]
  rfl
theorem q_s1v {b : ByteArray} {p v : Nat} (h : q_U b p v) : (Reader.s1 : Decoder Int) b p = Except.ok (Reader.signed 8 v, p + 1) := by
  have e : (Reader.s1 : Decoder Int) b p = Except.bind ((Reader.u1 : Decoder Nat) b p) (fun q => Except.ok (Reader.signed 8 q.1, q.2)) := rfl
  rw [e, q_u1v h]
  rfl
theorem q_s2v {b : ByteArray} {p v w : Nat} (h : q_U b p v) (h2 : q_U b (p + 1) w) : (Reader.s2 : Decoder Int) b p = Except.ok (Reader.signed 16 (v * 256 + w), p + 2) := by
  have e : (Reader.s2 : Decoder Int) b p = Except.bind ((Reader.u2 : Decoder Nat) b p) (fun q => Except.ok (Reader.signed 16 q.1, q.2)) := rfl
  rw [e, q_u2v h h2]
  rfl
theorem q_bd {α β : Type} {b : ByteArray} {p q : Nat} {v : β} {x : Decoder β} (h : x b p = Except.ok (v, q)) (f : β → Decoder α) : (x >>= f).runAt b p = (f v).runAt b q := by
  have e : (x >>= f : Decoder α).runAt b p = Except.bind (x b p) (fun r => f r.1 b r.2) := rfl
  rw [e, h]
  rfl
theorem q_u1 {α : Type} {b : ByteArray} {p v : Nat} (h : q_U b p v) (f : Nat → Decoder α) : (Reader.u1 >>= f).runAt b p = (f v).runAt b (p + 1) := q_bd (q_u1v h) f
theorem q_u2 {α : Type} {b : ByteArray} {p v w : Nat} (h : q_U b p v) (h2 : q_U b (p + 1) w) (f : Nat → Decoder α) : (Reader.u2 >>= f).runAt b p = (f (v * 256 + w)).runAt b (p + 2) := q_bd (q_u2v h h2) f
theorem q_s1 {α : Type} {b : ByteArray} {p v : Nat} (h : q_U b p v) (f : Int → Decoder α) : (Reader.s1 >>= f).runAt b p = (f (Reader.signed 8 v)).runAt b (p + 1) := q_bd (q_s1v h) f
theorem q_s2 {α : Type} {b : ByteArray} {p v w : Nat} (h : q_U b p v) (h2 : q_U b (p + 1) w) (f : Int → Decoder α) : (Reader.s2 >>= f).runAt b p = (f (Reader.signed 16 (v * 256 + w))).runAt b (p + 2) := q_bd (q_s2v h h2) f
theorem q_dec {b : ByteArray} {pc nx : Nat} {i : Instr} (h : (Decoder.instr pc).runAt b pc = .ok (i, nx)) : decode b pc = .ok (i, nx - pc) := by
  unfold decode
  rw [h]
  rfl

set_option maxRecDepth 20000 in
theorem q_iaload {b : ByteArray} {pc : Nat} (h : q_U b pc 46) : decode b pc = .ok (.iaload, 1) := by
  have e : (Decoder.instr pc).runAt b pc = .ok (.iaload, pc + 1) := by
    unfold Decoder.instr
    rw [q_u1 h]
    rfl
  rw [q_dec e]
  rw [Nat.add_sub_cancel_left]
set_option maxRecDepth 20000 in
theorem q_laload {b : ByteArray} {pc : Nat} (h : q_U b pc 47) : decode b pc = .ok (.laload, 1) := by
  have e : (Decoder.instr pc).runAt b pc = .ok (.laload, pc + 1) := by
    unfold Decoder.instr
    rw [q_u1 h]
    rfl
  rw [q_dec e]
  rw [Nat.add_sub_cancel_left]
set_option maxRecDepth 20000 in
theorem q_iastore {b : ByteArray} {pc : Nat} (h : q_U b pc 79) : decode b pc = .ok (.iastore, 1) := by
  have e : (Decoder.instr pc).runAt b pc = .ok (.iastore, pc + 1) := by
    unfold Decoder.instr
    rw [q_u1 h]
    rfl
  rw [q_dec e]
  rw [Nat.add_sub_cancel_left]
set_option maxRecDepth 20000 in
theorem q_lastore {b : ByteArray} {pc : Nat} (h : q_U b pc 80) : decode b pc = .ok (.lastore, 1) := by
  have e : (Decoder.instr pc).runAt b pc = .ok (.lastore, pc + 1) := by
    unfold Decoder.instr
    rw [q_u1 h]
    rfl
  rw [q_dec e]
  rw [Nat.add_sub_cancel_left]
set_option maxRecDepth 20000 in
theorem q_pop {b : ByteArray} {pc : Nat} (h : q_U b pc 87) : decode b pc = .ok (.pop, 1) := by
  have e : (Decoder.instr pc).runAt b pc = .ok (.pop, pc + 1) := by
    unfold Decoder.instr
    rw [q_u1 h]
    rfl
  rw [q_dec e]
  rw [Nat.add_sub_cancel_left]
set_option maxRecDepth 20000 in
theorem q_pop2 {b : ByteArray} {pc : Nat} (h : q_U b pc 88) : decode b pc = .ok (.pop2, 1) := by
  have e : (Decoder.instr pc).runAt b pc = .ok (.pop2, pc + 1) := by
    unfold Decoder.instr
    rw [q_u1 h]
    rfl
  rw [q_dec e]
  rw [Nat.add_sub_cancel_left]
set_option maxRecDepth 20000 in
theorem q_dup {b : ByteArray} {pc : Nat} (h : q_U b pc 89) : decode b pc = .ok (.dup, 1) := by
  have e : (Decoder.instr pc).runAt b pc = .ok (.dup, pc + 1) := by
    unfold Decoder.instr
    rw [q_u1 h]
    rfl
  rw [q_dec e]
  rw [Nat.add_sub_cancel_left]
set_option maxRecDepth 20000 in
theorem q_dup2 {b : ByteArray} {pc : Nat} (h : q_U b pc 92) : decode b pc = .ok (.dup2, 1) := by
  have e : (Decoder.instr pc).runAt b pc = .ok (.dup2, pc + 1) := by
    unfold Decoder.instr
    rw [q_u1 h]
    rfl
  rw [q_dec e]
  rw [Nat.add_sub_cancel_left]
set_option maxRecDepth 20000 in
theorem q_iadd {b : ByteArray} {pc : Nat} (h : q_U b pc 96) : decode b pc = .ok (.iadd, 1) := by
  have e : (Decoder.instr pc).runAt b pc = .ok (.iadd, pc + 1) := by
    unfold Decoder.instr
    rw [q_u1 h]
    rfl
  rw [q_dec e]
  rw [Nat.add_sub_cancel_left]
set_option maxRecDepth 20000 in
theorem q_ladd {b : ByteArray} {pc : Nat} (h : q_U b pc 97) : decode b pc = .ok (.ladd, 1) := by
  have e : (Decoder.instr pc).runAt b pc = .ok (.ladd, pc + 1) := by
    unfold Decoder.instr
    rw [q_u1 h]
    rfl
  rw [q_dec e]
  rw [Nat.add_sub_cancel_left]
set_option maxRecDepth 20000 in
theorem q_isub {b : ByteArray} {pc : Nat} (h : q_U b pc 100) : decode b pc = .ok (.isub, 1) := by
  have e : (Decoder.instr pc).runAt b pc = .ok (.isub, pc + 1) := by
    unfold Decoder.instr
    rw [q_u1 h]
    rfl
  rw [q_dec e]
  rw [Nat.add_sub_cancel_left]
set_option maxRecDepth 20000 in
theorem q_imul {b : ByteArray} {pc : Nat} (h : q_U b pc 104) : decode b pc = .ok (.imul, 1) := by
  have e : (Decoder.instr pc).runAt b pc = .ok (.imul, pc + 1) := by
    unfold Decoder.instr
    rw [q_u1 h]
    rfl
  rw [q_dec e]
  rw [Nat.add_sub_cancel_left]
set_option maxRecDepth 20000 in
theorem q_lmul {b : ByteArray} {pc : Nat} (h : q_U b pc 105) : decode b pc = .ok (.lmul, 1) := by
  have e : (Decoder.instr pc).runAt b pc = .ok (.lmul, pc + 1) := by
    unfold Decoder.instr
    rw [q_u1 h]
    rfl
  rw [q_dec e]
  rw [Nat.add_sub_cancel_left]
set_option maxRecDepth 20000 in
theorem q_idiv {b : ByteArray} {pc : Nat} (h : q_U b pc 108) : decode b pc = .ok (.idiv, 1) := by
  have e : (Decoder.instr pc).runAt b pc = .ok (.idiv, pc + 1) := by
    unfold Decoder.instr
    rw [q_u1 h]
    rfl
  rw [q_dec e]
  rw [Nat.add_sub_cancel_left]
set_option maxRecDepth 20000 in
theorem q_irem {b : ByteArray} {pc : Nat} (h : q_U b pc 112) : decode b pc = .ok (.irem, 1) := by
  have e : (Decoder.instr pc).runAt b pc = .ok (.irem, pc + 1) := by
    unfold Decoder.instr
    rw [q_u1 h]
    rfl
  rw [q_dec e]
  rw [Nat.add_sub_cancel_left]
set_option maxRecDepth 20000 in
theorem q_ineg {b : ByteArray} {pc : Nat} (h : q_U b pc 116) : decode b pc = .ok (.ineg, 1) := by
  have e : (Decoder.instr pc).runAt b pc = .ok (.ineg, pc + 1) := by
    unfold Decoder.instr
    rw [q_u1 h]
    rfl
  rw [q_dec e]
  rw [Nat.add_sub_cancel_left]
set_option maxRecDepth 20000 in
theorem q_ishl {b : ByteArray} {pc : Nat} (h : q_U b pc 120) : decode b pc = .ok (.ishl, 1) := by
  have e : (Decoder.instr pc).runAt b pc = .ok (.ishl, pc + 1) := by
    unfold Decoder.instr
    rw [q_u1 h]
    rfl
  rw [q_dec e]
  rw [Nat.add_sub_cancel_left]
set_option maxRecDepth 20000 in
theorem q_ishr {b : ByteArray} {pc : Nat} (h : q_U b pc 122) : decode b pc = .ok (.ishr, 1) := by
  have e : (Decoder.instr pc).runAt b pc = .ok (.ishr, pc + 1) := by
    unfold Decoder.instr
    rw [q_u1 h]
    rfl
  rw [q_dec e]
  rw [Nat.add_sub_cancel_left]
set_option maxRecDepth 20000 in
theorem q_iushr {b : ByteArray} {pc : Nat} (h : q_U b pc 124) : decode b pc = .ok (.iushr, 1) := by
  have e : (Decoder.instr pc).runAt b pc = .ok (.iushr, pc + 1) := by
    unfold Decoder.instr
    rw [q_u1 h]
    rfl
  rw [q_dec e]
  rw [Nat.add_sub_cancel_left]
set_option maxRecDepth 20000 in
theorem q_iand {b : ByteArray} {pc : Nat} (h : q_U b pc 126) : decode b pc = .ok (.iand, 1) := by
  have e : (Decoder.instr pc).runAt b pc = .ok (.iand, pc + 1) := by
    unfold Decoder.instr
    rw [q_u1 h]
    rfl
  rw [q_dec e]
  rw [Nat.add_sub_cancel_left]
set_option maxRecDepth 20000 in
theorem q_ior {b : ByteArray} {pc : Nat} (h : q_U b pc 128) : decode b pc = .ok (.ior, 1) := by
  have e : (Decoder.instr pc).runAt b pc = .ok (.ior, pc + 1) := by
    unfold Decoder.instr
    rw [q_u1 h]
    rfl
  rw [q_dec e]
  rw [Nat.add_sub_cancel_left]
set_option maxRecDepth 20000 in
theorem q_ixor {b : ByteArray} {pc : Nat} (h : q_U b pc 130) : decode b pc = .ok (.ixor, 1) := by
  have e : (Decoder.instr pc).runAt b pc = .ok (.ixor, pc + 1) := by
    unfold Decoder.instr
    rw [q_u1 h]
    rfl
  rw [q_dec e]
  rw [Nat.add_sub_cancel_left]
set_option maxRecDepth 20000 in
theorem q_i2l {b : ByteArray} {pc : Nat} (h : q_U b pc 133) : decode b pc = .ok (.i2l, 1) := by
  have e : (Decoder.instr pc).runAt b pc = .ok (.i2l, pc + 1) := by
    unfold Decoder.instr
    rw [q_u1 h]
    rfl
  rw [q_dec e]
  rw [Nat.add_sub_cancel_left]
set_option maxRecDepth 20000 in
theorem q_lcmp {b : ByteArray} {pc : Nat} (h : q_U b pc 148) : decode b pc = .ok (.lcmp, 1) := by
  have e : (Decoder.instr pc).runAt b pc = .ok (.lcmp, pc + 1) := by
    unfold Decoder.instr
    rw [q_u1 h]
    rfl
  rw [q_dec e]
  rw [Nat.add_sub_cancel_left]
set_option maxRecDepth 20000 in
theorem q_ireturn {b : ByteArray} {pc : Nat} (h : q_U b pc 172) : decode b pc = .ok (.ireturn, 1) := by
  have e : (Decoder.instr pc).runAt b pc = .ok (.ireturn, pc + 1) := by
    unfold Decoder.instr
    rw [q_u1 h]
    rfl
  rw [q_dec e]
  rw [Nat.add_sub_cancel_left]
set_option maxRecDepth 20000 in
theorem q_lreturn {b : ByteArray} {pc : Nat} (h : q_U b pc 173) : decode b pc = .ok (.lreturn, 1) := by
  have e : (Decoder.instr pc).runAt b pc = .ok (.lreturn, pc + 1) := by
    unfold Decoder.instr
    rw [q_u1 h]
    rfl
  rw [q_dec e]
  rw [Nat.add_sub_cancel_left]
set_option maxRecDepth 20000 in
theorem q_areturn {b : ByteArray} {pc : Nat} (h : q_U b pc 176) : decode b pc = .ok (.areturn, 1) := by
  have e : (Decoder.instr pc).runAt b pc = .ok (.areturn, pc + 1) := by
    unfold Decoder.instr
    rw [q_u1 h]
    rfl
  rw [q_dec e]
  rw [Nat.add_sub_cancel_left]
set_option maxRecDepth 20000 in
theorem q_return_ {b : ByteArray} {pc : Nat} (h : q_U b pc 177) : decode b pc = .ok (.return_, 1) := by
  have e : (Decoder.instr pc).runAt b pc = .ok (.return_, pc + 1) := by
    unfold Decoder.instr
    rw [q_u1 h]
    rfl
  rw [q_dec e]
  rw [Nat.add_sub_cancel_left]
set_option maxRecDepth 20000 in
theorem q_arraylength {b : ByteArray} {pc : Nat} (h : q_U b pc 190) : decode b pc = .ok (.arraylength, 1) := by
  have e : (Decoder.instr pc).runAt b pc = .ok (.arraylength, pc + 1) := by
    unfold Decoder.instr
    rw [q_u1 h]
    rfl
  rw [q_dec e]
  rw [Nat.add_sub_cancel_left]
set_option maxRecDepth 20000 in
theorem q_ldc {b : ByteArray} {pc n : Nat} (h : q_U b pc 18) (h1 : q_U b (pc + 1) n) : decode b pc = .ok (.ldc n, 2) := by
  have e : (Decoder.instr pc).runAt b pc = .ok (.ldc n, pc + 2) := by
    unfold Decoder.instr
    rw [q_u1 h]
    exact (q_u1 h1 (fun n => (Pure.pure (Instr.ldc n) : Decoder Instr))).trans rfl
  rw [q_dec e]
  rw [Nat.add_sub_cancel_left]
set_option maxRecDepth 20000 in
theorem q_iload {b : ByteArray} {pc n : Nat} (h : q_U b pc 21) (h1 : q_U b (pc + 1) n) : decode b pc = .ok (.iload n, 2) := by
  have e : (Decoder.instr pc).runAt b pc = .ok (.iload n, pc + 2) := by
    unfold Decoder.instr
    rw [q_u1 h]
    exact (q_u1 h1 (fun n => (Pure.pure (Instr.iload n) : Decoder Instr))).trans rfl
  rw [q_dec e]
  rw [Nat.add_sub_cancel_left]
set_option maxRecDepth 20000 in
theorem q_lload {b : ByteArray} {pc n : Nat} (h : q_U b pc 22) (h1 : q_U b (pc + 1) n) : decode b pc = .ok (.lload n, 2) := by
  have e : (Decoder.instr pc).runAt b pc = .ok (.lload n, pc + 2) := by
    unfold Decoder.instr
    rw [q_u1 h]
    exact (q_u1 h1 (fun n => (Pure.pure (Instr.lload n) : Decoder Instr))).trans rfl
  rw [q_dec e]
  rw [Nat.add_sub_cancel_left]
set_option maxRecDepth 20000 in
theorem q_aload {b : ByteArray} {pc n : Nat} (h : q_U b pc 25) (h1 : q_U b (pc + 1) n) : decode b pc = .ok (.aload n, 2) := by
  have e : (Decoder.instr pc).runAt b pc = .ok (.aload n, pc + 2) := by
    unfold Decoder.instr
    rw [q_u1 h]
    exact (q_u1 h1 (fun n => (Pure.pure (Instr.aload n) : Decoder Instr))).trans rfl
  rw [q_dec e]
  rw [Nat.add_sub_cancel_left]
set_option maxRecDepth 20000 in
theorem q_istore {b : ByteArray} {pc n : Nat} (h : q_U b pc 54) (h1 : q_U b (pc + 1) n) : decode b pc = .ok (.istore n, 2) := by
  have e : (Decoder.instr pc).runAt b pc = .ok (.istore n, pc + 2) := by
    unfold Decoder.instr
    rw [q_u1 h]
    exact (q_u1 h1 (fun n => (Pure.pure (Instr.istore n) : Decoder Instr))).trans rfl
  rw [q_dec e]
  rw [Nat.add_sub_cancel_left]
set_option maxRecDepth 20000 in
theorem q_lstore {b : ByteArray} {pc n : Nat} (h : q_U b pc 55) (h1 : q_U b (pc + 1) n) : decode b pc = .ok (.lstore n, 2) := by
  have e : (Decoder.instr pc).runAt b pc = .ok (.lstore n, pc + 2) := by
    unfold Decoder.instr
    rw [q_u1 h]
    exact (q_u1 h1 (fun n => (Pure.pure (Instr.lstore n) : Decoder Instr))).trans rfl
  rw [q_dec e]
  rw [Nat.add_sub_cancel_left]
set_option maxRecDepth 20000 in
theorem q_astore {b : ByteArray} {pc n : Nat} (h : q_U b pc 58) (h1 : q_U b (pc + 1) n) : decode b pc = .ok (.astore n, 2) := by
  have e : (Decoder.instr pc).runAt b pc = .ok (.astore n, pc + 2) := by
    unfold Decoder.instr
    rw [q_u1 h]
    exact (q_u1 h1 (fun n => (Pure.pure (Instr.astore n) : Decoder Instr))).trans rfl
  rw [q_dec e]
  rw [Nat.add_sub_cancel_left]
set_option maxRecDepth 20000 in
theorem q_ldc_w {b : ByteArray} {pc n m : Nat} (h : q_U b pc 19) (h1 : q_U b (pc + 1) n) (h2 : q_U b (pc + 2) m) : decode b pc = .ok (.ldc_w (n * 256 + m), 3) := by
  have e : (Decoder.instr pc).runAt b pc = .ok (.ldc_w (n * 256 + m), pc + 3) := by
    unfold Decoder.instr
    rw [q_u1 h]
    exact (q_u2 h1 h2 (fun n => (Pure.pure (Instr.ldc_w n) : Decoder Instr))).trans rfl
  rw [q_dec e]
  rw [Nat.add_sub_cancel_left]
set_option maxRecDepth 20000 in
theorem q_getfield {b : ByteArray} {pc n m : Nat} (h : q_U b pc 180) (h1 : q_U b (pc + 1) n) (h2 : q_U b (pc + 2) m) : decode b pc = .ok (.getfield (n * 256 + m), 3) := by
  have e : (Decoder.instr pc).runAt b pc = .ok (.getfield (n * 256 + m), pc + 3) := by
    unfold Decoder.instr
    rw [q_u1 h]
    exact (q_u2 h1 h2 (fun n => (Pure.pure (Instr.getfield n) : Decoder Instr))).trans rfl
  rw [q_dec e]
  rw [Nat.add_sub_cancel_left]
set_option maxRecDepth 20000 in
theorem q_putfield {b : ByteArray} {pc n m : Nat} (h : q_U b pc 181) (h1 : q_U b (pc + 1) n) (h2 : q_U b (pc + 2) m) : decode b pc = .ok (.putfield (n * 256 + m), 3) := by
  have e : (Decoder.instr pc).runAt b pc = .ok (.putfield (n * 256 + m), pc + 3) := by
    unfold Decoder.instr
    rw [q_u1 h]
    exact (q_u2 h1 h2 (fun n => (Pure.pure (Instr.putfield n) : Decoder Instr))).trans rfl
  rw [q_dec e]
  rw [Nat.add_sub_cancel_left]
set_option maxRecDepth 20000 in
theorem q_invokevirtual {b : ByteArray} {pc n m : Nat} (h : q_U b pc 182) (h1 : q_U b (pc + 1) n) (h2 : q_U b (pc + 2) m) : decode b pc = .ok (.invokevirtual (n * 256 + m), 3) := by
  have e : (Decoder.instr pc).runAt b pc = .ok (.invokevirtual (n * 256 + m), pc + 3) := by
    unfold Decoder.instr
    rw [q_u1 h]
    exact (q_u2 h1 h2 (fun n => (Pure.pure (Instr.invokevirtual n) : Decoder Instr))).trans rfl
  rw [q_dec e]
  rw [Nat.add_sub_cancel_left]
set_option maxRecDepth 20000 in
theorem q_invokestatic {b : ByteArray} {pc n m : Nat} (h : q_U b pc 184) (h1 : q_U b (pc + 1) n) (h2 : q_U b (pc + 2) m) : decode b pc = .ok (.invokestatic (n * 256 + m), 3) := by
  have e : (Decoder.instr pc).runAt b pc = .ok (.invokestatic (n * 256 + m), pc + 3) := by
    unfold Decoder.instr
    rw [q_u1 h]
    exact (q_u2 h1 h2 (fun n => (Pure.pure (Instr.invokestatic n) : Decoder Instr))).trans rfl
  rw [q_dec e]
  rw [Nat.add_sub_cancel_left]
set_option maxRecDepth 20000 in
theorem q_new {b : ByteArray} {pc n m : Nat} (h : q_U b pc 187) (h1 : q_U b (pc + 1) n) (h2 : q_U b (pc + 2) m) : decode b pc = .ok (.new (n * 256 + m), 3) := by
  have e : (Decoder.instr pc).runAt b pc = .ok (.new (n * 256 + m), pc + 3) := by
    unfold Decoder.instr
    rw [q_u1 h]
    exact (q_u2 h1 h2 (fun n => (Pure.pure (Instr.new n) : Decoder Instr))).trans rfl
  rw [q_dec e]
  rw [Nat.add_sub_cancel_left]
set_option maxRecDepth 20000 in
theorem q_iload_n0 {b : ByteArray} {pc : Nat} (h : q_U b pc 26) : decode b pc = .ok (.iload_n 0, 1) := by
  have e : (Decoder.instr pc).runAt b pc = .ok (.iload_n 0, pc + 1) := by
    unfold Decoder.instr
    rw [q_u1 h]
    rfl
  rw [q_dec e]
  rw [Nat.add_sub_cancel_left]
set_option maxRecDepth 20000 in
theorem q_iload_n1 {b : ByteArray} {pc : Nat} (h : q_U b pc 27) : decode b pc = .ok (.iload_n 1, 1) := by
  have e : (Decoder.instr pc).runAt b pc = .ok (.iload_n 1, pc + 1) := by
    unfold Decoder.instr
    rw [q_u1 h]
    rfl
  rw [q_dec e]
  rw [Nat.add_sub_cancel_left]
set_option maxRecDepth 20000 in
theorem q_iload_n2 {b : ByteArray} {pc : Nat} (h : q_U b pc 28) : decode b pc = .ok (.iload_n 2, 1) := by
  have e : (Decoder.instr pc).runAt b pc = .ok (.iload_n 2, pc + 1) := by
    unfold Decoder.instr
    rw [q_u1 h]
    rfl
  rw [q_dec e]
  rw [Nat.add_sub_cancel_left]
set_option maxRecDepth 20000 in
theorem q_iload_n3 {b : ByteArray} {pc : Nat} (h : q_U b pc 29) : decode b pc = .ok (.iload_n 3, 1) := by
  have e : (Decoder.instr pc).runAt b pc = .ok (.iload_n 3, pc + 1) := by
    unfold Decoder.instr
    rw [q_u1 h]
    rfl
  rw [q_dec e]
  rw [Nat.add_sub_cancel_left]
set_option maxRecDepth 20000 in
theorem q_lload_n0 {b : ByteArray} {pc : Nat} (h : q_U b pc 30) : decode b pc = .ok (.lload_n 0, 1) := by
  have e : (Decoder.instr pc).runAt b pc = .ok (.lload_n 0, pc + 1) := by
    unfold Decoder.instr
    rw [q_u1 h]
    rfl
  rw [q_dec e]
  rw [Nat.add_sub_cancel_left]
set_option maxRecDepth 20000 in
theorem q_lload_n1 {b : ByteArray} {pc : Nat} (h : q_U b pc 31) : decode b pc = .ok (.lload_n 1, 1) := by
  have e : (Decoder.instr pc).runAt b pc = .ok (.lload_n 1, pc + 1) := by
    unfold Decoder.instr
    rw [q_u1 h]
    rfl
  rw [q_dec e]
  rw [Nat.add_sub_cancel_left]
set_option maxRecDepth 20000 in
theorem q_lload_n2 {b : ByteArray} {pc : Nat} (h : q_U b pc 32) : decode b pc = .ok (.lload_n 2, 1) := by
  have e : (Decoder.instr pc).runAt b pc = .ok (.lload_n 2, pc + 1) := by
    unfold Decoder.instr
    rw [q_u1 h]
    rfl
  rw [q_dec e]
  rw [Nat.add_sub_cancel_left]
set_option maxRecDepth 20000 in
theorem q_lload_n3 {b : ByteArray} {pc : Nat} (h : q_U b pc 33) : decode b pc = .ok (.lload_n 3, 1) := by
  have e : (Decoder.instr pc).runAt b pc = .ok (.lload_n 3, pc + 1) := by
    unfold Decoder.instr
    rw [q_u1 h]
    rfl
  rw [q_dec e]
  rw [Nat.add_sub_cancel_left]
set_option maxRecDepth 20000 in
theorem q_aload_n0 {b : ByteArray} {pc : Nat} (h : q_U b pc 42) : decode b pc = .ok (.aload_n 0, 1) := by
  have e : (Decoder.instr pc).runAt b pc = .ok (.aload_n 0, pc + 1) := by
    unfold Decoder.instr
    rw [q_u1 h]
    rfl
  rw [q_dec e]
  rw [Nat.add_sub_cancel_left]
set_option maxRecDepth 20000 in
theorem q_aload_n1 {b : ByteArray} {pc : Nat} (h : q_U b pc 43) : decode b pc = .ok (.aload_n 1, 1) := by
  have e : (Decoder.instr pc).runAt b pc = .ok (.aload_n 1, pc + 1) := by
    unfold Decoder.instr
    rw [q_u1 h]
    rfl
  rw [q_dec e]
  rw [Nat.add_sub_cancel_left]
set_option maxRecDepth 20000 in
theorem q_aload_n2 {b : ByteArray} {pc : Nat} (h : q_U b pc 44) : decode b pc = .ok (.aload_n 2, 1) := by
  have e : (Decoder.instr pc).runAt b pc = .ok (.aload_n 2, pc + 1) := by
    unfold Decoder.instr
    rw [q_u1 h]
    rfl
  rw [q_dec e]
  rw [Nat.add_sub_cancel_left]
set_option maxRecDepth 20000 in
theorem q_aload_n3 {b : ByteArray} {pc : Nat} (h : q_U b pc 45) : decode b pc = .ok (.aload_n 3, 1) := by
  have e : (Decoder.instr pc).runAt b pc = .ok (.aload_n 3, pc + 1) := by
    unfold Decoder.instr
    rw [q_u1 h]
    rfl
  rw [q_dec e]
  rw [Nat.add_sub_cancel_left]
set_option maxRecDepth 20000 in
theorem q_istore_n0 {b : ByteArray} {pc : Nat} (h : q_U b pc 59) : decode b pc = .ok (.istore_n 0, 1) := by
  have e : (Decoder.instr pc).runAt b pc = .ok (.istore_n 0, pc + 1) := by
    unfold Decoder.instr
    rw [q_u1 h]
    rfl
  rw [q_dec e]
  rw [Nat.add_sub_cancel_left]
set_option maxRecDepth 20000 in
theorem q_istore_n1 {b : ByteArray} {pc : Nat} (h : q_U b pc 60) : decode b pc = .ok (.istore_n 1, 1) := by
  have e : (Decoder.instr pc).runAt b pc = .ok (.istore_n 1, pc + 1) := by
    unfold Decoder.instr
    rw [q_u1 h]
    rfl
  rw [q_dec e]
  rw [Nat.add_sub_cancel_left]
set_option maxRecDepth 20000 in
theorem q_istore_n2 {b : ByteArray} {pc : Nat} (h : q_U b pc 61) : decode b pc = .ok (.istore_n 2, 1) := by
  have e : (Decoder.instr pc).runAt b pc = .ok (.istore_n 2, pc + 1) := by
    unfold Decoder.instr
    rw [q_u1 h]
    rfl
  rw [q_dec e]
  rw [Nat.add_sub_cancel_left]
set_option maxRecDepth 20000 in
theorem q_istore_n3 {b : ByteArray} {pc : Nat} (h : q_U b pc 62) : decode b pc = .ok (.istore_n 3, 1) := by
  have e : (Decoder.instr pc).runAt b pc = .ok (.istore_n 3, pc + 1) := by
    unfold Decoder.instr
    rw [q_u1 h]
    rfl
  rw [q_dec e]
  rw [Nat.add_sub_cancel_left]
set_option maxRecDepth 20000 in
theorem q_lstore_n0 {b : ByteArray} {pc : Nat} (h : q_U b pc 63) : decode b pc = .ok (.lstore_n 0, 1) := by
  have e : (Decoder.instr pc).runAt b pc = .ok (.lstore_n 0, pc + 1) := by
    unfold Decoder.instr
    rw [q_u1 h]
    rfl
  rw [q_dec e]
  rw [Nat.add_sub_cancel_left]
set_option maxRecDepth 20000 in
theorem q_lstore_n1 {b : ByteArray} {pc : Nat} (h : q_U b pc 64) : decode b pc = .ok (.lstore_n 1, 1) := by
  have e : (Decoder.instr pc).runAt b pc = .ok (.lstore_n 1, pc + 1) := by
    unfold Decoder.instr
    rw [q_u1 h]
    rfl
  rw [q_dec e]
  rw [Nat.add_sub_cancel_left]
set_option maxRecDepth 20000 in
theorem q_lstore_n2 {b : ByteArray} {pc : Nat} (h : q_U b pc 65) : decode b pc = .ok (.lstore_n 2, 1) := by
  have e : (Decoder.instr pc).runAt b pc = .ok (.lstore_n 2, pc + 1) := by
    unfold Decoder.instr
    rw [q_u1 h]
    rfl
  rw [q_dec e]
  rw [Nat.add_sub_cancel_left]
set_option maxRecDepth 20000 in
theorem q_lstore_n3 {b : ByteArray} {pc : Nat} (h : q_U b pc 66) : decode b pc = .ok (.lstore_n 3, 1) := by
  have e : (Decoder.instr pc).runAt b pc = .ok (.lstore_n 3, pc + 1) := by
    unfold Decoder.instr
    rw [q_u1 h]
    rfl
  rw [q_dec e]
  rw [Nat.add_sub_cancel_left]
set_option maxRecDepth 20000 in
theorem q_astore_n0 {b : ByteArray} {pc : Nat} (h : q_U b pc 75) : decode b pc = .ok (.astore_n 0, 1) := by
  have e : (Decoder.instr pc).runAt b pc = .ok (.astore_n 0, pc + 1) := by
    unfold Decoder.instr
    rw [q_u1 h]
    rfl
  rw [q_dec e]
  rw [Nat.add_sub_cancel_left]
set_option maxRecDepth 20000 in
theorem q_astore_n1 {b : ByteArray} {pc : Nat} (h : q_U b pc 76) : decode b pc = .ok (.astore_n 1, 1) := by
  have e : (Decoder.instr pc).runAt b pc = .ok (.astore_n 1, pc + 1) := by
    unfold Decoder.instr
    rw [q_u1 h]
    rfl
  rw [q_dec e]
  rw [Nat.add_sub_cancel_left]
set_option maxRecDepth 20000 in
theorem q_astore_n2 {b : ByteArray} {pc : Nat} (h : q_U b pc 77) : decode b pc = .ok (.astore_n 2, 1) := by
  have e : (Decoder.instr pc).runAt b pc = .ok (.astore_n 2, pc + 1) := by
    unfold Decoder.instr
    rw [q_u1 h]
    rfl
  rw [q_dec e]
  rw [Nat.add_sub_cancel_left]
set_option maxRecDepth 20000 in
theorem q_astore_n3 {b : ByteArray} {pc : Nat} (h : q_U b pc 78) : decode b pc = .ok (.astore_n 3, 1) := by
  have e : (Decoder.instr pc).runAt b pc = .ok (.astore_n 3, pc + 1) := by
    unfold Decoder.instr
    rw [q_u1 h]
    rfl
  rw [q_dec e]
  rw [Nat.add_sub_cancel_left]
set_option maxRecDepth 20000 in
theorem q_iconstm {b : ByteArray} {pc : Nat} (h : q_U b pc 2) : decode b pc = .ok (.iconst (-1), 1) := by
  have e : (Decoder.instr pc).runAt b pc = .ok (.iconst (-1), pc + 1) := by
    unfold Decoder.instr
    rw [q_u1 h]
    rfl
  rw [q_dec e]
  rw [Nat.add_sub_cancel_left]
set_option maxRecDepth 20000 in
theorem q_iconst0 {b : ByteArray} {pc : Nat} (h : q_U b pc 3) : decode b pc = .ok (.iconst (0), 1) := by
  have e : (Decoder.instr pc).runAt b pc = .ok (.iconst (0), pc + 1) := by
    unfold Decoder.instr
    rw [q_u1 h]
    rfl
  rw [q_dec e]
  rw [Nat.add_sub_cancel_left]
set_option maxRecDepth 20000 in
theorem q_iconst1 {b : ByteArray} {pc : Nat} (h : q_U b pc 4) : decode b pc = .ok (.iconst (1), 1) := by
  have e : (Decoder.instr pc).runAt b pc = .ok (.iconst (1), pc + 1) := by
    unfold Decoder.instr
    rw [q_u1 h]
    rfl
  rw [q_dec e]
  rw [Nat.add_sub_cancel_left]
set_option maxRecDepth 20000 in
theorem q_iconst2 {b : ByteArray} {pc : Nat} (h : q_U b pc 5) : decode b pc = .ok (.iconst (2), 1) := by
  have e : (Decoder.instr pc).runAt b pc = .ok (.iconst (2), pc + 1) := by
    unfold Decoder.instr
    rw [q_u1 h]
    rfl
  rw [q_dec e]
  rw [Nat.add_sub_cancel_left]
set_option maxRecDepth 20000 in
theorem q_iconst3 {b : ByteArray} {pc : Nat} (h : q_U b pc 6) : decode b pc = .ok (.iconst (3), 1) := by
  have e : (Decoder.instr pc).runAt b pc = .ok (.iconst (3), pc + 1) := by
    unfold Decoder.instr
    rw [q_u1 h]
    rfl
  rw [q_dec e]
  rw [Nat.add_sub_cancel_left]
set_option maxRecDepth 20000 in
theorem q_iconst4 {b : ByteArray} {pc : Nat} (h : q_U b pc 7) : decode b pc = .ok (.iconst (4), 1) := by
  have e : (Decoder.instr pc).runAt b pc = .ok (.iconst (4), pc + 1) := by
    unfold Decoder.instr
    rw [q_u1 h]
    rfl
  rw [q_dec e]
  rw [Nat.add_sub_cancel_left]
set_option maxRecDepth 20000 in
theorem q_iconst5 {b : ByteArray} {pc : Nat} (h : q_U b pc 8) : decode b pc = .ok (.iconst (5), 1) := by
  have e : (Decoder.instr pc).runAt b pc = .ok (.iconst (5), pc + 1) := by
    unfold Decoder.instr
    rw [q_u1 h]
    rfl
  rw [q_dec e]
  rw [Nat.add_sub_cancel_left]
set_option maxRecDepth 20000 in
theorem q_lconst0 {b : ByteArray} {pc : Nat} (h : q_U b pc 9) : decode b pc = .ok (.lconst 0, 1) := by
  have e : (Decoder.instr pc).runAt b pc = .ok (.lconst 0, pc + 1) := by
    unfold Decoder.instr
    rw [q_u1 h]
    rfl
  rw [q_dec e]
  rw [Nat.add_sub_cancel_left]
set_option maxRecDepth 20000 in
theorem q_lconst1 {b : ByteArray} {pc : Nat} (h : q_U b pc 10) : decode b pc = .ok (.lconst 1, 1) := by
  have e : (Decoder.instr pc).runAt b pc = .ok (.lconst 1, pc + 1) := by
    unfold Decoder.instr
    rw [q_u1 h]
    rfl
  rw [q_dec e]
  rw [Nat.add_sub_cancel_left]
set_option maxRecDepth 20000 in
theorem q_bipush {b : ByteArray} {pc n : Nat} (h : q_U b pc 16) (h1 : q_U b (pc + 1) n) : decode b pc = .ok (.bipush (Reader.signed 8 n), 2) := by
  have e : (Decoder.instr pc).runAt b pc = .ok (.bipush (Reader.signed 8 n), pc + 2) := by
    unfold Decoder.instr
    rw [q_u1 h]
    exact (q_s1 h1 (fun n => (Pure.pure (Instr.bipush n) : Decoder Instr))).trans rfl
  rw [q_dec e]
  rw [Nat.add_sub_cancel_left]
set_option maxRecDepth 20000 in
theorem q_sipush {b : ByteArray} {pc n m : Nat} (h : q_U b pc 17) (h1 : q_U b (pc + 1) n) (h2 : q_U b (pc + 2) m) : decode b pc = .ok (.sipush (Reader.signed 16 (n * 256 + m)), 3) := by
  have e : (Decoder.instr pc).runAt b pc = .ok (.sipush (Reader.signed 16 (n * 256 + m)), pc + 3) := by
    unfold Decoder.instr
    rw [q_u1 h]
    exact (q_s2 h1 h2 (fun n => (Pure.pure (Instr.sipush n) : Decoder Instr))).trans rfl
  rw [q_dec e]
  rw [Nat.add_sub_cancel_left]
set_option maxRecDepth 20000 in
theorem q_iinc {b : ByteArray} {pc n m : Nat} (h : q_U b pc 132) (h1 : q_U b (pc + 1) n) (h2 : q_U b (pc + 2) m) : decode b pc = .ok (.iinc n (Reader.signed 8 m), 3) := by
  have e : (Decoder.instr pc).runAt b pc = .ok (.iinc n (Reader.signed 8 m), pc + 3) := by
    unfold Decoder.instr
    rw [q_u1 h]
    exact (q_u1 h1 (fun k => (Reader.s1 >>= fun c => (Pure.pure (Instr.iinc k c) : Decoder Instr)))).trans ((q_s1 h2 _).trans rfl)
  rw [q_dec e]
  rw [Nat.add_sub_cancel_left]
set_option maxRecDepth 20000 in
theorem q_goto {b : ByteArray} {pc n m : Nat} (h : q_U b pc 167) (h1 : q_U b (pc + 1) n) (h2 : q_U b (pc + 2) m) : decode b pc = .ok (.goto (Reader.signed 16 (n * 256 + m)), 3) := by
  have e : (Decoder.instr pc).runAt b pc = .ok (.goto (Reader.signed 16 (n * 256 + m)), pc + 3) := by
    unfold Decoder.instr
    rw [q_u1 h]
    exact (q_s2 h1 h2 (fun n => (Pure.pure (Instr.goto n) : Decoder Instr))).trans rfl
  rw [q_dec e]
  rw [Nat.add_sub_cancel_left]
set_option maxRecDepth 20000 in
theorem q_ifeq {b : ByteArray} {pc n m : Nat} (h : q_U b pc 153) (h1 : q_U b (pc + 1) n) (h2 : q_U b (pc + 2) m) : decode b pc = .ok (.ifCond .eq (Reader.signed 16 (n * 256 + m)), 3) := by
  have e : (Decoder.instr pc).runAt b pc = .ok (.ifCond .eq (Reader.signed 16 (n * 256 + m)), pc + 3) := by
    unfold Decoder.instr
    rw [q_u1 h]
    exact (q_s2 h1 h2 (fun n => (Pure.pure (Instr.ifCond .eq n) : Decoder Instr))).trans rfl
  rw [q_dec e]
  rw [Nat.add_sub_cancel_left]
set_option maxRecDepth 20000 in
theorem q_icmpeq {b : ByteArray} {pc n m : Nat} (h : q_U b pc 159) (h1 : q_U b (pc + 1) n) (h2 : q_U b (pc + 2) m) : decode b pc = .ok (.if_icmp .eq (Reader.signed 16 (n * 256 + m)), 3) := by
  have e : (Decoder.instr pc).runAt b pc = .ok (.if_icmp .eq (Reader.signed 16 (n * 256 + m)), pc + 3) := by
    unfold Decoder.instr
    rw [q_u1 h]
    exact (q_s2 h1 h2 (fun n => (Pure.pure (Instr.if_icmp .eq n) : Decoder Instr))).trans rfl
  rw [q_dec e]
  rw [Nat.add_sub_cancel_left]
set_option maxRecDepth 20000 in
theorem q_ifne {b : ByteArray} {pc n m : Nat} (h : q_U b pc 154) (h1 : q_U b (pc + 1) n) (h2 : q_U b (pc + 2) m) : decode b pc = .ok (.ifCond .ne (Reader.signed 16 (n * 256 + m)), 3) := by
  have e : (Decoder.instr pc).runAt b pc = .ok (.ifCond .ne (Reader.signed 16 (n * 256 + m)), pc + 3) := by
    unfold Decoder.instr
    rw [q_u1 h]
    exact (q_s2 h1 h2 (fun n => (Pure.pure (Instr.ifCond .ne n) : Decoder Instr))).trans rfl
  rw [q_dec e]
  rw [Nat.add_sub_cancel_left]
set_option maxRecDepth 20000 in
theorem q_icmpne {b : ByteArray} {pc n m : Nat} (h : q_U b pc 160) (h1 : q_U b (pc + 1) n) (h2 : q_U b (pc + 2) m) : decode b pc = .ok (.if_icmp .ne (Reader.signed 16 (n * 256 + m)), 3) := by
  have e : (Decoder.instr pc).runAt b pc = .ok (.if_icmp .ne (Reader.signed 16 (n * 256 + m)), pc + 3) := by
    unfold Decoder.instr
    rw [q_u1 h]
    exact (q_s2 h1 h2 (fun n => (Pure.pure (Instr.if_icmp .ne n) : Decoder Instr))).trans rfl
  rw [q_dec e]
  rw [Nat.add_sub_cancel_left]
set_option maxRecDepth 20000 in
theorem q_iflt {b : ByteArray} {pc n m : Nat} (h : q_U b pc 155) (h1 : q_U b (pc + 1) n) (h2 : q_U b (pc + 2) m) : decode b pc = .ok (.ifCond .lt (Reader.signed 16 (n * 256 + m)), 3) := by
  have e : (Decoder.instr pc).runAt b pc = .ok (.ifCond .lt (Reader.signed 16 (n * 256 + m)), pc + 3) := by
    unfold Decoder.instr
    rw [q_u1 h]
    exact (q_s2 h1 h2 (fun n => (Pure.pure (Instr.ifCond .lt n) : Decoder Instr))).trans rfl
  rw [q_dec e]
  rw [Nat.add_sub_cancel_left]
set_option maxRecDepth 20000 in
theorem q_icmplt {b : ByteArray} {pc n m : Nat} (h : q_U b pc 161) (h1 : q_U b (pc + 1) n) (h2 : q_U b (pc + 2) m) : decode b pc = .ok (.if_icmp .lt (Reader.signed 16 (n * 256 + m)), 3) := by
  have e : (Decoder.instr pc).runAt b pc = .ok (.if_icmp .lt (Reader.signed 16 (n * 256 + m)), pc + 3) := by
    unfold Decoder.instr
    rw [q_u1 h]
    exact (q_s2 h1 h2 (fun n => (Pure.pure (Instr.if_icmp .lt n) : Decoder Instr))).trans rfl
  rw [q_dec e]
  rw [Nat.add_sub_cancel_left]
set_option maxRecDepth 20000 in
theorem q_ifge {b : ByteArray} {pc n m : Nat} (h : q_U b pc 156) (h1 : q_U b (pc + 1) n) (h2 : q_U b (pc + 2) m) : decode b pc = .ok (.ifCond .ge (Reader.signed 16 (n * 256 + m)), 3) := by
  have e : (Decoder.instr pc).runAt b pc = .ok (.ifCond .ge (Reader.signed 16 (n * 256 + m)), pc + 3) := by
    unfold Decoder.instr
    rw [q_u1 h]
    exact (q_s2 h1 h2 (fun n => (Pure.pure (Instr.ifCond .ge n) : Decoder Instr))).trans rfl
  rw [q_dec e]
  rw [Nat.add_sub_cancel_left]
set_option maxRecDepth 20000 in
theorem q_icmpge {b : ByteArray} {pc n m : Nat} (h : q_U b pc 162) (h1 : q_U b (pc + 1) n) (h2 : q_U b (pc + 2) m) : decode b pc = .ok (.if_icmp .ge (Reader.signed 16 (n * 256 + m)), 3) := by
  have e : (Decoder.instr pc).runAt b pc = .ok (.if_icmp .ge (Reader.signed 16 (n * 256 + m)), pc + 3) := by
    unfold Decoder.instr
    rw [q_u1 h]
    exact (q_s2 h1 h2 (fun n => (Pure.pure (Instr.if_icmp .ge n) : Decoder Instr))).trans rfl
  rw [q_dec e]
  rw [Nat.add_sub_cancel_left]
set_option maxRecDepth 20000 in
theorem q_ifgt {b : ByteArray} {pc n m : Nat} (h : q_U b pc 157) (h1 : q_U b (pc + 1) n) (h2 : q_U b (pc + 2) m) : decode b pc = .ok (.ifCond .gt (Reader.signed 16 (n * 256 + m)), 3) := by
  have e : (Decoder.instr pc).runAt b pc = .ok (.ifCond .gt (Reader.signed 16 (n * 256 + m)), pc + 3) := by
    unfold Decoder.instr
    rw [q_u1 h]
    exact (q_s2 h1 h2 (fun n => (Pure.pure (Instr.ifCond .gt n) : Decoder Instr))).trans rfl
  rw [q_dec e]
  rw [Nat.add_sub_cancel_left]
set_option maxRecDepth 20000 in
theorem q_icmpgt {b : ByteArray} {pc n m : Nat} (h : q_U b pc 163) (h1 : q_U b (pc + 1) n) (h2 : q_U b (pc + 2) m) : decode b pc = .ok (.if_icmp .gt (Reader.signed 16 (n * 256 + m)), 3) := by
  have e : (Decoder.instr pc).runAt b pc = .ok (.if_icmp .gt (Reader.signed 16 (n * 256 + m)), pc + 3) := by
    unfold Decoder.instr
    rw [q_u1 h]
    exact (q_s2 h1 h2 (fun n => (Pure.pure (Instr.if_icmp .gt n) : Decoder Instr))).trans rfl
  rw [q_dec e]
  rw [Nat.add_sub_cancel_left]
set_option maxRecDepth 20000 in
theorem q_ifle {b : ByteArray} {pc n m : Nat} (h : q_U b pc 158) (h1 : q_U b (pc + 1) n) (h2 : q_U b (pc + 2) m) : decode b pc = .ok (.ifCond .le (Reader.signed 16 (n * 256 + m)), 3) := by
  have e : (Decoder.instr pc).runAt b pc = .ok (.ifCond .le (Reader.signed 16 (n * 256 + m)), pc + 3) := by
    unfold Decoder.instr
    rw [q_u1 h]
    exact (q_s2 h1 h2 (fun n => (Pure.pure (Instr.ifCond .le n) : Decoder Instr))).trans rfl
  rw [q_dec e]
  rw [Nat.add_sub_cancel_left]
set_option maxRecDepth 20000 in
theorem q_icmple {b : ByteArray} {pc n m : Nat} (h : q_U b pc 164) (h1 : q_U b (pc + 1) n) (h2 : q_U b (pc + 2) m) : decode b pc = .ok (.if_icmp .le (Reader.signed 16 (n * 256 + m)), 3) := by
  have e : (Decoder.instr pc).runAt b pc = .ok (.if_icmp .le (Reader.signed 16 (n * 256 + m)), pc + 3) := by
    unfold Decoder.instr
    rw [q_u1 h]
    exact (q_s2 h1 h2 (fun n => (Pure.pure (Instr.if_icmp .le n) : Decoder Instr))).trans rfl
  rw [q_dec e]
  rw [Nat.add_sub_cancel_left]
def q_w (n : Int) : Nat := (n % 65536).toNat
def q_enc : Instr → Option (List Nat)
  | .iaload => some [46]
  | .laload => some [47]
  | .iastore => some [79]
  | .lastore => some [80]
  | .pop => some [87]
  | .pop2 => some [88]
  | .dup => some [89]
  | .dup2 => some [92]
  | .iadd => some [96]
  | .ladd => some [97]
  | .isub => some [100]
  | .imul => some [104]
  | .lmul => some [105]
  | .idiv => some [108]
  | .irem => some [112]
  | .ineg => some [116]
  | .ishl => some [120]
  | .ishr => some [122]
  | .iushr => some [124]
  | .iand => some [126]
  | .ior => some [128]
  | .ixor => some [130]
  | .i2l => some [133]
  | .lcmp => some [148]
  | .ireturn => some [172]
  | .lreturn => some [173]
  | .areturn => some [176]
  | .return_ => some [177]
  | .arraylength => some [190]
  | .ldc n => some [18, n]
  | .iload n => some [21, n]
  | .lload n => some [22, n]
  | .aload n => some [25, n]
  | .istore n => some [54, n]
  | .lstore n => some [55, n]
  | .astore n => some [58, n]
  | .ldc_w n => some [19, n / 256, n % 256]
  | .getfield n => some [180, n / 256, n % 256]
  | .putfield n => some [181, n / 256, n % 256]
  | .invokevirtual n => some [182, n / 256, n % 256]
  | .invokestatic n => some [184, n / 256, n % 256]
  | .new n => some [187, n / 256, n % 256]
  | .iload_n n => some [26 + n.val]
  | .lload_n n => some [30 + n.val]
  | .aload_n n => some [42 + n.val]
  | .istore_n n => some [59 + n.val]
  | .lstore_n n => some [63 + n.val]
  | .astore_n n => some [75 + n.val]
  | .iconst n => bif decide (-1 ≤ n) && decide (n ≤ 5) then some [(3 + n).toNat] else none
  | .lconst n => some [9 + n.val]
  | .bipush n => bif decide (Reader.signed 8 (n % 256).toNat = n) then some [16, (n % 256).toNat] else none
  | .sipush n => bif decide (Reader.signed 16 (q_w n) = n) then some [17, q_w n / 256, q_w n % 256] else none
  | .iinc k n => bif decide (Reader.signed 8 (n % 256).toNat = n) then some [132, k, (n % 256).toNat] else none
  | .goto n => bif decide (Reader.signed 16 (q_w n) = n) then some [167, q_w n / 256, q_w n % 256] else none
  | .ifCond c n => bif decide (Reader.signed 16 (q_w n) = n) then some [(match c with
    | .eq => 153
    | .ne => 154
    | .lt => 155
    | .ge => 156
    | .gt => 157
    | .le => 158), q_w n / 256, q_w n % 256] else none
  | .if_icmp c n => bif decide (Reader.signed 16 (q_w n) = n) then some [(match c with
    | .eq => 159
    | .ne => 160
    | .lt => 161
    | .ge => 162
    | .gt => 163
    | .le => 164), q_w n / 256, q_w n % 256] else none
  | _ => none
theorem q_cb {c : Bool} {l bs : List Nat} (h : (bif c then some l else none) = some bs) : c = true ∧ l = bs := by
  cases c with
  | true => exact ⟨rfl, Option.some.inj h⟩
  | false => cases h
theorem q_dm (n : Nat) : n / 256 * 256 + n % 256 = n := by omega
set_option maxHeartbeats 4000000 in
theorem q_enc_ok {b : ByteArray} {pc : Nat} {i : Instr} {bs : List Nat} (h : q_enc i = some bs) (hb : ∀ (j v : Nat), bs[j]? = some v → q_U b (pc + j) v) : decode b pc = .ok (i, bs.length) := by
  cases i with
  | iaload => cases h; exact q_iaload (hb 0 _ rfl)
  | laload => cases h; exact q_laload (hb 0 _ rfl)
  | iastore => cases h; exact q_iastore (hb 0 _ rfl)
  | lastore => cases h; exact q_lastore (hb 0 _ rfl)
  | pop => cases h; exact q_pop (hb 0 _ rfl)
  | pop2 => cases h; exact q_pop2 (hb 0 _ rfl)
  | dup => cases h; exact q_dup (hb 0 _ rfl)
  | dup2 => cases h; exact q_dup2 (hb 0 _ rfl)
  | iadd => cases h; exact q_iadd (hb 0 _ rfl)
  | ladd => cases h; exact q_ladd (hb 0 _ rfl)
  | isub => cases h; exact q_isub (hb 0 _ rfl)
  | imul => cases h; exact q_imul (hb 0 _ rfl)
  | lmul => cases h; exact q_lmul (hb 0 _ rfl)
  | idiv => cases h; exact q_idiv (hb 0 _ rfl)
  | irem => cases h; exact q_irem (hb 0 _ rfl)
  | ineg => cases h; exact q_ineg (hb 0 _ rfl)
  | ishl => cases h; exact q_ishl (hb 0 _ rfl)
  | ishr => cases h; exact q_ishr (hb 0 _ rfl)
  | iushr => cases h; exact q_iushr (hb 0 _ rfl)
  | iand => cases h; exact q_iand (hb 0 _ rfl)
  | ior => cases h; exact q_ior (hb 0 _ rfl)
  | ixor => cases h; exact q_ixor (hb 0 _ rfl)
  | i2l => cases h; exact q_i2l (hb 0 _ rfl)
  | lcmp => cases h; exact q_lcmp (hb 0 _ rfl)
  | ireturn => cases h; exact q_ireturn (hb 0 _ rfl)
  | lreturn => cases h; exact q_lreturn (hb 0 _ rfl)
  | areturn => cases h; exact q_areturn (hb 0 _ rfl)
  | return_ => cases h; exact q_return_ (hb 0 _ rfl)
  | arraylength => cases h; exact q_arraylength (hb 0 _ rfl)
  | ldc n => cases h; exact q_ldc (hb 0 _ rfl) (hb 1 _ rfl)
  | iload n => cases h; exact q_iload (hb 0 _ rfl) (hb 1 _ rfl)
  | lload n => cases h; exact q_lload (hb 0 _ rfl) (hb 1 _ rfl)
  | aload n => cases h; exact q_aload (hb 0 _ rfl) (hb 1 _ rfl)
  | istore n => cases h; exact q_istore (hb 0 _ rfl) (hb 1 _ rfl)
  | lstore n => cases h; exact q_lstore (hb 0 _ rfl) (hb 1 _ rfl)
  | astore n => cases h; exact q_astore (hb 0 _ rfl) (hb 1 _ rfl)
  | ldc_w n =>
    cases h
    have := q_ldc_w (hb 0 _ rfl) (hb 1 _ rfl) (hb 2 _ rfl)
    rw [q_dm] at this
    exact this
  | getfield n =>
    cases h
    have := q_getfield (hb 0 _ rfl) (hb 1 _ rfl) (hb 2 _ rfl)
    rw [q_dm] at this
    exact this
  | putfield n =>
    cases h
    have := q_putfield (hb 0 _ rfl) (hb 1 _ rfl) (hb 2 _ rfl)
    rw [q_dm] at this
    exact this
  | invokevirtual n =>
    cases h
    have := q_invokevirtual (hb 0 _ rfl) (hb 1 _ rfl) (hb 2 _ rfl)
    rw [q_dm] at this
    exact this
  | invokestatic n =>
    cases h
    have := q_invokestatic (hb 0 _ rfl) (hb 1 _ rfl) (hb 2 _ rfl)
    rw [q_dm] at this
    exact this
  | new n =>
    cases h
    have := q_new (hb 0 _ rfl) (hb 1 _ rfl) (hb 2 _ rfl)
    rw [q_dm] at this
    exact this
  | iload_n n =>
    cases h
    match n, hb with
    | ⟨0, _⟩, hb => exact q_iload_n0 (hb 0 _ rfl)
    | ⟨1, _⟩, hb => exact q_iload_n1 (hb 0 _ rfl)
    | ⟨2, _⟩, hb => exact q_iload_n2 (hb 0 _ rfl)
    | ⟨3, _⟩, hb => exact q_iload_n3 (hb 0 _ rfl)
  | lload_n n =>
    cases h
    match n, hb with
    | ⟨0, _⟩, hb => exact q_lload_n0 (hb 0 _ rfl)
    | ⟨1, _⟩, hb => exact q_lload_n1 (hb 0 _ rfl)
    | ⟨2, _⟩, hb => exact q_lload_n2 (hb 0 _ rfl)
    | ⟨3, _⟩, hb => exact q_lload_n3 (hb 0 _ rfl)
  | aload_n n =>
    cases h
    match n, hb with
    | ⟨0, _⟩, hb => exact q_aload_n0 (hb 0 _ rfl)
    | ⟨1, _⟩, hb => exact q_aload_n1 (hb 0 _ rfl)
    | ⟨2, _⟩, hb => exact q_aload_n2 (hb 0 _ rfl)
    | ⟨3, _⟩, hb => exact q_aload_n3 (hb 0 _ rfl)
  | istore_n n =>
    cases h
    match n, hb with
    | ⟨0, _⟩, hb => exact q_istore_n0 (hb 0 _ rfl)
    | ⟨1, _⟩, hb => exact q_istore_n1 (hb 0 _ rfl)
    | ⟨2, _⟩, hb => exact q_istore_n2 (hb 0 _ rfl)
    | ⟨3, _⟩, hb => exact q_istore_n3 (hb 0 _ rfl)
  | lstore_n n =>
    cases h
    match n, hb with
    | ⟨0, _⟩, hb => exact q_lstore_n0 (hb 0 _ rfl)
    | ⟨1, _⟩, hb => exact q_lstore_n1 (hb 0 _ rfl)
    | ⟨2, _⟩, hb => exact q_lstore_n2 (hb 0 _ rfl)
    | ⟨3, _⟩, hb => exact q_lstore_n3 (hb 0 _ rfl)
  | astore_n n =>
    cases h
    match n, hb with
    | ⟨0, _⟩, hb => exact q_astore_n0 (hb 0 _ rfl)
    | ⟨1, _⟩, hb => exact q_astore_n1 (hb 0 _ rfl)
    | ⟨2, _⟩, hb => exact q_astore_n2 (hb 0 _ rfl)
    | ⟨3, _⟩, hb => exact q_astore_n3 (hb 0 _ rfl)
  | iconst n =>
    obtain ⟨h1, rfl⟩ := q_cb h
    rw [Bool.and_eq_true, decide_eq_true_eq, decide_eq_true_eq] at h1
    have h2 : n = -1 ∨ n = 0 ∨ n = 1 ∨ n = 2 ∨ n = 3 ∨ n = 4 ∨ n = 5 := by omega
    rcases h2 with rfl | rfl | rfl | rfl | rfl | rfl | rfl
    · exact q_iconstm (hb 0 _ rfl)
    · exact q_iconst0 (hb 0 _ rfl)
    · exact q_iconst1 (hb 0 _ rfl)
    · exact q_iconst2 (hb 0 _ rfl)
    · exact q_iconst3 (hb 0 _ rfl)
    · exact q_iconst4 (hb 0 _ rfl)
    · exact q_iconst5 (hb 0 _ rfl)
  | lconst n =>
    cases h
    match n, hb with
    | ⟨0, _⟩, hb => exact q_lconst0 (hb 0 _ rfl)
    | ⟨1, _⟩, hb => exact q_lconst1 (hb 0 _ rfl)
  | bipush n =>
    obtain ⟨h1, rfl⟩ := q_cb h
    have h1 := of_decide_eq_true h1
    have := q_bipush (hb 0 _ rfl) (hb 1 _ rfl)
    rw [h1] at this
    exact this
  | iinc k n =>
    obtain ⟨h1, rfl⟩ := q_cb h
    have h1 := of_decide_eq_true h1
    have := q_iinc (hb 0 _ rfl) (hb 1 _ rfl) (hb 2 _ rfl)
    rw [h1] at this
    exact this
  | sipush n =>
    obtain ⟨h1, rfl⟩ := q_cb h
    have h1 := of_decide_eq_true h1
    have := q_sipush (hb 0 _ rfl) (hb 1 _ rfl) (hb 2 _ rfl)
    rw [q_dm, h1] at this
    exact this
  | goto n =>
    obtain ⟨h1, rfl⟩ := q_cb h
    have h1 := of_decide_eq_true h1
    have := q_goto (hb 0 _ rfl) (hb 1 _ rfl) (hb 2 _ rfl)
    rw [q_dm, h1] at this
    exact this
  | ifCond c n =>
    obtain ⟨h1, rfl⟩ := q_cb h
    have h1 := of_decide_eq_true h1
    cases c with
    | eq =>
      have := q_ifeq (hb 0 _ rfl) (hb 1 _ rfl) (hb 2 _ rfl)
      rw [q_dm, h1] at this
      exact this
    | ne =>
      have := q_ifne (hb 0 _ rfl) (hb 1 _ rfl) (hb 2 _ rfl)
      rw [q_dm, h1] at this
      exact this
    | lt =>
      have := q_iflt (hb 0 _ rfl) (hb 1 _ rfl) (hb 2 _ rfl)
      rw [q_dm, h1] at this
      exact this
    | ge =>
      have := q_ifge (hb 0 _ rfl) (hb 1 _ rfl) (hb 2 _ rfl)
      rw [q_dm, h1] at this
      exact this
    | gt =>
      have := q_ifgt (hb 0 _ rfl) (hb 1 _ rfl) (hb 2 _ rfl)
      rw [q_dm, h1] at this
      exact this
    | le =>
      have := q_ifle (hb 0 _ rfl) (hb 1 _ rfl) (hb 2 _ rfl)
      rw [q_dm, h1] at this
      exact this
  | if_icmp c n =>
    obtain ⟨h1, rfl⟩ := q_cb h
    have h1 := of_decide_eq_true h1
    cases c with
    | eq =>
      have := q_icmpeq (hb 0 _ rfl) (hb 1 _ rfl) (hb 2 _ rfl)
      rw [q_dm, h1] at this
      exact this
    | ne =>
      have := q_icmpne (hb 0 _ rfl) (hb 1 _ rfl) (hb 2 _ rfl)
      rw [q_dm, h1] at this
      exact this
    | lt =>
      have := q_icmplt (hb 0 _ rfl) (hb 1 _ rfl) (hb 2 _ rfl)
      rw [q_dm, h1] at this
      exact this
    | ge =>
      have := q_icmpge (hb 0 _ rfl) (hb 1 _ rfl) (hb 2 _ rfl)
      rw [q_dm, h1] at this
      exact this
    | gt =>
      have := q_icmpgt (hb 0 _ rfl) (hb 1 _ rfl) (hb 2 _ rfl)
      rw [q_dm, h1] at this
      exact this
    | le =>
      have := q_icmple (hb 0 _ rfl) (hb 1 _ rfl) (hb 2 _ rfl)
      rw [q_dm, h1] at this
      exact this
  | _ => cases h
def q_pre : List Nat → List UInt8 → Bool
  | [], _ => true
  | _ :: _, [] => false
  | v :: r, u :: s => Nat.beq u.toNat v && q_pre r s
theorem q_pre_ok : ∀ {bs : List Nat} {l : List UInt8}, q_pre bs l = true → ∀ (j v : Nat), bs[j]? = some v → ∃ u, l[j]? = some u ∧ u.toNat = v
  | [], _, _, j, v, hj => by simp at hj
  | _ :: _, [], h, _, _, _ => by cases h
  | w :: r, u :: s, h, j, v, hj => by
    simp only [q_pre, Bool.and_eq_true] at h
    cases j with
    | zero =>
      simp at hj
      subst hj
      exact ⟨u, rfl, Nat.eq_of_beq_eq_true h.1⟩
    | succ j =>
      simp only [List.getElem?_cons_succ] at hj ⊢
      exact q_pre_ok h.2 j v hj
theorem q_bytes {b : ByteArray} {pc : Nat} {bs : List Nat} (h : q_pre bs (b.data.toList.drop pc) = true) (j v : Nat) (hj : bs[j]? = some v) : q_U b (pc + j) v := by
  obtain ⟨u, h1, h2⟩ := q_pre_ok h j v hj
  rw [List.getElem?_drop] at h1
  rw [Array.getElem?_toList] at h1
  obtain ⟨h3, h4⟩ := Array.getElem?_eq_some_iff.mp h1
  refine ⟨h3, ?_⟩
  rw [← h2, ← h4]
  rfl
def q_row (b : ByteArray) (own nL : Nat) (e : aE) : Bool := match q_enc e.2.1 with
  | some bs => q_pre bs (b.data.toList.drop e.1) && a_ckI b own nL e.1 e.2 bs.length
  | none => match decode b e.1 with
    | .ok (i, len) => decide (i = e.2.1) && a_ckI b own nL e.1 e.2 len
    | _ => false
theorem q_row_ok {b : ByteArray} {own nL : Nat} {e : aE} (h : q_row b own nL e = true) : (match decode b e.1 with
    | .ok (i, len) => decide (i = e.2.1) && a_ckI b own nL e.1 e.2 len
    | _ => false) = true := by
  unfold q_row at h
  cases hq : q_enc e.2.1 with
  | none => rw [hq] at h; exact h
  | some bs =>
    rw [hq] at h
    rw [Bool.and_eq_true] at h
    rw [q_enc_ok hq (fun j v hj => q_bytes h.1 j v hj)]
    rw [Bool.and_eq_true]
    exact ⟨decide_eq_true rfl, h.2⟩
theorem q_all {b : ByteArray} {own nL : Nat} {cd : List aE} (h : cd.all (q_row b own nL) = true) : cd.all (fun e => match decode b e.1 with
    | .ok (i, len) => decide (i = e.2.1) && a_ckI b own nL e.1 e.2 len
    | _ => false) = true := List.all_eq_true.mpr (fun e he => q_row_ok (List.all_eq_true.mp h e he))
def q_ckM (m : aT) : Bool := match m with
  | (nm, b, nL, rt, st, ci, na, own, ps, cd) =>
    cd.all (q_row b own nL) &&
    (plainName nm.cls && decide (nm.cls ≠ "java/lang/invoke/MethodHandle") && decide (nm.cls ≠ "java/lang/invoke/VarHandle") && decide ((parseMethodDescriptor nm.desc).map (fun d => d.parameters.length) = some na) && decide (a_cls own = nm.cls) && Nat.ble nL 22) &&
    (match ps with
      | [p1, p2, p3, p4] => a_w p1 (.code nm b nL rt) && a_w p4 (.initialized nm.cls) && (bif st then a_w p2 (.static nm) else (a_w p2 (.instanceMethod nm) && a_w p3 (.selects nm.cls nm nm) && (match vwCl[ci]? with
        | some (C, _, _) => decide (C = nm.cls)
        | none => false)))
      | _ => false)
theorem q_ckM_ok {m : aT} (h : q_ckM m = true) : a_ckM m = true := by
  obtain ⟨nm, b, nL, rt, st, ci, na, own, ps, cd⟩ := m
  unfold q_ckM at h
  unfold a_ckM
  dsimp only at h ⊢
  rw [Bool.and_eq_true, Bool.and_eq_true] at h ⊢
  exact ⟨⟨q_all h.1.1, h.1.2⟩, h.2⟩
theorem q_ckP {b : ByteArray} {own nL : Nat} {cd : List aE} (h : cd.all (q_row b own nL) = true) : a_ckP b own nL cd = true := q_all h
def q_ckW (m : aW) : Bool := match m with
  | (nm, b, nL, hh, na, ps, cd) => cd.all (q_row b 12 nL) && (plainName nm.cls && decide (nm.cls ≠ "java/lang/invoke/MethodHandle") && decide (nm.cls ≠ "java/lang/invoke/VarHandle") && decide ((parseMethodDescriptor nm.desc).map (fun d => d.parameters.length) = some na) && decide (a_cls 12 = nm.cls) && Nat.ble nL 22) &&
    (match ps with
      | [p1, p2, p3] => a_w p1 (.codeWith nm b nL (some .int) hh) && a_w p2 (.static nm) && a_w p3 (.initialized nm.cls)
      | _ => false)
theorem q_ckW_ok {m : aW} (h : q_ckW m = true) : a_ckW m = true := by
  obtain ⟨nm, b, nL, hh, na, ps, cd⟩ := m
  unfold q_ckW at h
  unfold a_ckW
  dsimp only at h ⊢
  rw [Bool.and_eq_true, Bool.and_eq_true] at h ⊢
  exact ⟨⟨q_ckP h.1.1, h.1.2⟩, h.2⟩
