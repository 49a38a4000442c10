def a_exT : List (Nat × Nat × String × Nat × Nat × Bool) := [(110, 106, "java/lang/IllegalArgumentException", 968, 110, false), (120, 116, "java/lang/UnsupportedOperationException", 1038, 111, false), (143, 139, "java/lang/IndexOutOfBoundsException", 1070, 112, false), (174, 170, "java/util/NoSuchElementException", 1111, 113, true), (240, 236, "java/lang/IllegalStateException", 1279, 114, false)]
abbrev aX : Type := Nat × Nat × String × Nat × Nat × Bool
def a_exN : List String := ["java/lang/RuntimeException", "java/lang/Exception"]
def a_exW (q : aX) : List Cond := match q with
  | (ic, _, cls, _, _, fl) => bif fl then y_atS "TurnBoard" ic cls a_exN else vx_atS "TurnBoard" ic cls a_exN
def a_cd : Cond → Bool
  | .castable .. => true
  | .declares .. => true
  | _ => false
def a_exB (q : aX) : Bool := match q with
  | (ic, ik, cls, p1, p2, fl) => a_w p1 (.classLink "TurnBoard" ik cls) && a_w p2 (.initialized cls) && Bundle.fit cls && (a_exW q).all (fun w => bif goodWord w then decide (w ∈ lw_tbl) else a_cd w) && (Cond.classLink "TurnBoard" ik cls :: Cond.initialized cls :: a_exW q).all vx_ot
theorem a_exB_ok : ∀ q ∈ a_exT, a_exB q = true := List.forall_mem_cons.mpr ⟨by decide +kernel, List.forall_mem_cons.mpr ⟨by decide +kernel, List.forall_mem_cons.mpr ⟨by decide +kernel, List.forall_mem_cons.mpr ⟨by decide +kernel, List.forall_mem_cons.mpr ⟨by decide +kernel, fun _ h => absurd h List.not_mem_nil⟩⟩⟩⟩⟩
theorem a_exN_ok : a_exN.all (fun n => Bundle.fit n) = true := by decide +kernel
def a_thB (q : Nat × Nat × Nat × Nat × Nat) : Bool := Nat.beq q.1 10 && (match a_exT[q.2.2.2.2]? with
  | some z => Nat.beq z.1 q.2.2.2.1 && Nat.beq z.2.1 q.2.1
  | none => false)
theorem a_thB_ok : a_thT.all a_thB = true := by decide +kernel
/-- the words of a throw that are no good words -/
def a_exX (U : State) : Prop := ∀ q ∈ a_exT, ∀ w ∈ a_exW q, goodWord w = false → va_Nw w U
theorem a_exX.warm {s U : State} (hW : s.WarmedH U.vm) (h : a_exX s) : a_exX U := by
  intro q hq w hw hg
  have h1 := a_exB_ok q hq
  obtain ⟨ic, ik, cls, p1, p2, fl⟩ := q
  unfold a_exB at h1
  simp only [Bool.and_eq_true] at h1
  have h2 := List.all_eq_true.mp h1.1.2 w hw
  rw [hg] at h2
  simp only [cond_false] at h2
  have h3 := h _ hq w hw hg
  cases w with
  | castable a b => exact va_Nw.warmC hW h3
  | declares x => exact va_Nw.warmD hW h3
  | _ => cases h2
def a_en (x : Nat) : String := ((a_exT[x]?).map (fun q => q.2.2.1)).getD ""
/-- which are no kind of which, as the law's handlers stand -/
def a_ncT : List (Nat × Nat) := [(1, 0), (3, 2), (3, 0), (0, 2), (4, 2), (4, 0)]
def a_ncX (U : State) : Prop := ∀ q ∈ a_ncT, va_Nc (a_en q.1) (a_en q.2) U
theorem a_castB : a_exT.all (fun q => decide (Cond.castable q.2.2.1 q.2.2.1 ∈ a_exW q) && !goodWord (.castable q.2.2.1 q.2.2.1)) = true := by decide +kernel
theorem a_exX.cast {U : State} (h : a_exX U) {x : Nat} {q : aX} (hq : a_exT[x]? = some q) : va_Nw (.castable (a_en x) (a_en x)) U := by
  have h1 := List.all_eq_true.mp a_castB q (List.mem_of_getElem? hq)
  simp only [Bool.and_eq_true, decide_eq_true_eq, Bool.not_eq_true'] at h1
  have h2 := h q (List.mem_of_getElem? hq) _ h1.1 h1.2
  have e : a_en x = q.2.2.1 := by unfold a_en; rw [hq]; rfl
  rw [e]
  exact h2
theorem a_exF {x : Nat} {z : aX} (h : a_exT[x]? = some z) (hz : z.2.2.2.2.2 = true := by rfl) : x = 3 := by
  match x, h with
  | 0, h => cases h; cases hz
  | 1, h => cases h; cases hz
  | 2, h => cases h; cases hz
  | 3, _ => rfl
  | 4, h => cases h; cases hz
  | x + 5, h => cases h
