def a_exT : List (Nat × Nat × String × Nat × Nat) := [(110, 106, "java/lang/IllegalArgumentException", 968, 110), (120, 116, "java/lang/UnsupportedOperationException", 1038, 111), (143, 139, "java/lang/IndexOutOfBoundsException", 1070, 112), (174, 170, "java/util/NoSuchElementException", 1111, 113), (240, 236, "java/lang/IllegalStateException", 1279, 114)]
def a_exN : List String := ["java/lang/RuntimeException", "java/lang/Exception"]
def q_kind : Cond → Nat
  | .castable .. => 1
  | .declares .. => 2
  | .sameMethod .. => 3
  | .publicMethod .. => 4
  | .isRef .. => 5
  | .superclass .. => 6
  | .methodLink .. => 7
  | _ => 9
theorem q7 : a_exT.all (fun q => ((vx_atS "TurnBoard" q.1 q.2.2.1 a_exN).filter (fun w => !goodWord w)).all (fun w => Nat.ble (q_kind w) 2)) = true := by decide
theorem q0 : (((vx_atS "TurnBoard" 110 "java/lang/IllegalArgumentException" a_exN).filter (fun w => !goodWord w)).filter (fun w => Nat.beq (q_kind w) 1)).length = 1 := by decide
theorem q01 : (((vx_atS "TurnBoard" 110 "java/lang/IllegalArgumentException" a_exN).filter (fun w => !goodWord w)).filter (fun w => Nat.beq (q_kind w) 2)).length = 4 := by decide
theorem q1 : ((vx_atS "TurnBoard" 120 "java/lang/UnsupportedOperationException" a_exN).filter goodWord).filter (fun w => !decide (w ∈ lw_tbl)) = [] := by decide +kernel
theorem q2 : ((vx_atS "TurnBoard" 143 "java/lang/IndexOutOfBoundsException" a_exN).filter goodWord).filter (fun w => !decide (w ∈ lw_tbl)) = [] := by decide +kernel
theorem q3 : ((vx_atS "TurnBoard" 174 "java/util/NoSuchElementException" a_exN).filter goodWord).filter (fun w => !decide (w ∈ lw_tbl)) = [] := by decide +kernel
theorem q4 : ((vx_atS "TurnBoard" 240 "java/lang/IllegalStateException" a_exN).filter goodWord).filter (fun w => !decide (w ∈ lw_tbl)) = [] := by decide +kernel
theorem q5 : a_exT = [(110, 106, "java/lang/IllegalArgumentException", 0, 0)] := by decide
