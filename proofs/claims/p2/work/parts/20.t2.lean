set_option maxRecDepth 100000 in
theorem t2_become : (match a_run 20 52 [vR 5 0, vI 0, vI 2] ([], []) with
  | some (.inl (none, g)) => decide (a_gh 0 g.1 6 0 9 = 0)
  | _ => false) = true := by decide +kernel
