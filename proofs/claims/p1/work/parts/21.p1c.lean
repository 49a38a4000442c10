set_option maxRecDepth 100000 in
theorem p1_law (L : Nat) (hL : L ≤ 6) (xs : Nat → Int32) : aCL L 60 20 [some (vR 99 0), some (vR 0 0), some (vR 36 0), some (vR 98 0), none, none, none, none] (a_toM (a_B0 xs) g_0) := by
  intro K hK hW hR _
  by_cases h6 : L = 6
  case neg =>
    have h9 : z_few L = true := List.all_eq_true.mp z_few_ok L (List.mem_range.mpr (by omega))
    exact z_law_ok (oS := some L) (fun n h => (Option.some.inj h).symm) (M0 := a_toM (a_B0 xs) g_0) hK hW hR _ _ _ _ _ _ h9 _ _ _ z_L0_ok trivial (z_g1_ok (fun j v hj => by cases hj))
  subst h6
  obtain ⟨M, hM⟩ : ∃ M, M = a_toM (a_B0 xs) g_0 := ⟨_, rfl⟩
  show K 0 20 [some (vR 99 0), some (vR 0 0), some (vR 36 0), some (vR 98 0), none, none, none, none] [] (a_toM (a_B0 xs) g_0)
  refine hK 0 _ _ _ _ ?_
  show K 0 21 [some (vR 99 0), some (vR 0 0), some (vR 36 0), some (vR 98 0), none, none, none, none] [vI 0] (a_toM (a_B0 xs) g_0)
  refine hK 0 _ _ _ _ ?_
  show K 0 23 [some (vR 99 0), some (vR 0 0), some (vR 36 0), some (vR 98 0), some (vI 0), none, none, none] [] (a_toM (a_B0 xs) g_0)
  refine hK 0 _ _ _ _ ?_
  show K 0 25 [some (vR 99 0), some (vR 0 0), some (vR 36 0), some (vR 98 0), some (vI 0), none, none, none] [vI 0] (a_toM (a_B0 xs) g_0)
  refine hK 0 _ _ _ _ ?_
  show K 0 26 [some (vR 99 0), some (vR 0 0), some (vR 36 0), some (vR 98 0), some (vI 0), none, none, none] [vR 99 0, vI 0] (a_toM (a_B0 xs) g_0)
  refine hK 0 _ _ _ _ ?_
  show K 0 27 [some (vR 99 0), some (vR 0 0), some (vR 36 0), some (vR 98 0), some (vI 0), none, none, none] [vI (Int32.ofNat 6), vI 0] (a_toM (a_B0 xs) g_0)
  refine hK 0 _ _ _ _ ?_
  show K 0 29 [some (vR 99 0), some (vR 0 0), some (vR 36 0), some (vR 98 0), some (vI 0), none, none, none] [vI 6, vI (Int32.ofNat 6), vI 0] (a_toM (a_B0 xs) g_0)
  refine hK 0 _ _ _ _ ?_
  show K 0 30 [some (vR 99 0), some (vR 0 0), some (vR 36 0), some (vR 98 0), some (vI 0), none, none, none] [vI (Int32.ofNat 6 - 6), vI 0] (a_toM (a_B0 xs) g_0)
  refine hK 0 _ _ _ _ ⟨fun h => absurd h (by decide), fun _ => ?_⟩
  show K 0 33 [some (vR 99 0), some (vR 0 0), some (vR 36 0), some (vR 98 0), some (vI 0), none, none, none] [] (a_toM (a_B0 xs) g_0)
  refine hK 0 _ _ _ _ ?_
  show K 0 34 [some (vR 99 0), some (vR 0 0), some (vR 36 0), some (vR 98 0), some (vI 0), none, none, none] [vR 99 0] (a_toM (a_B0 xs) g_0)
  refine hK 0 _ _ _ _ ?_
  show K 0 36 [some (vR 99 0), some (vR 0 0), some (vR 36 0), some (vR 98 0), some (vI 0), none, none, none] [vI 0, vR 99 0] (a_toM (a_B0 xs) g_0)
  refine hK 0 _ _ _ _ ⟨by intro z; revert z; decide, ?_⟩
  show K 0 37 [some (vR 99 0), some (vR 0 0), some (vR 36 0), some (vR 98 0), some (vI 0), none, none, none] [vI (xs 0)] (a_toM (a_B0 xs) g_0)
  refine hK 0 _ _ _ _ ?_
  show K 0 39 [some (vR 99 0), some (vR 0 0), some (vR 36 0), some (vR 98 0), some (vI 0), none, none, none] [vI 31, vI (xs 0)] (a_toM (a_B0 xs) g_0)
  refine hK 0 _ _ _ _ ?_
  show K 0 40 [some (vR 99 0), some (vR 0 0), some (vR 36 0), some (vR 98 0), some (vI 0), none, none, none] [vI (xs 0 &&& 31)] (a_toM (a_B0 xs) g_0)
  refine hK 0 _ _ _ _ ⟨?_, fun _ => z_case hK hW hR z_c28⟩
  exact ⟨fun _ => z_case hK hW hR z_c0, fun _ => z_case hK hW hR z_c1, fun _ => z_case hK hW hR z_c2, fun _ => z_case hK hW hR z_c3, fun _ => z_case hK hW hR z_c4, fun _ => z_case hK hW hR z_c5, fun _ => z_case hK hW hR z_c6, fun _ => z_case hK hW hR z_c7, fun _ => z_case hK hW hR z_c8, fun _ => z_case hK hW hR z_c9, fun _ => z_case hK hW hR z_c10, fun _ => z_case hK hW hR z_c11, fun _ => z_case hK hW hR z_c12, fun _ => z_case hK hW hR z_c13, fun _ => z_case hK hW hR z_c14, fun _ => z_case hK hW hR z_c15, fun _ => z_case hK hW hR z_c16, fun _ => z_case hK hW hR z_c17, fun _ => z_case hK hW hR z_c18, fun _ => z_case hK hW hR z_c19, fun _ => z_case hK hW hR z_c20, fun _ => z_case hK hW hR z_c21, fun _ => z_case hK hW hR z_c22, fun _ => z_case hK hW hR z_c23, fun _ => z_case hK hW hR z_c24, fun _ => z_case hK hW hR z_c25, fun _ => z_case hK hW hR z_c26, fun _ => z_case hK hW hR z_c27, trivial⟩
