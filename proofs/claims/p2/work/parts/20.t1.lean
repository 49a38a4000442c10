theorem aC_mk {nS d y : Nat} {as : List aV} {M : aM} {post : Option aV → aM → Prop} {px : Nat → aM → Prop} {nm : MethodName} {b : ByteArray} {nL : Nat} {rt : Option FieldType} {st : Bool} {ci na own : Nat} {ps : List Nat} {cd : List aE} (h : a_mt[y]? = some (nm, b, nL, rt, st, ci, na, own, ps, cd)) (hw : Nat.ble (a_ent as).length nL = true)
    (k : ∀ K : aK, (∀ pc L S M, a_wp d nS (fun y as M P => aC nS d y as M P (fun _ _ => False)) rt cd post px K pc L S M → K pc L S M) → (∀ pc L L' S M, a_le L' L → K pc L' S M → K pc L S M) → K 0 (a_pad nL (a_ent as)) [] M) : aC nS (d + 1) y as M post px := by
  unfold aC
  rw [h]
  exact ⟨hw, k⟩
set_option maxRecDepth 100000 in
/-- Rows.at -/
theorem c_at {nS d : Nat} {M : aM} {k i n : Nat} {j : Int32} (hk : a_shp k = some (.inr (false, n))) (hn : n < 2147483648) : aC nS (d + 1) 104 [vR k i, vI j] M (fun v M' => M' = M ∧ v = some (vI (if 0 ≤ j ∧ j < Int32.ofNat n then M.1 k i j.toNatClampNeg else 0))) (fun _ _ => False) := by
  refine aC_mk rfl rfl ?_
  intro K hK hF
  refine hK _ _ _ _ ?_
  refine hK _ _ _ _ ⟨fun h0 => ?_, fun h0 => ?_⟩
  all_goals sorry
set_option maxRecDepth 100000 in
/-- Group.times -/
theorem c_times {nS d : Nat} {M : aM} {i : Nat} {a b : Int32} : aC nS (d + 1) 59 [vR 5 i, vI a, vI b] M (fun v M' => M' = M ∧ v = some (vI (if 0 ≤ a * 8 + b ∧ a * 8 + b < 64 then M.1 6 i (a * 8 + b).toNatClampNeg else 0))) (fun _ _ => False) := by
  refine aC_mk rfl rfl ?_
  intro K hK hF
  refine hK _ _ _ _ (hK _ _ _ _ (hK _ _ _ _ (hK _ _ _ _ (hK _ _ _ _ (hK _ _ _ _ (hK _ _ _ _ ?_))))))
  refine hK _ _ _ _ ⟨fun h0 => ?_, fun h0 => ?_⟩
  · refine hK _ _ _ _ (hK _ _ _ _ ?_)
    refine ⟨rfl, ?_⟩
    rw [if_neg]
    intro h
    exact Int32.not_le.mpr h0 h.1
  · refine hK _ _ _ _ (hK _ _ _ _ (hK _ _ _ _ (hK _ _ _ _ ?_)))
    refine hK _ _ _ _ ⟨fun h1 => ?_, fun h1 => ?_⟩
    · refine hK _ _ _ _ (hK _ _ _ _ ?_)
      refine ⟨rfl, ?_⟩
      rw [if_neg]
      intro h
      exact Int32.not_lt.mpr h1 h.2
    · refine hK _ _ _ _ (hK _ _ _ _ (hK _ _ _ _ ?_))
      refine hK _ _ _ _ ⟨?_, ?_⟩
      · done
      · refine hK _ _ _ _ (hK _ _ _ _ ?_)
        done
