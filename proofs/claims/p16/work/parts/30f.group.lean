def gP : List (Nat × Nat) := [(0, 2), (0, 3), (0, 4), (0, 5), (0, 6), (0, 7), (0, 8), (1, 4), (1, 6), (1, 8), (2, 8), (3, 2), (3, 4), (3, 8)]
def rt (k o a b : Nat) : Nat := bif Nat.beq k 0 then (a + b) % o else bif Nat.beq k 3 then Nat.xor a b else
  ((a % (o / 2) + (bif Nat.beq (a / (o / 2)) 1 then o / 2 - b % (o / 2) else b % (o / 2)) + (bif Nat.beq k 2 && (Nat.beq (a / (o / 2)) 1 && Nat.beq (b / (o / 2)) 1) then 2 else 0)) % (o / 2) + o / 2 * (bif Nat.beq (a / (o / 2)) (b / (o / 2)) then 0 else 1))
/-- the last below n by which a is rest -/
def agf (k o a : Nat) : Nat → Nat
  | 0 => 0
  | n + 1 => bif Nat.beq (rt k o a n) 0 then n else agf k o a n
def ag (k o a : Nat) : Nat := agf k o a o
def gT : List (Nat × Nat × Nat × Nat) := gP.flatMap (fun q => (List.range q.2).flatMap (fun a => (List.range q.2).map (fun b => (q.1, q.2, a, b))))
theorem gT_mem {k o a b : Nat} (hq : (k, o) ∈ gP) (ha : a < o) (hb : b < o) : (k, o, a, b) ∈ gT := List.mem_flatMap.mpr ⟨(k, o), hq, List.mem_flatMap.mpr ⟨a, List.mem_range.mpr ha, List.mem_map.mpr ⟨b, List.mem_range.mpr hb, rfl⟩⟩⟩
def gA : List (Nat × Nat × Nat) := gP.flatMap (fun q => (List.range q.2).map (fun a => (q.1, q.2, a)))
theorem gA_mem {k o a : Nat} (hq : (k, o) ∈ gP) (ha : a < o) : (k, o, a) ∈ gA := List.mem_flatMap.mpr ⟨(k, o), hq, List.mem_map.mpr ⟨a, List.mem_range.mpr ha, rfl⟩⟩
theorem gP_o {k o : Nat} (hq : (k, o) ∈ gP) : 2 ≤ o ∧ o ≤ 8 ∧ k ≤ 3 := by
  have h : gP.all (fun q => Nat.ble 2 q.2 && (Nat.ble q.2 8 && Nat.ble q.1 3)) = true := by decide
  have h2 := List.all_eq_true.mp h _ hq
  rw [Bool.and_eq_true, Bool.and_eq_true] at h2
  exact ⟨Nat.le_of_ble_eq_true h2.1, Nat.le_of_ble_eq_true h2.2.1, Nat.le_of_ble_eq_true h2.2.2⟩
theorem gT_all {P : Nat → Nat → Nat → Nat → Bool} (h : gT.all (fun e => P e.1 e.2.1 e.2.2.1 e.2.2.2) = true) {k o a b : Nat} (hq : (k, o) ∈ gP) (ha : a < o) (hb : b < o) : P k o a b = true := List.all_eq_true.mp h _ (gT_mem hq ha hb)
theorem gA_all {P : Nat → Nat → Nat → Bool} (h : gA.all (fun e => P e.1 e.2.1 e.2.2) = true) {k o a : Nat} (hq : (k, o) ∈ gP) (ha : a < o) : P k o a = true := List.all_eq_true.mp h _ (gA_mem hq ha)
theorem rt_lt {k o a b : Nat} (hq : (k, o) ∈ gP) (ha : a < o) (hb : b < o) : rt k o a b < o := Nat.le_of_ble_eq_true (gT_all (P := fun k o a b => Nat.ble (rt k o a b + 1) o) (by decide +kernel) hq ha hb)
theorem ag_lt {k o a : Nat} (hq : (k, o) ∈ gP) (ha : a < o) : ag k o a < o := Nat.le_of_ble_eq_true (gA_all (P := fun k o a => Nat.ble (ag k o a + 1) o) (by decide +kernel) hq ha)
theorem ag_ex {k o a : Nat} (hq : (k, o) ∈ gP) (ha : a < o) : rt k o a (ag k o a) = 0 := Nat.eq_of_beq_eq_true (gA_all (P := fun k o a => Nat.beq (rt k o a (ag k o a)) 0) (by decide +kernel) hq ha)
theorem ag_un {k o a b : Nat} (hq : (k, o) ∈ gP) (ha : a < o) (hb : b < o) (h : rt k o a b = 0) : b = ag k o a := by
  have h2 : (!(Nat.beq (rt k o a b) 0) || Nat.beq b (ag k o a)) = true := gT_all (P := fun k o a b => !(Nat.beq (rt k o a b) 0) || Nat.beq b (ag k o a)) (by decide +kernel) hq ha hb
  rw [h] at h2
  exact Nat.eq_of_beq_eq_true h2
/-- many contracts of one kind, by one check -/
theorem z_tab_ok {T : zT} {α : Type} (mk : α → zCt) (F : zW) {hds : Nat → zHd} (hhd : z_hdOK hds) (d0 n : Nat) (l : List α) (h : l.all (fun e => Nat.beq (d0 + n) (mk e).2.2.2.2.2 && z_ckS T F hds [] d0 n (mk e) [] (mk e).2.1 (mk e).2.2.1) = true) : ∀ e ∈ l, z_ctH T (mk e) := fun e he => z_ct_ok F hhd [] [] d0 n (fun _ h => absurd h List.not_mem_nil) (List.all_eq_true.mp h e he)
def zN (n : Nat) : zI := (n + 2147483648, n + 2147483648)
theorem zN_i {n : Nat} (h : n < 2147483648) : z_i (zN n) (Int32.ofNat n) := by
  have h2 := z_b_ofNat h
  exact ⟨Nat.le_of_eq h2.symm, Nat.le_of_eq h2⟩
theorem zN_e {n : Nat} {x : Int32} (h : n < 2147483648) (hx : z_i (zN n) x) : x = Int32.ofNat n := z_b_inj ((Nat.le_antisymm hx.2 hx.1).trans (z_b_ofNat h).symm)
theorem z_MT0 {M : aM} : z_MT ([], [], []) M := fun q hq => by cases hq
/-- a contract of one exact answer that leaves all -/
theorem zN_use {T : zT} {c : zCt} (hc : z_ctH T c) {r : Nat} (hr : r < 2147483648) (h2 : c.2.2.2.1 = []) (h3 : c.2.2.2.2.1 = [.inl (some (.inl (zN r)), [])]) {nS d : Nat} {as : List aV} {M : aM} (hd : c.2.2.2.2.2 ≤ d) (hS : z_S c.2.1 as) (hT : z_MT (T, [], []) M) (hG : z_MG c.2.2.1 M) : aC nS d c.1 as M (fun v M' => v = some (vI (Int32.ofNat r)) ∧ M = M') (fun _ _ => False) := by
  refine aC_post (hc nS d as M hd hS hT hG) (fun v M' hv => ?_) (fun x M' hx => ?_)
  · rw [h2, h3] at hv
    obtain ⟨v', g', h4, h5, h6⟩ := hv
    have h4 := List.mem_singleton.mp h4
    cases h4
    obtain ⟨x, rfl, hx⟩ := h_ovI h5
    exact ⟨by rw [zN_e hr hx], (h_MW h6.2.1).symm⟩
  · rw [h2, h3] at hx
    obtain ⟨g', h4, h6⟩ := hx
    have h4 := List.mem_singleton.mp h4
    cases h4
/-- a cell told by its number, of any instance -/
theorem zN_G {M : aM} {n k i j v : Nat} {g : zG} (h0 : i < 4) (h1 : j < 4096) (h2 : z_ky k i j = n) (hv : v < 2147483648) (h : M.1 k i j = Int32.ofNat v) (hg : z_MG g M) : z_MG ((n, zN v) :: g) M := by
  refine List.forall_mem_cons.mpr ⟨fun k' i' j' q1 q2 q3 => ?_, hg⟩
  obtain ⟨f1, f2, f3⟩ := z_ky_lt (k' := k) (i' := i) (j' := j) q1 q2 h0 h1 (q3.trans h2.symm)
  subst f1
  subst f2
  subst f3
  rw [h]
  exact zN_i hv
def g_tm (e : Nat × Nat × Nat × Nat) : zCt := (180, [.inr (.inr (36, 0)), .inl (zN e.2.2.1), .inl (zN e.2.2.2)], [(606209, zN e.1), (606210, zN e.2.1)], [], [.inl (some (.inl (zN (rt e.1 e.2.1 e.2.2.1 e.2.2.2))), [])], 1)
theorem g_tm_ok : ∀ e ∈ gT, z_ctH [] (g_tm e) := z_tab_ok g_tm [] z_hds_ok 0 1 gT (by decide +kernel)
def g_pr0 (e : Nat × Nat × Nat × Nat) : zCt := (54, [.inr (.inr (5, 0)), .inl (zN e.2.2.1), .inl (zN e.2.2.2)], [(81920, zN e.1), (81921, zN e.2.1)], [], [.inl (some (.inl (zN (rt e.1 e.2.1 e.2.2.1 e.2.2.2))), [])], 1)
theorem g_pr0_ok : ∀ e ∈ gT, z_ctH [] (g_pr0 e) := z_tab_ok g_pr0 [] z_hds_ok 0 1 gT (by decide +kernel)
def g_pr1 (e : Nat × Nat × Nat × Nat) : zCt := (54, [.inr (.inr (5, 1)), .inl (zN e.2.2.1), .inl (zN e.2.2.2)], [(86016, zN e.1), (86017, zN e.2.1)], [], [.inl (some (.inl (zN (rt e.1 e.2.1 e.2.2.1 e.2.2.2))), [])], 1)
theorem g_pr1_ok : ∀ e ∈ gT, z_ctH [] (g_pr1 e) := z_tab_ok g_pr1 [] z_hds_ok 0 1 gT (by decide +kernel)
def g_pr2 (e : Nat × Nat × Nat × Nat) : zCt := (54, [.inr (.inr (5, 2)), .inl (zN e.2.2.1), .inl (zN e.2.2.2)], [(90112, zN e.1), (90113, zN e.2.1)], [], [.inl (some (.inl (zN (rt e.1 e.2.1 e.2.2.1 e.2.2.2))), [])], 1)
theorem g_pr2_ok : ∀ e ∈ gT, z_ctH [] (g_pr2 e) := z_tab_ok g_pr2 [] z_hds_ok 0 1 gT (by decide +kernel)
