def tw_group : List Nat := [103, 114, 111, 117, 112]
def tw_size : List Nat := [115, 105, 122, 101]
def tw_shape : List Nat := [115, 104, 97, 112, 101]
def tw_weight : List Nat := [119, 101, 105, 103, 104, 116]
def tw_hole : List Nat := [104, 111, 108, 101]
def tw_east : List Nat := [101, 97, 115, 116]
def tw_north : List Nat := [110, 111, 114, 116, 104]
abbrev xn (x : Int32) : Nat := x.toNatClampNeg
theorem xn_of {x : Int32} (h : 0 ≤ x) : x = Int32.ofNat (xn x) ∧ xn x < 2147483648 := by
  obtain ⟨a, ha, rfl⟩ := hI_of h
  rw [show xn (Int32.ofNat a) = a from hI_cl ha]
  exact ⟨rfl, ha⟩
theorem xn_le {x : Int32} {m : Nat} (hm : m < 2147483648) (h0 : 0 ≤ x) (h : x ≤ Int32.ofNat m) : x = Int32.ofNat (xn x) ∧ xn x ≤ m := by
  obtain ⟨h1, h2⟩ := xn_of h0
  refine ⟨h1, ?_⟩
  rw [h1] at h
  exact (hI_le h2 hm).mp h
theorem xn_ge {x : Int32} {m : Nat} (hm : m < 2147483648) (h : Int32.ofNat m ≤ x) : m ≤ xn x := by
  have h0 : (0 : Int32) ≤ x := Int32.le_trans ((hI_le (a := 0) (by decide) hm).mpr (Nat.zero_le _)) h
  obtain ⟨h1, h2⟩ := xn_of h0
  rw [h1] at h
  exact (hI_le hm h2).mp h
/-- what a text tells -/
def s_group (r : Nat → Int32) (n : Nat) (e : xB) (p : Nat) : Option (xB × Nat) := match t_two r n p 0 3 2 8 with
  | none => none
  | some ((a, b), s) => if (xn a, xn b) ∈ gP then some (((xn a, xn b), (e.2.1, (fun _ => 1, (e.2.2.2.1, fun _ => 0)))), s) else none
def s_size (r : Nat → Int32) (n : Nat) (e : xB) (p : Nat) : Option (xB × Nat) := match t_two r n p 1 3 1 3 with
  | none => none
  | some ((a, b), s) => some ((e.1, ((xn a, xn b, e.2.1.2.2), (e.2.2.1, (fun _ => 0, fun _ => 0)))), s)
def s_shape (r : Nat → Int32) (n : Nat) (e : xB) (p : Nat) : Option (xB × Nat) := match t_num r n p 0 2 with
  | none => none
  | some (a, s) => some ((e.1, ((e.2.1.1, e.2.1.2.1, xn a), (e.2.2.1, (fun _ => 0, fun _ => 0)))), s)
def s_weight (r : Nat → Int32) (n : Nat) (e : xB) (p : Nat) : Option (xB × Nat) := match t_two r n p 0 (Int32.ofNat e.1.2 - 1) 0 9 with
  | none => none
  | some ((a, b), s) => some ((e.1, (e.2.1, (kset e.1.1 e.1.2 (xn a) b e.2.2.1, e.2.2.2))), s)
def s_hole (r : Nat → Int32) (n : Nat) (e : xB) (p : Nat) : Option (xB × Nat) := match t_two r n p 0 3 0 3 with
  | none => none
  | some ((a, b), s) => if xn a < e.2.1.1 ∧ xn b < e.2.1.2.1 then some ((e.1, (e.2.1, (e.2.2.1, (fun j => bif Nat.beq j (xn b * 4 + xn a) then 1 else e.2.2.2.1 j, e.2.2.2.2)))), s) else none
def s_line (z : Nat) (r : Nat → Int32) (n : Nat) (e : xB) (p : Nat) : Option (xB × Nat) := match t_two r n p 0 3 0 3 with
  | none => none
  | some ((a, b), s) => if xlv e.2.1.1 e.2.1.2.1 e.2.1.2.2 (xn a) (xn b) z = true then (match t_num r n s 0 (Int32.ofNat e.1.2 - 1) with
    | none => none
    | some (t, q) => some ((e.1, (e.2.1, (e.2.2.1, (e.2.2.2.1, fun j => bif Nat.beq j (xln e.2.1.1 e.2.1.2.1 e.2.1.2.2 (xn a) (xn b) z) then t else e.2.2.2.2 j)))), q)) else none
def t_part (r : Nat → Int32) (n : Nat) (e : xB) (p : Nat) : Option (xB × Nat) :=
  if t_wd r n p tw_group = true then s_group r n e (t_go (t_az r) n (t_sk r n p)) else
  if t_wd r n p tw_size = true then s_size r n e (t_go (t_az r) n (t_sk r n p)) else
  if t_wd r n p tw_shape = true then s_shape r n e (t_go (t_az r) n (t_sk r n p)) else
  if t_wd r n p tw_weight = true then s_weight r n e (t_go (t_az r) n (t_sk r n p)) else
  if t_wd r n p tw_hole = true then s_hole r n e (t_go (t_az r) n (t_sk r n p)) else
  if t_wd r n p tw_east = true then s_line 0 r n e (t_go (t_az r) n (t_sk r n p)) else
  if t_wd r n p tw_north = true then s_line 1 r n e (t_go (t_az r) n (t_sk r n p)) else none
def t_text (r : Nat → Int32) (n : Nat) : Nat → xB → Nat → Option xB
  | 0, _, _ => none
  | k + 1, e, p => match t_part r n e p with
    | none => none
    | some (e', q) => if t_semi r n q = true then t_text r n k e' (t_sk r n q + 1) else if t_sk r n q < n then none else some e'
def t_read (r : Nat → Int32) (n : Nat) (e : xB) : Option xB := if t_sk r n 0 < n then t_text r n 12 e (t_sk r n 0) else some e
/-- the draft and the reader -/
theorem fr_i {P Q : xF} {A B : aM} (h : fr P A B) (hi : ∀ k i j, P k i j = true → Q k i j = true) : fr Q A B := fr_w h (fun k i j z => by
  cases hp : P k i j with
  | false => rfl
  | true =>
    rw [hi k i j hp] at z
    cases z)
def PBx (i : Nat) : xF := fun k i' j => ((Nat.ble 4 k && Nat.ble k 14) && !(Nat.beq k 4 && Nat.beq j 4)) && Nat.beq i' i
theorem PBx_mk {i k j : Nat} (h1 : 4 ≤ k) (h2 : k ≤ 14) (h3 : ¬ (k = 4 ∧ j = 4)) : PBx i k i j = true := by
  show (((Nat.ble 4 k && Nat.ble k 14) && !(Nat.beq k 4 && Nat.beq j 4)) && Nat.beq i i) = true
  rw [Nat.ble_eq_true_of_le h1, Nat.ble_eq_true_of_le h2, Nat.beq_refl i]
  by_cases h4 : k = 4
  · rw [x_nbq (show ¬ j = 4 from fun z => h3 ⟨h4, z⟩), Bool.and_false]
    rfl
  · rw [x_nbq h4]
    rfl
def PT : xF := fun k i j => Nat.beq k 3 || PBx 1 k i j
theorem P3w_T {A B : aM} (h : fr P3w A B) : fr PT A B := fr_w h (fun k i j z => by
  have z : (Nat.beq k 3 || PBx 1 k i j) = false := z
  rw [Bool.or_eq_false_iff] at z
  exact z.1)
theorem P3_T {A B : aM} (h : fr P3 A B) : fr PT A B := P3w_T (P3_w h)
theorem PBx_T {A B : aM} (h : fr (PBx 1) A B) : fr PT A B := fr_w h (fun k i j z => by
  have z : (Nat.beq k 3 || PBx 1 k i j) = false := z
  rw [Bool.or_eq_false_iff] at z
  exact z.2)
theorem PGa_Bx {i : Nat} {A B : aM} (h : fr (PGa i) A B) : fr (PBx i) A B := fr_i h (fun k i' j z => by
  have z : ((Nat.ble 5 k && Nat.ble k 11) && Nat.beq i' i) = true := z
  rw [Bool.and_eq_true, Bool.and_eq_true] at z
  have a := Nat.le_of_ble_eq_true z.1.1
  have b := Nat.le_of_ble_eq_true z.1.2
  rw [Nat.eq_of_beq_eq_true z.2]
  exact PBx_mk (by omega) (by omega) (by omega))
theorem PR_Bx {q i : Nat} {A B : aM} (h : fr (PR q i) A B) (h1 : 5 ≤ q) (h2 : q ≤ 14) : fr (PBx i) A B := fr_i h (fun k i' j z => by
  have z : (Nat.beq k q && Nat.beq i' i) = true := z
  rw [Bool.and_eq_true] at z
  rw [Nat.eq_of_beq_eq_true z.1, Nat.eq_of_beq_eq_true z.2]
  exact PBx_mk (by omega) (by omega) (by omega))
theorem P2_Bx {i : Nat} {A B : aM} (h : fr (fun k i' _ => (Nat.beq k 12 || Nat.beq k 13) && Nat.beq i' i) A B) : fr (PBx i) A B := fr_i h (fun k i' j z => by
  have z : ((Nat.beq k 12 || Nat.beq k 13) && Nat.beq i' i) = true := z
  rw [Bool.and_eq_true, Bool.or_eq_true] at z
  rw [Nat.eq_of_beq_eq_true z.2]
  rcases z.1 with q | q <;> rw [Nat.eq_of_beq_eq_true q] <;> exact PBx_mk (by decide) (by decide) (by omega))
theorem PS_Bx {i : Nat} {A B : aM} (h : fr (PS i) A B) : fr (PBx i) A B := fr_i h (fun k i' j z => by
  have z : (((Nat.beq k 4 && !(Nat.beq j 4)) || (Nat.beq k 12 || Nat.beq k 14)) && Nat.beq i' i) = true := z
  rw [Bool.and_eq_true, Bool.or_eq_true, Bool.or_eq_true, Bool.and_eq_true] at z
  rw [Nat.eq_of_beq_eq_true z.2]
  rcases z.1 with q | q | q
  · rw [Nat.eq_of_beq_eq_true q.1]
    refine PBx_mk (by decide) (by decide) (fun w => ?_)
    have q2 := q.2
    rw [w.2] at q2
    cases q2
  · rw [Nat.eq_of_beq_eq_true q]
    exact PBx_mk (by decide) (by decide) (by omega)
  · rw [Nat.eq_of_beq_eq_true q]
    exact PBx_mk (by decide) (by decide) (by omega))
/-- what reading a part comes to -/
def XR (n : Nat) (res : Option (xB × Nat)) (v : Option aV) (M : aM) : Prop := (∃ e q, res = some (e, q) ∧ q ≤ n ∧ v = some (vI 1) ∧ cB 1 M e ∧ M.1 3 0 1 = Int32.ofNat q) ∨ (res = none ∧ v = some (vI 0) ∧ ∃ e, cB 1 M e)
/-- between the words: the text is there, the board, the place -/
def XS (M : aM) (n p : Nat) (e : xB) : Prop := M.1 1 0 1 = Int32.ofNat n ∧ n ≤ 400 ∧ M.1 3 0 1 = Int32.ofNat p ∧ p ≤ n ∧ cB 1 M e
theorem PT_row {A B : aM} (h : fr PT A B) : B.1 2 0 = A.1 2 0 := by
  funext j
  exact h.1 2 0 j rfl
theorem cB_3 {i : Nat} {A B : aM} {e : xB} (h : fr P3w A B) (hB : cB i A e) : cB i B e := cB_fr hB (fun q j h1 h2 _ => h.1 q i j (by show Nat.beq q 3 = false; exact x_nbq (by omega)))
theorem t_two_ok {r : Nat → Int32} {n p : Nat} {a b c e x y : Int32} {s : Nat} (h : t_two r n p a b c e = some ((x, y), s)) (hp : p ≤ n) : a ≤ x ∧ x ≤ b ∧ c ≤ y ∧ y ≤ e ∧ s ≤ n := by
  unfold t_two at h
  cases h1 : t_num r n p a b with
  | none => rw [h1] at h; cases h
  | some xq =>
    obtain ⟨x1, q⟩ := xq
    rw [h1] at h
    dsimp only at h
    cases h2 : t_num r n q c e with
    | none => rw [h2] at h; cases h
    | some yq =>
      obtain ⟨y1, s1⟩ := yq
      rw [h2] at h
      cases h
      obtain ⟨a1, a2, a3, a4⟩ := t_num_ok h1 hp
      obtain ⟨b1, b2, b3, b4⟩ := t_num_ok h2 a4
      exact ⟨a1, a2, b1, b2, b4⟩
def g_exists (e : Nat × Nat) : zCt := (51, [.inl (zN e.1), .inl (zN e.2)], [], [], [.inl (some (.inl (zN (bif decide ((e.1, e.2) ∈ gP) then 1 else 0))), [])], 1)
theorem g_exists_ok : ∀ e ∈ (List.range 4).flatMap (fun a => (List.range 7).map (fun b => (a, b + 2))), z_ctH [] (g_exists e) := z_tab_ok g_exists [] z_hds_ok 0 1 _ (by decide +kernel)
theorem b_exists {nS d a b : Nat} {M : aM} {x y : Int32} (hx : x = Int32.ofNat a) (hy : y = Int32.ofNat b) (ha : a ≤ 3) (hb : 2 ≤ b) (hb2 : b ≤ 8) : aC nS (d + 1) 51 [vI x, vI y] M (fun v M' => v = some (vI (if (a, b) ∈ gP then 1 else 0)) ∧ M = M') (fun _ _ => False) := by
  subst hx
  subst hy
  have hm : (a, b) ∈ (List.range 4).flatMap (fun a => (List.range 7).map (fun b => (a, b + 2))) := List.mem_flatMap.mpr ⟨a, List.mem_range.mpr (by omega), List.mem_map.mpr ⟨b - 2, List.mem_range.mpr (by omega), by rw [show b - 2 + 2 = b by omega]⟩⟩
  have h := zN_use (nS := nS) (d := d + 1) (M := M) (g_exists_ok _ hm) (r := bif decide ((a, b) ∈ gP) then 1 else 0) (by cases decide ((a, b) ∈ gP) <;> decide) rfl rfl (Nat.le_add_left 1 d) (as := [vI (Int32.ofNat a), vI (Int32.ofNat b)]) (h_Iv (zN_i (n := a) (by omega)) (h_Iv (zN_i (n := b) (by omega)) trivial)) z_MT0 h_MG0
  refine aC_post h (fun v M' hv => ⟨?_, hv.2⟩) (fun _ _ z => z)
  rw [hv.1]
  by_cases hg : (a, b) ∈ gP
  · rw [decide_eq_true hg, if_pos hg]
    rfl
  · rw [decide_eq_false hg, if_neg hg]
    rfl
def g_isGroup (e : Nat × Nat) : zCt := (179, [.inl (zN e.1), .inl (zN e.2)], [], [], [.inl (some (.inl (zN (bif decide ((e.1, e.2) ∈ gP) then 1 else 0))), [])], 1)
theorem g_isGroup_ok : ∀ e ∈ (List.range 4).flatMap (fun a => (List.range 7).map (fun b => (a, b + 2))), z_ctH [] (g_isGroup e) := z_tab_ok g_isGroup [] z_hds_ok 0 1 _ (by decide +kernel)
theorem b_isGroup {nS d a b : Nat} {M : aM} {x y : Int32} (hx : x = Int32.ofNat a) (hy : y = Int32.ofNat b) (ha : a ≤ 3) (hb : 2 ≤ b) (hb2 : b ≤ 8) : aC nS (d + 1) 179 [vI x, vI y] M (fun v M' => v = some (vI (if (a, b) ∈ gP then 1 else 0)) ∧ M = M') (fun _ _ => False) := by
  subst hx
  subst hy
  have hm : (a, b) ∈ (List.range 4).flatMap (fun a => (List.range 7).map (fun b => (a, b + 2))) := List.mem_flatMap.mpr ⟨a, List.mem_range.mpr (by omega), List.mem_map.mpr ⟨b - 2, List.mem_range.mpr (by omega), by rw [show b - 2 + 2 = b by omega]⟩⟩
  have h := zN_use (nS := nS) (d := d + 1) (M := M) (g_isGroup_ok _ hm) (r := bif decide ((a, b) ∈ gP) then 1 else 0) (by cases decide ((a, b) ∈ gP) <;> decide) rfl rfl (Nat.le_add_left 1 d) (as := [vI (Int32.ofNat a), vI (Int32.ofNat b)]) (h_Iv (zN_i (n := a) (by omega)) (h_Iv (zN_i (n := b) (by omega)) trivial)) z_MT0 h_MG0
  refine aC_post h (fun v M' hv => ⟨?_, hv.2⟩) (fun _ _ z => z)
  rw [hv.1]
  by_cases hg : (a, b) ∈ gP
  · rw [decide_eq_true hg, if_pos hg]
    rfl
  · rw [decide_eq_false hg, if_neg hg]
    rfl
theorem b_readGroup {nS d : Nat} {M : aM} {n p : Nat} {e : xB} (hX : XS M n p e) : aC nS (d + 6) 45 [vR 16 0] M (fun v M' => fr PT M M' ∧ XR n (s_group (M.1 2 0) n e p) v M') (fun _ _ => False) := by
  obtain ⟨hn, h4, hp, pn, hB⟩ := hX
  have hF := hB.1
  have hS := hB.2.2.1
  obtain ⟨w1, w3, h1, h3, s2⟩ := hB.2.1
  obtain ⟨o2, o8, k3⟩ := gP_o hF.1.1
  refine aC_mk rfl rfl ?_
  intro K hK _
  refine hK _ _ _ _ (hK _ _ _ _ (hK _ _ _ _ (hK _ _ _ _ (hK _ _ _ _ (hK _ _ _ _ (hK _ _ _ _ ⟨_, t_passTwo (by decide) (by decide) hn h4 hp pn, rfl, fun v0 M0 g0 => ?_⟩))))))
  obtain ⟨hf, hx⟩ := g0
  have hf' := P3w_T hf
  rcases hx with ⟨x, y, s, ht, rfl, hx, hy, hs⟩ | ⟨ht, rfl⟩
  · obtain ⟨l1, l2, l3, l4, l5⟩ := t_two_ok ht pn
    have hB0 := cB_3 hf hB
    refine hK _ _ _ _ ⟨fun _ => ?_, fun q => absurd q (by decide)⟩
    obtain ⟨x1, x2⟩ := xn_le (m := 3) (by decide) l1 l2
    obtain ⟨y1, y2⟩ := xn_le (m := 8) (by decide) (Int32.le_trans (by decide) l3) l4
    have y3 : 2 ≤ xn y := xn_ge (m := 2) (by decide) l3
    refine hK _ _ _ _ (hK _ _ _ _ (hK _ _ _ _ ⟨_, t_first, rfl, fun v21 M21 g21 => ?_⟩))
    obtain ⟨rfl, rfl⟩ := g21
    refine hK _ _ _ _ (hK _ _ _ _ (hK _ _ _ _ ⟨_, t_second, rfl, fun v28 M28 g28 => ?_⟩))
    obtain ⟨rfl, rfl⟩ := g28
    refine hK _ _ _ _ ⟨_, b_exists (hx.trans x1) (hy.trans y1) x2 y3 y2, rfl, fun v31 M31 g31 => ?_⟩
    obtain ⟨rfl, rfl⟩ := g31
    refine hK _ _ _ _ ⟨fun q => ?_, fun q => ?_⟩
    · have hg : (xn x, xn y) ∈ gP := by
        by_cases z : (xn x, xn y) ∈ gP
        · exact z
        · rw [if_neg z] at q
          exact absurd rfl q
      refine hK _ _ _ _ (hK _ _ _ _ (hK _ _ _ _ ⟨_, b_group, rfl, fun v49 M49 g49 => ?_⟩))
      obtain ⟨rfl, rfl⟩ := g49
      refine hK _ _ _ _ (hK _ _ _ _ (hK _ _ _ _ ⟨_, t_first, rfl, fun v56 M56 g56 => ?_⟩))
      obtain ⟨rfl, rfl⟩ := g56
      refine hK _ _ _ _ (hK _ _ _ _ (hK _ _ _ _ ⟨_, t_second, rfl, fun v63 M63 g63 => ?_⟩))
      obtain ⟨rfl, rfl⟩ := g63
      refine hK _ _ _ _ ⟨_, g_become (by decide) hg (hx.trans x1) (hy.trans y1) hB0.1, rfl, fun v66 M66 g66 => ?_⟩
      obtain ⟨rfl, f1, F1⟩ := g66
      refine hK _ _ _ _ (hK _ _ _ _ (hK _ _ _ _ ⟨_, b_startGroup, rfl, fun v73 M73 g73 => ?_⟩))
      obtain ⟨rfl, f2, z1, z2⟩ := g73
      refine hK _ _ _ _ (hK _ _ _ _ ⟨Or.inr rfl, ?_, Or.inl ⟨_, s, by unfold s_group; rw [ht]; exact if_pos hg, l5, rfl, ?_, ?_⟩⟩)
      · exact fr_t hf' (fr_t (PBx_T (PGa_Bx f1)) (PBx_T (P2_Bx f2)))
      · have c1 : ∀ q j, q = 4 ∨ q = 14 → M73.1 q 1 j = M0.1 q 1 j := fun q j hq => by
          rcases hq with rfl | rfl
          · exact (f2.1 4 1 j rfl).trans (f1.1 4 1 j rfl)
          · exact (f2.1 14 1 j rfl).trans (f1.1 14 1 j rfl)
        refine ⟨gF_fr F1 (fun q j h1 h2 => f2.1 q 1 j ?_), hB0.2.1, ⟨(c1 4 1 (Or.inl rfl)).trans hB0.2.2.1.1, (c1 4 2 (Or.inl rfl)).trans hB0.2.2.1.2.1, (c1 4 3 (Or.inl rfl)).trans hB0.2.2.1.2.2.1, (c1 4 5 (Or.inl rfl)).trans hB0.2.2.1.2.2.2.1, (c1 4 6 (Or.inl rfl)).trans hB0.2.2.1.2.2.2.2⟩, fun t ht => z2 t ht, fun j hj => (c1 14 j (Or.inr rfl)).trans (hB0.2.2.2.2.1 j hj), fun j hj => z1 j hj⟩
        show ((Nat.beq q 12 || Nat.beq q 13) && Nat.beq 1 1) = false
        rw [x_nbq (show ¬ q = 12 by omega), x_nbq (show ¬ q = 13 by omega)]
        rfl
      · exact (f2.1 3 0 1 rfl).trans ((f1.1 3 0 1 rfl).trans hs)
    · have hg : ¬ (xn x, xn y) ∈ gP := fun z => by
        rw [if_pos z] at q
        exact absurd q (by decide)
      refine hK _ _ _ _ (hK _ _ _ _ (hK _ _ _ _ ⟨_, t_refuseLatest, rfl, fun v41 M41 g41 => ?_⟩))
      obtain ⟨rfl, hf2⟩ := g41
      exact hK _ _ _ _ ⟨Or.inl rfl, fr_t hf' (P3_T hf2), Or.inr ⟨by unfold s_group; rw [ht]; exact if_neg hg, rfl, e, cB_3 (P3_w hf2) hB0⟩⟩
  · refine hK _ _ _ _ ⟨fun q => absurd rfl q, fun _ => ?_⟩
    exact hK _ _ _ _ (hK _ _ _ _ ⟨Or.inl rfl, hf', Or.inr ⟨by unfold s_group; rw [ht], rfl, e, cB_3 hf hB⟩⟩)
theorem b_readSize {nS d : Nat} {M : aM} {n p : Nat} {e : xB} (hX : XS M n p e) : aC nS (d + 6) 46 [vR 16 0] M (fun v M' => fr PT M M' ∧ XR n (s_size (M.1 2 0) n e p) v M') (fun _ _ => False) := by
  obtain ⟨hn, h4, hp, pn, hB⟩ := hX
  have hF := hB.1
  have hS := hB.2.2.1
  obtain ⟨w1, w3, h1, h3, s2⟩ := hB.2.1
  obtain ⟨o2, o8, k3⟩ := gP_o hF.1.1
  refine aC_mk rfl rfl ?_
  intro K hK _
  refine hK _ _ _ _ (hK _ _ _ _ (hK _ _ _ _ (hK _ _ _ _ (hK _ _ _ _ (hK _ _ _ _ (hK _ _ _ _ ⟨_, t_passTwo (by decide) (by decide) hn h4 hp pn, rfl, fun v0 M0 g0 => ?_⟩))))))
  obtain ⟨hf, hx⟩ := g0
  have hf' := P3w_T hf
  rcases hx with ⟨x, y, s, ht, rfl, hx, hy, hs⟩ | ⟨ht, rfl⟩
  · obtain ⟨l1, l2, l3, l4, l5⟩ := t_two_ok ht pn
    have hB0 := cB_3 hf hB
    refine hK _ _ _ _ ⟨fun _ => ?_, fun q => absurd q (by decide)⟩
    obtain ⟨x1, x2⟩ := xn_le (m := 3) (by decide) (Int32.le_trans (by decide) l1) l2
    obtain ⟨y1, y2⟩ := xn_le (m := 3) (by decide) (Int32.le_trans (by decide) l3) l4
    have x3 : 1 ≤ xn x := xn_ge (m := 1) (by decide) l1
    have y3 : 1 ≤ xn y := xn_ge (m := 1) (by decide) l3
    refine hK _ _ _ _ (hK _ _ _ _ (hK _ _ _ _ (hK _ _ _ _ (hK _ _ _ _ ⟨_, t_first, rfl, fun v24 M24 g24 => ?_⟩))))
    obtain ⟨rfl, rfl⟩ := g24
    refine hK _ _ _ _ (hK _ _ _ _ (hK _ _ _ _ ⟨_, t_second, rfl, fun v31 M31 g31 => ?_⟩))
    obtain ⟨rfl, rfl⟩ := g31
    refine hK _ _ _ _ (hK _ _ _ _ (hK _ _ _ _ ⟨_, b_shape, rfl, fun v38 M38 g38 => ?_⟩))
    obtain ⟨rfl, rfl⟩ := g38
    refine hK _ _ _ _ ⟨_, b_startPlaces (hx.trans x1) (hy.trans y1) hB0.2.2.1.2.2.1 x2 y2 s2, rfl, fun v41 M41 g41 => ?_⟩
    obtain ⟨rfl, f1, z0, z1, z2⟩ := g41
    refine hK _ _ _ _ (hK _ _ _ _ ⟨Or.inr rfl, ?_, Or.inl ⟨_, s, by unfold s_size; rw [ht], l5, rfl, ?_, ?_⟩⟩)
    · exact fr_t hf' (PBx_T (PS_Bx f1))
    · have c1 : ∀ q j, Nat.ble 5 q = true → Nat.ble q 14 = true → Nat.beq q 12 = false → Nat.beq q 14 = false → M41.1 q 1 j = M0.1 q 1 j := fun q j a1 a2 a3 a4 => f1.1 q 1 j (by
        show (((Nat.beq q 4 && !(Nat.beq j 4)) || (Nat.beq q 12 || Nat.beq q 14)) && Nat.beq 1 1) = false
        rw [a3, a4, x_nbq (show ¬ q = 4 by have := Nat.le_of_ble_eq_true a1; omega)]
        rfl)
      exact ⟨gF_fr hB0.1 (fun q j h1 h2 => c1 q j (Nat.ble_eq_true_of_le h1) (Nat.ble_eq_true_of_le (by omega)) (x_nbq (by omega)) (x_nbq (by omega))), ⟨x3, x2, y3, y2, s2⟩, z0, fun t ht => (c1 13 t rfl rfl rfl rfl).trans (hB0.2.2.2.1 t ht), fun j hj => z2 j hj, fun j hj => z1 j hj⟩
    · exact (f1.1 3 0 1 rfl).trans hs
  · refine hK _ _ _ _ ⟨fun q => absurd rfl q, fun _ => ?_⟩
    exact hK _ _ _ _ (hK _ _ _ _ ⟨Or.inl rfl, hf', Or.inr ⟨by unfold s_size; rw [ht], rfl, e, cB_3 hf hB⟩⟩)
theorem b_readShape {nS d : Nat} {M : aM} {n p : Nat} {e : xB} (hX : XS M n p e) : aC nS (d + 6) 47 [vR 16 0] M (fun v M' => fr PT M M' ∧ XR n (s_shape (M.1 2 0) n e p) v M') (fun _ _ => False) := by
  obtain ⟨hn, h4, hp, pn, hB⟩ := hX
  have hF := hB.1
  have hS := hB.2.2.1
  obtain ⟨w1, w3, h1, h3, s2⟩ := hB.2.1
  obtain ⟨o2, o8, k3⟩ := gP_o hF.1.1
  refine aC_mk rfl rfl ?_
  intro K hK _
  refine hK _ _ _ _ (hK _ _ _ _ (hK _ _ _ _ (hK _ _ _ _ (hK _ _ _ _ ⟨_, t_number hn h4 hp pn, rfl, fun v0 M0 g0 => ?_⟩))))
  obtain ⟨hf, hx⟩ := g0
  have hf' := P3_T hf
  rcases hx with ⟨x, s, ht, rfl, hs⟩ | ⟨ht, rfl⟩
  · obtain ⟨l1, l2, l3, l5⟩ := t_num_ok ht pn
    obtain ⟨x1, x2⟩ := xn_le (m := 2) (by decide) l1 l2
    have hB0 := cB_3 (P3_w hf) hB
    refine hK _ _ _ _ (hK _ _ _ _ (hK _ _ _ _ (hK _ _ _ _ ⟨fun _ => ?_, fun q => absurd q (x_m1' l1)⟩)))
    refine hK _ _ _ _ (hK _ _ _ _ (hK _ _ _ _ (hK _ _ _ _ (hK _ _ _ _ ⟨_, b_wide, rfl, fun v25 M25 g25 => ?_⟩))))
    obtain ⟨rfl, rfl⟩ := g25
    refine hK _ _ _ _ (hK _ _ _ _ (hK _ _ _ _ ⟨_, b_high, rfl, fun v32 M32 g32 => ?_⟩))
    obtain ⟨rfl, rfl⟩ := g32
    refine hK _ _ _ _ (hK _ _ _ _ ⟨_, b_startPlaces hB0.2.2.1.1 hB0.2.2.1.2.1 x1 w3 h3 x2, rfl, fun v36 M36 g36 => ?_⟩)
    obtain ⟨rfl, f1, z0, z1, z2⟩ := g36
    refine hK _ _ _ _ (hK _ _ _ _ ⟨Or.inr rfl, ?_, Or.inl ⟨_, s, by unfold s_shape; rw [ht], l5, rfl, ?_, ?_⟩⟩)
    · exact fr_t hf' (PBx_T (PS_Bx f1))
    · have c1 : ∀ q j, Nat.ble 5 q = true → Nat.ble q 14 = true → Nat.beq q 12 = false → Nat.beq q 14 = false → M36.1 q 1 j = M0.1 q 1 j := fun q j a1 a2 a3 a4 => f1.1 q 1 j (by
        show (((Nat.beq q 4 && !(Nat.beq j 4)) || (Nat.beq q 12 || Nat.beq q 14)) && Nat.beq 1 1) = false
        rw [a3, a4, x_nbq (show ¬ q = 4 by have := Nat.le_of_ble_eq_true a1; omega)]
        rfl)
      exact ⟨gF_fr hB0.1 (fun q j h1 h2 => c1 q j (Nat.ble_eq_true_of_le h1) (Nat.ble_eq_true_of_le (by omega)) (x_nbq (by omega)) (x_nbq (by omega))), ⟨w1, w3, h1, h3, x2⟩, z0, fun t ht => (c1 13 t rfl rfl rfl rfl).trans (hB0.2.2.2.1 t ht), fun j hj => z2 j hj, fun j hj => z1 j hj⟩
    · exact (f1.1 3 0 1 rfl).trans hs
  · refine hK _ _ _ _ (hK _ _ _ _ (hK _ _ _ _ (hK _ _ _ _ ⟨fun q => absurd rfl q, fun _ => ?_⟩)))
    exact hK _ _ _ _ (hK _ _ _ _ ⟨Or.inl rfl, hf', Or.inr ⟨by unfold s_shape; rw [ht], rfl, e, cB_3 (P3_w hf) hB⟩⟩)
theorem b_readWeight {nS d : Nat} {M : aM} {n p : Nat} {e : xB} (hX : XS M n p e) : aC nS (d + 6) 48 [vR 16 0] M (fun v M' => fr PT M M' ∧ XR n (s_weight (M.1 2 0) n e p) v M') (fun _ _ => False) := by
  obtain ⟨hn, h4, hp, pn, hB⟩ := hX
  have hF := hB.1
  have hS := hB.2.2.1
  obtain ⟨w1, w3, h1, h3, s2⟩ := hB.2.1
  obtain ⟨o2, o8, k3⟩ := gP_o hF.1.1
  refine aC_mk rfl rfl ?_
  intro K hK _
  refine hK _ _ _ _ (hK _ _ _ _ (hK _ _ _ _ (hK _ _ _ _ (hK _ _ _ _ (hK _ _ _ _ ⟨_, b_group, rfl, fun v9 M9 g9 => ?_⟩)))))
  obtain ⟨rfl, rfl⟩ := g9
  refine hK _ _ _ _ ⟨_, b_order, rfl, fun v12 M12 g12 => ?_⟩
  obtain ⟨rfl, rfl⟩ := g12
  rw [hF.1.2.2]
  refine hK _ _ _ _ (hK _ _ _ _ (hK _ _ _ _ (hK _ _ _ _ (hK _ _ _ _ ⟨_, t_passTwo (by decide) (by decide) hn h4 hp pn, rfl, fun v0 M0 g0 => ?_⟩))))
  obtain ⟨hf, hx⟩ := g0
  have hf' := P3w_T hf
  rcases hx with ⟨x, y, s, ht, rfl, hx, hy, hs⟩ | ⟨ht, rfl⟩
  · obtain ⟨l1, l2, l3, l4, l5⟩ := t_two_ok ht pn
    have hB0 := cB_3 hf hB
    refine hK _ _ _ _ ⟨fun _ => ?_, fun q => absurd q (by decide)⟩
    obtain ⟨x1, x2⟩ := xn_le (m := e.1.2 - 1) (by omega) l1 (by rw [← x_sub (y := 1) (by omega) (by omega)]; exact l2)
    refine hK _ _ _ _ (hK _ _ _ _ (hK _ _ _ _ (hK _ _ _ _ (hK _ _ _ _ ⟨_, t_first, rfl, fun v36 M36 g36 => ?_⟩))))
    obtain ⟨rfl, rfl⟩ := g36
    refine hK _ _ _ _ (hK _ _ _ _ (hK _ _ _ _ ⟨_, t_second, rfl, fun v43 M43 g43 => ?_⟩))
    obtain ⟨rfl, rfl⟩ := g43
    refine hK _ _ _ _ ⟨_, b_weighKin (t := xn x) hB0.1 (hx.trans x1) (by omega), rfl, fun v46 M46 g46 => ?_⟩
    obtain ⟨rfl, f1, z1⟩ := g46
    refine hK _ _ _ _ (hK _ _ _ _ ⟨Or.inr rfl, ?_, Or.inl ⟨_, s, by unfold s_weight; rw [ht], l5, rfl, ?_, ?_⟩⟩)
    · exact fr_t hf' (PBx_T (PR_Bx f1 (by decide) (by decide)))
    · have c1 : ∀ q j, ¬ q = 13 → M46.1 q 1 j = M0.1 q 1 j := fun q j hq => f1.1 q 1 j (PR_n hq)
      refine ⟨gF_fr hB0.1 (fun q j h1 h2 => c1 q j (by omega)), hB0.2.1, ⟨(c1 4 1 (by decide)).trans hB0.2.2.1.1, (c1 4 2 (by decide)).trans hB0.2.2.1.2.1, (c1 4 3 (by decide)).trans hB0.2.2.1.2.2.1, (c1 4 5 (by decide)).trans hB0.2.2.1.2.2.2.1, (c1 4 6 (by decide)).trans hB0.2.2.1.2.2.2.2⟩, fun t ht => ?_, fun j hj => (c1 14 j (by decide)).trans (hB0.2.2.2.2.1 j hj), fun j hj => (c1 12 j (by decide)).trans (hB0.2.2.2.2.2 j hj)⟩
      rw [z1 t ht, hy]
      show kset _ _ _ _ _ t = kset _ _ _ _ _ t
      unfold kset
      rw [hB0.2.2.2.1 t ht]
    · exact (f1.1 3 0 1 rfl).trans hs
  · refine hK _ _ _ _ ⟨fun q => absurd rfl q, fun _ => ?_⟩
    exact hK _ _ _ _ (hK _ _ _ _ ⟨Or.inl rfl, hf', Or.inr ⟨by unfold s_weight; rw [ht], rfl, e, cB_3 hf hB⟩⟩)
theorem b_readHole {nS d : Nat} {M : aM} {n p : Nat} {e : xB} (hX : XS M n p e) : aC nS (d + 6) 49 [vR 16 0] M (fun v M' => fr PT M M' ∧ XR n (s_hole (M.1 2 0) n e p) v M') (fun _ _ => False) := by
  obtain ⟨hn, h4, hp, pn, hB⟩ := hX
  have hF := hB.1
  have hS := hB.2.2.1
  obtain ⟨w1, w3, h1, h3, s2⟩ := hB.2.1
  obtain ⟨o2, o8, k3⟩ := gP_o hF.1.1
  refine aC_mk rfl rfl ?_
  intro K hK _
  refine hK _ _ _ _ (hK _ _ _ _ (hK _ _ _ _ (hK _ _ _ _ (hK _ _ _ _ (hK _ _ _ _ (hK _ _ _ _ ⟨_, t_passTwo (by decide) (by decide) hn h4 hp pn, rfl, fun v0 M0 g0 => ?_⟩))))))
  obtain ⟨hf, hx⟩ := g0
  have hf' := P3w_T hf
  rcases hx with ⟨x, y, s, ht, rfl, hx, hy, hs⟩ | ⟨ht, rfl⟩
  · obtain ⟨l1, l2, l3, l4, l5⟩ := t_two_ok ht pn
    have hB0 := cB_3 hf hB
    refine hK _ _ _ _ ⟨fun _ => ?_, fun q => absurd q (by decide)⟩
    obtain ⟨x1, x2⟩ := xn_le (m := 3) (by decide) l1 l2
    obtain ⟨y1, y2⟩ := xn_le (m := 3) (by decide) l3 l4
    refine hK _ _ _ _ (hK _ _ _ _ (hK _ _ _ _ (hK _ _ _ _ (hK _ _ _ _ ⟨_, t_first, rfl, fun v24 M24 g24 => ?_⟩))))
    obtain ⟨rfl, rfl⟩ := g24
    refine hK _ _ _ _ (hK _ _ _ _ (hK _ _ _ _ ⟨_, t_second, rfl, fun v31 M31 g31 => ?_⟩))
    obtain ⟨rfl, rfl⟩ := g31
    refine hK _ _ _ _ ⟨_, b_squareAt hB0.2.2.1 w3 h3, rfl, fun v34 M34 g34 => ?_⟩
    obtain ⟨hq, rfl⟩ := g34
    rcases hq with ⟨a, b, ha, hb, ea, eb, rfl⟩ | ⟨hno, rfl⟩
    · have xa : xn x = a := x_inj (by omega) (by omega) (x1.symm.trans (hx.symm.trans ea))
      have yb : xn y = b := x_inj (by omega) (by omega) (y1.symm.trans (hy.symm.trans eb))
      refine hK _ _ _ _ (hK _ _ _ _ (hK _ _ _ _ (hK _ _ _ _ ⟨fun _ => ?_, fun q => absurd q (x_m1 (by omega))⟩)))
      refine hK _ _ _ _ (hK _ _ _ _ (hK _ _ _ _ (hK _ _ _ _ ⟨_, b_makeHole rfl (show b * 4 + a < 16 by omega), rfl, fun v56 M56 g56 => ?_⟩)))
      obtain ⟨rfl, rfl⟩ := g56
      refine hK _ _ _ _ (hK _ _ _ _ ⟨Or.inr rfl, ?_, Or.inl ⟨_, s, by unfold s_hole; rw [ht]; exact if_pos ⟨by rw [xa]; exact ha, by rw [yb]; exact hb⟩, l5, rfl, ?_, ?_⟩⟩)
      · exact fr_t hf' (PBx_T (fr_p fr_r (PBx_mk (by decide) (by decide) (by omega))))
      · have c1 : ∀ q j, ¬ q = 14 → (a_pI M0 14 1 (b * 4 + a) 1).1 q 1 j = M0.1 q 1 j := fun q j hq => x_pn (fun z => hq z.1)
        refine ⟨gF_fr hB0.1 (fun q j h1 h2 => c1 q j (by omega)), hB0.2.1, ⟨(c1 4 1 (by decide)).trans hB0.2.2.1.1, (c1 4 2 (by decide)).trans hB0.2.2.1.2.1, (c1 4 3 (by decide)).trans hB0.2.2.1.2.2.1, (c1 4 5 (by decide)).trans hB0.2.2.1.2.2.2.1, (c1 4 6 (by decide)).trans hB0.2.2.1.2.2.2.2⟩, fun t ht => (c1 13 t (by decide)).trans (hB0.2.2.2.1 t ht), ?_, ?_⟩
        · intro j hj
          show _ = bif Nat.beq j (xn y * 4 + xn x) then (1 : Int32) else e.2.2.2.1 j
          rw [xa, yb]
          by_cases he : j = b * 4 + a
          · rw [he, Nat.beq_refl, cond_true]
            exact x_pe
          · rw [x_nbq he, cond_false, x_pn (fun z => he z.2.2)]
            exact hB0.2.2.2.2.1 j hj
        · exact fun j hj => (c1 12 j (by decide)).trans (hB0.2.2.2.2.2 j hj)
      · exact (x_pn (fun z => absurd z.1 (by decide))).trans hs
    · refine hK _ _ _ _ (hK _ _ _ _ (hK _ _ _ _ (hK _ _ _ _ ⟨fun q => absurd rfl q, fun _ => ?_⟩)))
      refine hK _ _ _ _ (hK _ _ _ _ (hK _ _ _ _ ⟨_, t_refuseLatest, rfl, fun v47 M47 g47 => ?_⟩))
      obtain ⟨rfl, hf2⟩ := g47
      exact hK _ _ _ _ ⟨Or.inl rfl, fr_t hf' (P3_T hf2), Or.inr ⟨by unfold s_hole; rw [ht]; exact if_neg (fun z => hno ⟨xn x, xn y, z.1, z.2, hx.trans x1, hy.trans y1⟩), rfl, e, cB_3 (P3_w hf2) hB0⟩⟩
  · refine hK _ _ _ _ ⟨fun q => absurd rfl q, fun _ => ?_⟩
    exact hK _ _ _ _ (hK _ _ _ _ ⟨Or.inl rfl, hf', Or.inr ⟨by unfold s_hole; rw [ht], rfl, e, cB_3 hf hB⟩⟩)
theorem b_readLine {nS d : Nat} {M : aM} {n p : Nat} {e : xB} {z : Nat} {zz : Int32} (hz : z ≤ 1) (hzn : zz = Int32.ofNat z) (hX : XS M n p e) : aC nS (d + 6) 50 [vR 16 0, vI zz] M (fun v M' => fr PT M M' ∧ XR n (s_line z (M.1 2 0) n e p) v M') (fun _ _ => False) := by
  obtain ⟨hn, h4, hp, pn, hB⟩ := hX
  have hF := hB.1
  have hS := hB.2.2.1
  obtain ⟨w1, w3, h1, h3, s2⟩ := hB.2.1
  obtain ⟨o2, o8, k3⟩ := gP_o hF.1.1
  refine aC_mk rfl rfl ?_
  intro K hK _
  refine hK _ _ _ _ (hK _ _ _ _ (hK _ _ _ _ (hK _ _ _ _ (hK _ _ _ _ (hK _ _ _ _ (hK _ _ _ _ ⟨_, t_passTwo (by decide) (by decide) hn h4 hp pn, rfl, fun v0 M0 g0 => ?_⟩))))))
  obtain ⟨hf, hx⟩ := g0
  have hf' := P3w_T hf
  rcases hx with ⟨x, y, s, ht, rfl, hx, hy, hs⟩ | ⟨ht, rfl⟩
  · obtain ⟨l1, l2, l3, l4, l5⟩ := t_two_ok ht pn
    have hB0 := cB_3 hf hB
    refine hK _ _ _ _ ⟨fun _ => ?_, fun q => absurd q (by decide)⟩
    obtain ⟨x1, x2⟩ := xn_le (m := 3) (by decide) l1 l2
    obtain ⟨y1, y2⟩ := xn_le (m := 3) (by decide) l3 l4
    refine hK _ _ _ _ (hK _ _ _ _ (hK _ _ _ _ (hK _ _ _ _ (hK _ _ _ _ ⟨_, t_first, rfl, fun v24 M24 g24 => ?_⟩))))
    obtain ⟨rfl, rfl⟩ := g24
    refine hK _ _ _ _ (hK _ _ _ _ (hK _ _ _ _ ⟨_, t_second, rfl, fun v31 M31 g31 => ?_⟩))
    obtain ⟨rfl, rfl⟩ := g31
    refine hK _ _ _ _ (hK _ _ _ _ ⟨_, b_lineAt hB0.2.2.1 w1 w3 h1 h3 hz hzn, rfl, fun v35 M35 g35 => ?_⟩)
    obtain ⟨hq, rfl⟩ := g35
    have rf : ∀ L2 : Int32, (s_line z (M.1 2 0) n e p = none) → K 44 [some (vR 16 0), some (vI zz), some (vI L2), none] [] M0 := by
      intro L2 hno
      refine hK _ _ _ _ (hK _ _ _ _ (hK _ _ _ _ ⟨_, t_refuseLatest, rfl, fun v48 M48 g48 => ?_⟩))
      obtain ⟨rfl, hf2⟩ := g48
      exact hK _ _ _ _ ⟨Or.inl rfl, fr_t hf' (P3_T hf2), Or.inr ⟨hno, rfl, e, cB_3 (P3_w hf2) hB0⟩⟩
    rcases hq with ⟨a, b, ha, hb, ea, eb, hq⟩ | ⟨hno, rfl⟩
    · have xa : xn x = a := x_inj (by omega) (by omega) (x1.symm.trans (hx.symm.trans ea))
      have yb : xn y = b := x_inj (by omega) (by omega) (y1.symm.trans (hy.symm.trans eb))
      rcases hq with ⟨hv, rfl⟩ | ⟨hv, rfl⟩
      · have c9 := xcx_b (s := e.2.1.2.2) w1 w3 ha
        have r9 := xcy_b (s := e.2.1.2.2) h1 h3 hb
        have lb : xln e.2.1.1 e.2.1.2.1 e.2.1.2.2 a b z < 32 := by
          unfold xln xco
          omega
        refine hK _ _ _ _ (hK _ _ _ _ (hK _ _ _ _ (hK _ _ _ _ ⟨fun _ => ?_, fun q => absurd q (x_m1 (by omega))⟩)))
        refine hK _ _ _ _ (hK _ _ _ _ (hK _ _ _ _ (hK _ _ _ _ (hK _ _ _ _ (hK _ _ _ _ ⟨_, b_group, rfl, fun v61 M61 g61 => ?_⟩)))))
        obtain ⟨rfl, rfl⟩ := g61
        refine hK _ _ _ _ ⟨_, b_order, rfl, fun v64 M64 g64 => ?_⟩
        obtain ⟨rfl, rfl⟩ := g64
        rw [hB0.1.1.2.2]
        refine hK _ _ _ _ (hK _ _ _ _ (hK _ _ _ _ ⟨_, t_number ((hf.1 1 0 1 rfl).trans hn) h4 hs l5, rfl, fun v69 M69 g69 => ?_⟩))
        obtain ⟨hf3, hu⟩ := g69
        rw [PT_row hf'] at hu
        have hB3 := cB_3 (P3_w hf3) hB0
        rcases hu with ⟨t, q, h5, rfl, hq⟩ | ⟨h5, rfl⟩
        · obtain ⟨m1, m2, m3, m5⟩ := t_num_ok h5 l5
          refine hK _ _ _ _ (hK _ _ _ _ (hK _ _ _ _ (hK _ _ _ _ ⟨fun _ => ?_, fun q => absurd q (x_m1' m1)⟩)))
          refine hK _ _ _ _ (hK _ _ _ _ (hK _ _ _ _ (hK _ _ _ _ (hK _ _ _ _ ⟨_, b_putTurn rfl lb, rfl, fun v86 M86 g86 => ?_⟩))))
          obtain ⟨rfl, rfl⟩ := g86
          refine hK _ _ _ _ (hK _ _ _ _ ⟨Or.inr rfl, ?_, Or.inl ⟨_, q, by unfold s_line; rw [ht]; dsimp only; rw [xa, yb, if_pos hv, h5], m5, rfl, ?_, ?_⟩⟩)
          · exact fr_t hf' (fr_t (P3_T hf3) (PBx_T (fr_p fr_r (PBx_mk (by decide) (by decide) (by omega)))))
          · have c1 : ∀ q2 j, ¬ q2 = 12 → (a_pI M69 12 1 (xln e.2.1.1 e.2.1.2.1 e.2.1.2.2 a b z) t).1 q2 1 j = M69.1 q2 1 j := fun q2 j hq2 => x_pn (fun z => hq2 z.1)
            refine ⟨gF_fr hB3.1 (fun q j h1 h2 => c1 q j (by omega)), hB3.2.1, ⟨(c1 4 1 (by decide)).trans hB3.2.2.1.1, (c1 4 2 (by decide)).trans hB3.2.2.1.2.1, (c1 4 3 (by decide)).trans hB3.2.2.1.2.2.1, (c1 4 5 (by decide)).trans hB3.2.2.1.2.2.2.1, (c1 4 6 (by decide)).trans hB3.2.2.1.2.2.2.2⟩, fun t ht => (c1 13 t (by decide)).trans (hB3.2.2.2.1 t ht), fun j hj => (c1 14 j (by decide)).trans (hB3.2.2.2.2.1 j hj), fun j hj => ?_⟩
            show _ = bif Nat.beq j (xln e.2.1.1 e.2.1.2.1 e.2.1.2.2 a b z) then t else e.2.2.2.2 j
            by_cases he : j = xln e.2.1.1 e.2.1.2.1 e.2.1.2.2 a b z
            · rw [he, Nat.beq_refl, cond_true]
              exact x_pe
            · rw [x_nbq he, cond_false, x_pn (fun z => he z.2.2)]
              exact hB3.2.2.2.2.2 j hj
          · exact (x_pn (fun z => absurd z.1 (by decide))).trans hq
        · refine hK _ _ _ _ (hK _ _ _ _ (hK _ _ _ _ (hK _ _ _ _ ⟨fun q => absurd rfl q, fun _ => ?_⟩)))
          exact hK _ _ _ _ (hK _ _ _ _ ⟨Or.inl rfl, fr_t hf' (P3_T hf3), Or.inr ⟨by unfold s_line; rw [ht]; dsimp only; rw [xa, yb, if_pos hv, h5], rfl, e, hB3⟩⟩)
      · refine hK _ _ _ _ (hK _ _ _ _ (hK _ _ _ _ (hK _ _ _ _ ⟨fun q => absurd rfl q, fun _ => ?_⟩)))
        refine rf _ ?_
        unfold s_line
        rw [ht]
        dsimp only
        rw [xa, yb, hv]
        rfl
    · refine hK _ _ _ _ (hK _ _ _ _ (hK _ _ _ _ (hK _ _ _ _ ⟨fun q => absurd rfl q, fun _ => ?_⟩)))
      refine rf _ ?_
      unfold s_line
      rw [ht]
      dsimp only
      rw [if_neg]
      intro hv
      unfold xlv at hv
      rw [Bool.and_eq_true, Bool.and_eq_true] at hv
      apply hno
      rw [hx, hy, x1, y1]
      exact ⟨(hI_le (a := 0) (by decide) (by omega)).mpr (Nat.zero_le _), (hI_le (by omega) (by omega)).mpr (Nat.le_of_ble_eq_true hv.1.1), (hI_le (a := 0) (by decide) (by omega)).mpr (Nat.zero_le _), (hI_le (by omega) (by omega)).mpr (Nat.le_of_ble_eq_true hv.1.2)⟩
  · refine hK _ _ _ _ ⟨fun q => absurd rfl q, fun _ => ?_⟩
    exact hK _ _ _ _ (hK _ _ _ _ ⟨Or.inl rfl, hf', Or.inr ⟨by unfold s_line; rw [ht], rfl, e, cB_3 hf hB⟩⟩)
theorem b_readPart {nS d : Nat} {M : aM} {n p : Nat} {e : xB} (hX : XS M n p e) : aC nS (d + 9) 44 [vR 16 0] M (fun v M' => fr PT M M' ∧ XR n (t_part (M.1 2 0) n e p) v M') (fun _ _ => False) := by
  obtain ⟨hn, h4, hp, pn, hB⟩ := hX
  have sn : t_sk (M.1 2 0) n p ≤ n := t_go_le pn
  have s1 : t_sk (M.1 2 0) n p ≤ t_go (t_az (M.1 2 0)) n (t_sk (M.1 2 0) n p) := t_go_ge sn
  have s2 : t_go (t_az (M.1 2 0)) n (t_sk (M.1 2 0) n p) ≤ n := t_go_le sn
  refine aC_mk rfl rfl ?_
  intro K hK _
  refine hK _ _ _ _ (hK _ _ _ _ (hK _ _ _ _ ⟨_, t_word hn h4 hp pn, rfl, fun v4 M4 g4 => ?_⟩))
  obtain ⟨rfl, hf, hb, hq⟩ := g4
  have er : M4.1 2 0 = M.1 2 0 := by
    funext j
    exact hf.1 2 0 j rfl
  have hn4 : M4.1 1 0 1 = Int32.ofNat n := (hf.1 1 0 1 rfl).trans hn
  have hX4 : XS M4 n (t_go (t_az (M.1 2 0)) n (t_sk (M.1 2 0) n p)) e := ⟨hn4, h4, hq, s2, cB_3 (P3_w hf) hB⟩
  have rt9 : ∀ {pc : Nat} {L : aL} {v : Option aV} {M5 : aM} {res : Option (xB × Nat)}, ((∀ y : Int32, v = some (vI y) → (y = 0 ∨ y = 1) → (fr PT M M5 ∧ XR n (t_part (M.1 2 0) n e p) (some (vI y)) M5) → K pc L (a_res v []) M5)) → t_part (M.1 2 0) n e p = res → fr PT M4 M5 → XR n res v M5 → K pc L (a_res v []) M5 := by
    intro pc L v M5 res hk he hf5 hx
    have hx2 : fr PT M M5 := fr_t (P3_T hf) hf5
    rcases hx with ⟨e', q, a1, a2, rfl, a3, a4⟩ | ⟨a1, rfl, a5⟩
    · exact hk 1 rfl (Or.inr rfl) ⟨hx2, Or.inl ⟨e', q, he.trans a1, a2, rfl, a3, a4⟩⟩
    · exact hk 0 rfl (Or.inl rfl) ⟨hx2, Or.inr ⟨he.trans a1, rfl, a5⟩⟩
  have wd : ∀ {ks : Nat} {bs : List Nat}, a_stx ks = some bs → bs.length < 1000 → aC nS (d + 8) 101 [vR 3 0, vR ks 0] M4 (fun v M' => ((t_wd (M.1 2 0) n p bs = true ∧ v = some (vI 1)) ∨ (t_wd (M.1 2 0) n p bs = false ∧ v = some (vI 0))) ∧ M4 = M') (fun _ _ => False) := by
    intro ks bs hk hl
    refine aC_post (t_isw hk hl hn4 h4 hb hq s1 s2) (fun v M' hv => ⟨?_, hv.2⟩) (fun _ _ z => z)
    rw [hv.1, er]
    have e9 : (Nat.beq (t_go (t_az (M.1 2 0)) n (t_sk (M.1 2 0) n p) - t_sk (M.1 2 0) n p) bs.length && t_eqf (M.1 2 0) (t_sk (M.1 2 0) n p) bs) = t_wd (M.1 2 0) n p bs := rfl
    rw [e9]
    cases t_wd (M.1 2 0) n p bs with
    | true => exact Or.inl ⟨rfl, rfl⟩
    | false => exact Or.inr ⟨rfl, rfl⟩
  refine hK _ _ _ _ (hK _ _ _ _ (hK _ _ _ _ (hK _ _ _ _ ⟨_, wd (bs := tw_group) rfl (by decide), rfl, fun v13 M13 g13 => ?_⟩)))
  obtain ⟨hw0, rfl⟩ := g13
  rcases hw0 with ⟨hw0, rfl⟩ | ⟨hw0, rfl⟩
  · refine hK _ _ _ _ ⟨fun q => absurd q (by decide), fun _ => ?_⟩
    refine hK _ _ _ _ (hK _ _ _ _ ⟨_, b_readGroup hX4, rfl, fun v M5 g => ?_⟩)
    rw [er] at g
    refine rt9 ?_ ?_ g.1 g.2
    · rintro y rfl z1 z2
      exact hK _ _ _ _ ⟨z1, z2⟩
    · unfold t_part
      rw [if_pos hw0]
  · refine hK _ _ _ _ ⟨fun _ => ?_, fun q => absurd rfl q⟩
    refine hK _ _ _ _ (hK _ _ _ _ (hK _ _ _ _ (hK _ _ _ _ ⟨_, wd (bs := tw_size) rfl (by decide), rfl, fun v30 M30 g30 => ?_⟩)))
    obtain ⟨hw1, rfl⟩ := g30
    rcases hw1 with ⟨hw1, rfl⟩ | ⟨hw1, rfl⟩
    · refine hK _ _ _ _ ⟨fun q => absurd q (by decide), fun _ => ?_⟩
      refine hK _ _ _ _ (hK _ _ _ _ ⟨_, b_readSize hX4, rfl, fun v M5 g => ?_⟩)
      rw [er] at g
      refine rt9 ?_ ?_ g.1 g.2
      · rintro y rfl z1 z2
        exact hK _ _ _ _ ⟨z1, z2⟩
      · unfold t_part
        rw [if_neg (by rw [hw0]; decide)]
        rw [if_pos hw1]
    · refine hK _ _ _ _ ⟨fun _ => ?_, fun q => absurd rfl q⟩
      refine hK _ _ _ _ (hK _ _ _ _ (hK _ _ _ _ (hK _ _ _ _ ⟨_, wd (bs := tw_shape) rfl (by decide), rfl, fun v47 M47 g47 => ?_⟩)))
      obtain ⟨hw2, rfl⟩ := g47
      rcases hw2 with ⟨hw2, rfl⟩ | ⟨hw2, rfl⟩
      · refine hK _ _ _ _ ⟨fun q => absurd q (by decide), fun _ => ?_⟩
        refine hK _ _ _ _ (hK _ _ _ _ ⟨_, b_readShape hX4, rfl, fun v M5 g => ?_⟩)
        rw [er] at g
        refine rt9 ?_ ?_ g.1 g.2
        · rintro y rfl z1 z2
          exact hK _ _ _ _ ⟨z1, z2⟩
        · unfold t_part
          rw [if_neg (by rw [hw0]; decide)]
          rw [if_neg (by rw [hw1]; decide)]
          rw [if_pos hw2]
      · refine hK _ _ _ _ ⟨fun _ => ?_, fun q => absurd rfl q⟩
        refine hK _ _ _ _ (hK _ _ _ _ (hK _ _ _ _ (hK _ _ _ _ ⟨_, wd (bs := tw_weight) rfl (by decide), rfl, fun v64 M64 g64 => ?_⟩)))
        obtain ⟨hw3, rfl⟩ := g64
        rcases hw3 with ⟨hw3, rfl⟩ | ⟨hw3, rfl⟩
        · refine hK _ _ _ _ ⟨fun q => absurd q (by decide), fun _ => ?_⟩
          refine hK _ _ _ _ (hK _ _ _ _ ⟨_, b_readWeight hX4, rfl, fun v M5 g => ?_⟩)
          rw [er] at g
          refine rt9 ?_ ?_ g.1 g.2
          · rintro y rfl z1 z2
            exact hK _ _ _ _ ⟨z1, z2⟩
          · unfold t_part
            rw [if_neg (by rw [hw0]; decide)]
            rw [if_neg (by rw [hw1]; decide)]
            rw [if_neg (by rw [hw2]; decide)]
            rw [if_pos hw3]
        · refine hK _ _ _ _ ⟨fun _ => ?_, fun q => absurd rfl q⟩
          refine hK _ _ _ _ (hK _ _ _ _ (hK _ _ _ _ (hK _ _ _ _ ⟨_, wd (bs := tw_hole) rfl (by decide), rfl, fun v81 M81 g81 => ?_⟩)))
          obtain ⟨hw4, rfl⟩ := g81
          rcases hw4 with ⟨hw4, rfl⟩ | ⟨hw4, rfl⟩
          · refine hK _ _ _ _ ⟨fun q => absurd q (by decide), fun _ => ?_⟩
            refine hK _ _ _ _ (hK _ _ _ _ ⟨_, b_readHole hX4, rfl, fun v M5 g => ?_⟩)
            rw [er] at g
            refine rt9 ?_ ?_ g.1 g.2
            · rintro y rfl z1 z2
              exact hK _ _ _ _ ⟨z1, z2⟩
            · unfold t_part
              rw [if_neg (by rw [hw0]; decide)]
              rw [if_neg (by rw [hw1]; decide)]
              rw [if_neg (by rw [hw2]; decide)]
              rw [if_neg (by rw [hw3]; decide)]
              rw [if_pos hw4]
          · refine hK _ _ _ _ ⟨fun _ => ?_, fun q => absurd rfl q⟩
            refine hK _ _ _ _ (hK _ _ _ _ (hK _ _ _ _ (hK _ _ _ _ ⟨_, wd (bs := tw_east) rfl (by decide), rfl, fun v98 M98 g98 => ?_⟩)))
            obtain ⟨hw5, rfl⟩ := g98
            rcases hw5 with ⟨hw5, rfl⟩ | ⟨hw5, rfl⟩
            · refine hK _ _ _ _ ⟨fun q => absurd q (by decide), fun _ => ?_⟩
              refine hK _ _ _ _ (hK _ _ _ _ (hK _ _ _ _ ⟨_, b_readLine (by decide) rfl hX4, rfl, fun v M5 g => ?_⟩))
              rw [er] at g
              refine rt9 ?_ ?_ g.1 g.2
              · rintro y rfl z1 z2
                exact hK _ _ _ _ ⟨z1, z2⟩
              · unfold t_part
                rw [if_neg (by rw [hw0]; decide)]
                rw [if_neg (by rw [hw1]; decide)]
                rw [if_neg (by rw [hw2]; decide)]
                rw [if_neg (by rw [hw3]; decide)]
                rw [if_neg (by rw [hw4]; decide)]
                rw [if_pos hw5]
            · refine hK _ _ _ _ ⟨fun _ => ?_, fun q => absurd rfl q⟩
              refine hK _ _ _ _ (hK _ _ _ _ (hK _ _ _ _ (hK _ _ _ _ ⟨_, wd (bs := tw_north) rfl (by decide), rfl, fun v116 M116 g116 => ?_⟩)))
              obtain ⟨hw6, rfl⟩ := g116
              rcases hw6 with ⟨hw6, rfl⟩ | ⟨hw6, rfl⟩
              · refine hK _ _ _ _ ⟨fun q => absurd q (by decide), fun _ => ?_⟩
                refine hK _ _ _ _ (hK _ _ _ _ (hK _ _ _ _ ⟨_, b_readLine (by decide) rfl hX4, rfl, fun v M5 g => ?_⟩))
                rw [er] at g
                refine rt9 ?_ ?_ g.1 g.2
                · rintro y rfl z1 z2
                  exact hK _ _ _ _ ⟨z1, z2⟩
                · unfold t_part
                  rw [if_neg (by rw [hw0]; decide)]
                  rw [if_neg (by rw [hw1]; decide)]
                  rw [if_neg (by rw [hw2]; decide)]
                  rw [if_neg (by rw [hw3]; decide)]
                  rw [if_neg (by rw [hw4]; decide)]
                  rw [if_neg (by rw [hw5]; decide)]
                  rw [if_pos hw6]
              · refine hK _ _ _ _ ⟨fun _ => ?_, fun q => absurd rfl q⟩
                refine hK _ _ _ _ (hK _ _ _ _ (hK _ _ _ _ ⟨_, t_refuseLatest, rfl, fun v M5 g => ?_⟩))
                obtain ⟨rfl, hf2⟩ := g
                refine hK _ _ _ _ ⟨Or.inl rfl, fr_t (P3_T hf) (P3_T hf2), Or.inr ⟨?_, rfl, e, cB_3 (P3_w hf2) hX4.2.2.2.2⟩⟩
                unfold t_part
                rw [if_neg (by rw [hw0]; decide)]
                rw [if_neg (by rw [hw1]; decide)]
                rw [if_neg (by rw [hw2]; decide)]
                rw [if_neg (by rw [hw3]; decide)]
                rw [if_neg (by rw [hw4]; decide)]
                rw [if_neg (by rw [hw5]; decide)]
                rw [if_neg (by rw [hw6]; decide)]
theorem b_read {nS d : Nat} {M : aM} {n : Nat} {e : xB} (hn : M.1 1 0 1 = Int32.ofNat n) (h4 : n ≤ 400) (hB : cB 1 M e) : aC nS (d + 10) 43 [vR 16 0] M (fun v M' => fr PT M M' ∧ ((∃ e', t_read (M.1 2 0) n e = some e' ∧ v = some (vI 1) ∧ cB 1 M' e') ∨ (t_read (M.1 2 0) n e = none ∧ v = some (vI 0) ∧ ∃ e', cB 1 M' e'))) (fun _ _ => False) := by
  refine aC_mk rfl rfl ?_
  intro K hK _
  have lp : ∀ (m u p : Nat) (e1 : xB) (M1 : aM), u + m = 12 → fr PT M M1 → XS M1 n p e1 → t_read (M.1 2 0) n e = t_text (M.1 2 0) n m e1 p → K 21 [some (vR 16 0), some (vI (Int32.ofNat u))] [] M1 := by
    intro m
    induction m with
    | zero =>
      intro u p e1 M1 hu hf hX he
      obtain ⟨hn1, -, hp1, pn1, hB1⟩ := hX
      refine hK _ _ _ _ (hK _ _ _ _ (hK _ _ _ _ ⟨fun h => ?_, fun h => ?_⟩))
      · refine hK _ _ _ _ (hK _ _ _ _ (hK _ _ _ _ ⟨_, t_refuseNext hn1 h4 hp1 pn1, rfl, fun v64 M64 g64 => ?_⟩))
        obtain ⟨rfl, hf2⟩ := g64
        exact hK _ _ _ _ ⟨Or.inl rfl, fr_t hf (P3_T hf2), Or.inr ⟨he, rfl, e1, cB_3 (P3_w hf2) hB1⟩⟩
      · exact absurd (x_nge (x := u) (y := 12) rfl rfl (by omega) (by decide) h) (by omega)
    | succ m ih =>
      intro u p e1 M1 hu hf hX he
      have er := PT_row hf
      refine hK _ _ _ _ (hK _ _ _ _ (hK _ _ _ _ ⟨fun h => ?_, fun h => ?_⟩))
      · exact absurd (x_ge (x := u) (y := 12) rfl rfl (by omega) (by decide) h) (by omega)
      · refine hK _ _ _ _ (hK _ _ _ _ ⟨_, b_readPart hX, rfl, fun v28 M28 g28 => ?_⟩)
        obtain ⟨hf2, hx⟩ := g28
        rw [er] at hx
        have hf3 := fr_t hf hf2
        have er2 := PT_row hf3
        have hn2 : M28.1 1 0 1 = Int32.ofNat n := (hf2.1 1 0 1 rfl).trans hX.1
        rcases hx with ⟨e2, q, a1, a2, rfl, a3, a4⟩ | ⟨a1, rfl, a5⟩
        · have he2 : t_read (M.1 2 0) n e = if t_semi (M.1 2 0) n q = true then t_text (M.1 2 0) n m e2 (t_sk (M.1 2 0) n q + 1) else if t_sk (M.1 2 0) n q < n then none else some e2 := by
            rw [he]
            show (match t_part (M.1 2 0) n e1 p with
              | none => none
              | some (e', q) => if t_semi (M.1 2 0) n q = true then t_text (M.1 2 0) n m e' (t_sk (M.1 2 0) n q + 1) else if t_sk (M.1 2 0) n q < n then none else some e') = _
            rw [a1]
          refine hK _ _ _ _ ⟨fun _ => ?_, fun z => absurd z (by decide)⟩
          refine hK _ _ _ _ (hK _ _ _ _ (hK _ _ _ _ ⟨_, t_passSemicolon hn2 h4 a4 a2, rfl, fun v40 M40 g40 => ?_⟩))
          obtain ⟨hf4, hy⟩ := g40
          rw [er2] at hy
          have hn4 : M40.1 1 0 1 = Int32.ofNat n := (hf4.1 1 0 1 rfl).trans hn2
          rcases hy with ⟨b1, rfl, b2⟩ | ⟨b1, rfl, b2⟩
          · refine hK _ _ _ _ ⟨fun _ => ?_, fun z => absurd z (by decide)⟩
            rw [if_pos b1] at he2
            have sl : t_sk (M.1 2 0) n q < n := by
              unfold t_semi at b1
              rw [Bool.and_eq_true] at b1
              exact Nat.le_of_ble_eq_true b1.1
            refine hK _ _ _ _ (hK _ _ _ _ ?_)
            rw [hI_s]
            exact ih (u + 1) _ e2 M40 (by omega) (fr_t hf3 (P3_T hf4)) ⟨hn4, h4, b2, sl, cB_3 (P3_w hf4) a3⟩ he2
          · refine hK _ _ _ _ ⟨fun z => absurd rfl z, fun _ => ?_⟩
            rw [if_neg (by rw [b1]; decide)] at he2
            refine hK _ _ _ _ (hK _ _ _ _ (hK _ _ _ _ ⟨_, t_isEnded hn4 h4 b2 (t_go_le a2), rfl, fun v50 M50 g50 => ?_⟩))
            obtain ⟨hf5, rfl⟩ := g50
            have er4 : M40.1 2 0 = M.1 2 0 := PT_row (fr_t hf3 (P3_T hf4))
            have e5 : t_sk (M.1 2 0) n (t_sk (M.1 2 0) n q) = t_sk (M.1 2 0) n q := t_go_id a2
            rw [er4, e5]
            by_cases hz : t_sk (M.1 2 0) n q < n
            · rw [if_pos hz]
              rw [if_pos hz] at he2
              exact hK _ _ _ _ ⟨Or.inl rfl, fr_t hf3 (fr_t (P3_T hf4) (P3_T hf5)), Or.inr ⟨he2, rfl, e2, cB_3 (P3_w hf5) (cB_3 (P3_w hf4) a3)⟩⟩
            · rw [if_neg hz]
              rw [if_neg hz] at he2
              exact hK _ _ _ _ ⟨Or.inr rfl, fr_t hf3 (fr_t (P3_T hf4) (P3_T hf5)), Or.inl ⟨e2, he2, rfl, cB_3 (P3_w hf5) (cB_3 (P3_w hf4) a3)⟩⟩
        · refine hK _ _ _ _ ⟨fun z => absurd rfl z, fun _ => ?_⟩
          refine hK _ _ _ _ (hK _ _ _ _ ⟨Or.inl rfl, hf3, Or.inr ⟨?_, rfl, a5⟩⟩)
          rw [he]
          show (match t_part (M.1 2 0) n e1 p with
            | none => none
            | some (e', q) => if t_semi (M.1 2 0) n q = true then t_text (M.1 2 0) n m e' (t_sk (M.1 2 0) n q + 1) else if t_sk (M.1 2 0) n q < n then none else some e') = _
          rw [a1]
  refine hK _ _ _ _ (hK _ _ _ _ (hK _ _ _ _ ⟨_, t_open, rfl, fun v4 M4 g4 => ?_⟩))
  obtain ⟨rfl, hf0, hp0⟩ := g4
  have hn0 : M4.1 1 0 1 = Int32.ofNat n := (hf0.1 1 0 1 rfl).trans hn
  have er0 := PT_row (P3_T hf0)
  refine hK _ _ _ _ (hK _ _ _ _ (hK _ _ _ _ ⟨_, t_more (p := 0) hn0 h4 hp0 (Nat.zero_le _), rfl, fun v11 M11 g11 => ?_⟩))
  obtain ⟨rfl, hf1, hp1⟩ := g11
  rw [er0] at hp1
  by_cases hx : t_sk (M.1 2 0) n 0 < n
  · rw [er0, if_pos hx]
    refine hK _ _ _ _ ⟨fun _ => ?_, fun z => absurd z (by decide)⟩
    refine hK _ _ _ _ (hK _ _ _ _ ?_)
    refine lp 12 0 _ e M11 rfl (fr_t (P3_T hf0) (P3_T hf1)) ⟨(hf1.1 1 0 1 rfl).trans hn0, h4, hp1, Nat.le_of_lt hx, cB_3 (P3_w hf1) (cB_3 (P3_w hf0) hB)⟩ ?_
    unfold t_read
    rw [if_pos hx]
  · rw [er0, if_neg hx]
    refine hK _ _ _ _ ⟨fun z => absurd rfl z, fun _ => ?_⟩
    refine hK _ _ _ _ (hK _ _ _ _ ⟨Or.inr rfl, fr_t (P3_T hf0) (P3_T hf1), Or.inl ⟨e, ?_, rfl, cB_3 (P3_w hf1) (cB_3 (P3_w hf0) hB)⟩⟩)
    unfold t_read
    rw [if_neg hx]
