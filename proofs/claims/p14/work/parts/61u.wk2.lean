def tw_from : List Nat := [102, 114, 111, 109]
def tw_west : List Nat := [119, 101, 115, 116]
def tw_south : List Nat := [115, 111, 117, 116, 104]
/-- what a text of a walk tells -/
def wwy (r : Nat → Int32) (n p : Nat) : Option Nat := if t_wd r n p tw_east = true then some 0 else if t_wd r n p tw_north = true then some 1 else if t_wd r n p tw_west = true then some 2 else if t_wd r n p tw_south = true then some 3 else none
theorem wwy_lt {r : Nat → Int32} {n p y : Nat} (h : wwy r n p = some y) : y < 4 := by
  unfold wwy at h
  split at h
  · cases h
    decide
  · split at h
    · cases h
      decide
    · split at h
      · cases h
        decide
      · split at h
        · cases h
          decide
        · cases h
def w_part (r : Nat → Int32) (n : Nat) (e : xB) (t : xW) (p : Nat) : Option (xW × Nat) := match t_num r n p 1 9 with
  | none => none
  | some (x, q) => match wwy r n q with
    | none => none
    | some y => match wgo e y (xn x) t with
      | none => none
      | some u => some (u, t_go (t_az r) n (t_sk r n q))
theorem w_part_1 {r : Nat → Int32} {n p : Nat} {e : xB} {t : xW} (h : t_num r n p 1 9 = none) : w_part r n e t p = none := by
  unfold w_part
  rw [h]
theorem w_part_2 {r : Nat → Int32} {n p q : Nat} {x : Int32} {e : xB} {t : xW} (h : t_num r n p 1 9 = some (x, q)) (h2 : wwy r n q = none) : w_part r n e t p = none := by
  unfold w_part
  rw [h]
  dsimp only
  rw [h2]
theorem w_part_3 {r : Nat → Int32} {n p q y : Nat} {x : Int32} {e : xB} {t : xW} (h : t_num r n p 1 9 = some (x, q)) (h2 : wwy r n q = some y) (h3 : wgo e y (xn x) t = none) : w_part r n e t p = none := by
  unfold w_part
  rw [h]
  dsimp only
  rw [h2]
  dsimp only
  rw [h3]
theorem w_part_4 {r : Nat → Int32} {n p q y : Nat} {x : Int32} {e : xB} {t u : xW} (h : t_num r n p 1 9 = some (x, q)) (h2 : wwy r n q = some y) (h3 : wgo e y (xn x) t = some u) : w_part r n e t p = some (u, t_go (t_az r) n (t_sk r n q)) := by
  unfold w_part
  rw [h]
  dsimp only
  rw [h2]
  dsimp only
  rw [h3]
def w_text (r : Nat → Int32) (n : Nat) (e : xB) : Nat → xW → Nat → Option xW
  | 0, t, p => if t_semi r n p = true then none else if t_sk r n p < n then none else some t
  | k + 1, t, p => if t_semi r n p = true then (match w_part r n e t (t_sk r n p + 1) with
    | none => none
    | some (u, q) => w_text r n e k u q) else if t_sk r n p < n then none else some t
theorem w_text_n {r : Nat → Int32} {n k p : Nat} {e : xB} {t : xW} (h : t_semi r n p = false) : w_text r n e k t p = if t_sk r n p < n then none else some t := by
  cases k with
  | zero => exact if_neg (by rw [h]; decide)
  | succ k => exact if_neg (by rw [h]; decide)
theorem w_text_0 {r : Nat → Int32} {n p : Nat} {e : xB} {t : xW} (h : t_semi r n p = true) : w_text r n e 0 t p = none := if_pos h
theorem w_text_x {r : Nat → Int32} {n k p : Nat} {e : xB} {t : xW} (h : t_semi r n p = true) (h2 : w_part r n e t (t_sk r n p + 1) = none) : w_text r n e (k + 1) t p = none := by
  refine Eq.trans (if_pos h) ?_
  rw [h2]
theorem w_text_s {r : Nat → Int32} {n k p q : Nat} {e : xB} {t u : xW} (h : t_semi r n p = true) (h2 : w_part r n e t (t_sk r n p + 1) = some (u, q)) : w_text r n e (k + 1) t p = w_text r n e k u q := by
  refine Eq.trans (if_pos h) ?_
  rw [h2]
def w_beg (r : Nat → Int32) (n : Nat) (e : xB) : Option ((Nat × Nat) × Nat) := if t_wd r n 0 tw_from = true then (match t_two r n (t_go (t_az r) n (t_sk r n 0)) 0 (Int32.ofNat e.2.1.1) 0 (Int32.ofNat e.2.1.2.1) with
  | none => none
  | some ((x, y), q) => some ((xn x, xn y), q)) else none
def w_read (r : Nat → Int32) (n : Nat) (e : xB) : Option ((Nat × Nat) × xW) := match w_beg r n e with
  | none => none
  | some (c, q) => match w_text r n e 12 (c, 0, []) q with
    | none => none
    | some u => some (c, u)
theorem w_read_1 {r : Nat → Int32} {n : Nat} {e : xB} (h : w_beg r n e = none) : w_read r n e = none := by
  unfold w_read
  rw [h]
theorem w_read_2 {r : Nat → Int32} {n q : Nat} {e : xB} {c : Nat × Nat} (h : w_beg r n e = some (c, q)) (h2 : w_text r n e 12 (c, 0, []) q = none) : w_read r n e = none := by
  unfold w_read
  rw [h]
  dsimp only
  rw [h2]
theorem w_read_3 {r : Nat → Int32} {n q : Nat} {e : xB} {c : Nat × Nat} {u : xW} (h : w_beg r n e = some (c, q)) (h2 : w_text r n e 12 (c, 0, []) q = some u) : w_read r n e = some (c, u) := by
  unfold w_read
  rw [h]
  dsimp only
  rw [h2]
/-- the reader and the walk -/
def PV : xF := fun k _ _ => Nat.beq k 3 || (Nat.beq k 17 || (Nat.beq k 18 || Nat.beq k 19))
theorem P3w_V {A B : aM} (h : fr P3w A B) : fr PV A B := fr_w h (fun k i j z => by
  have z : (Nat.beq k 3 || (Nat.beq k 17 || (Nat.beq k 18 || Nat.beq k 19))) = false := z
  rw [Bool.or_eq_false_iff] at z
  exact z.1)
theorem P3_V {A B : aM} (h : fr P3 A B) : fr PV A B := P3w_V (P3_w h)
theorem PWf_V {A B : aM} (h : fr (fun k _ _ => Nat.beq k 17 || (Nat.beq k 18 || Nat.beq k 19)) A B) : fr PV A B := fr_w h (fun k i j z => by
  have z : (Nat.beq k 3 || (Nat.beq k 17 || (Nat.beq k 18 || Nat.beq k 19))) = false := z
  rw [Bool.or_eq_false_iff] at z
  exact z.2)
theorem PWk_f {A B : aM} (h : fr PWk A B) : fr (fun k _ _ => Nat.beq k 17 || (Nat.beq k 18 || Nat.beq k 19)) A B := fr_w h (fun k i j z => by
  have z : (Nat.beq k 17 || (Nat.beq k 18 || Nat.beq k 19)) = false := z
  rw [Bool.or_eq_false_iff] at z
  show ((Nat.beq k 17 && !(Nat.beq j 2)) || (Nat.beq k 18 || Nat.beq k 19)) = false
  rw [z.1, z.2]
  rfl)
theorem PWk_V {A B : aM} (h : fr PWk A B) : fr PV A B := PWf_V (PWk_f h)
theorem PV_row {A B : aM} (h : fr PV A B) : B.1 2 0 = A.1 2 0 := by
  funext j
  exact h.1 2 0 j rfl
theorem PV_n {k i j : Nat} (h1 : 4 ≤ k) (h2 : k ≤ 14) : PV k i j = false := by
  show (Nat.beq k 3 || (Nat.beq k 17 || (Nat.beq k 18 || Nat.beq k 19))) = false
  rw [x_nbeq (show ¬ k = 3 by omega), x_nbeq (show ¬ k = 17 by omega), x_nbeq (show ¬ k = 18 by omega), x_nbeq (show ¬ k = 19 by omega)]
  rfl
theorem cB_v {M M' : aM} {e : xB} (h : fr PV M M') (hB : cB 0 M e) : cB 0 M' e := cB_fr hB (fun q j h1 h2 _ => h.1 q 0 j (PV_n h1 h2))
theorem WKs_3 {M M' : aM} {e : xB} {t : xW} (h : fr P3w M M') (hs : WKs M e t) : WKs M' e t := ⟨(h.1 17 0 3 rfl).trans hs.1, (h.1 17 0 4 rfl).trans hs.2.1, (h.1 17 0 6 rfl).trans hs.2.2.1, (h.1 17 0 5 rfl).trans hs.2.2.2⟩
/-- what may hold between walks and the cells of visits and rises -/
def JOK (e : xB) (c : Nat × Nat) (J : xW → aM → Prop) : Prop := (∀ t M M', (∀ j, M'.1 18 0 j = M.1 18 0 j ∧ M'.1 19 0 j = M.1 19 0 j) → J t M → J t M') ∧ (∀ y t u M M', y < 4 → xWo e t → wgo1 e y t = some u → WKv e y t u M M' → J t M → J u M') ∧ ∀ M, c.1 ≤ e.2.1.1 → c.2 ≤ e.2.1.2.1 → (∀ j, j < 16 → M.1 18 0 j = 0 ∧ M.1 19 0 j = 0) → J (c, 0, []) M
theorem JOK_t {e : xB} {c : Nat × Nat} : JOK e c (fun _ _ => True) := ⟨fun _ _ _ _ _ => trivial, fun _ _ _ _ _ _ _ _ _ _ => trivial, fun _ _ _ _ => trivial⟩
theorem J_3 {e : xB} {c : Nat × Nat} {J : xW → aM → Prop} {t : xW} {M M' : aM} (hJ : JOK e c J) (h : fr P3w M M') (j : J t M) : J t M' := hJ.1 t M M' (fun j => ⟨h.1 18 0 j rfl, h.1 19 0 j rfl⟩) j
theorem b_wayRead {nS d n p : Nat} {M : aM} (hn : M.1 1 0 1 = Int32.ofNat n) (h4 : n ≤ 400) (hb : M.1 3 0 2 = Int32.ofNat (t_sk (M.1 2 0) n p)) (hq : M.1 3 0 1 = Int32.ofNat (t_go (t_az (M.1 2 0)) n (t_sk (M.1 2 0) n p))) (pn : p ≤ n) : aC nS (d + 9) 140 [vR 17 0] M (fun v M' => v = some (vI (match wwy (M.1 2 0) n p with | some y => Int32.ofNat y | none => -1)) ∧ M = M') (fun _ _ => False) := by
  have sn : t_sk (M.1 2 0) n p ≤ n := t_go_le pn
  have s1 : t_sk (M.1 2 0) n p ≤ t_go (t_az (M.1 2 0)) n (t_sk (M.1 2 0) n p) := t_go_ge sn
  have s2 : t_go (t_az (M.1 2 0)) n (t_sk (M.1 2 0) n p) ≤ n := t_go_le sn
  have wd : ∀ {ks : Nat} {bs : List Nat}, a_stx ks = some bs → bs.length < 1000 → aC nS (d + 8) 101 [vR 3 0, vR ks 0] M (fun v M' => ((t_wd (M.1 2 0) n p bs = true ∧ v = some (vI 1)) ∨ (t_wd (M.1 2 0) n p bs = false ∧ v = some (vI 0))) ∧ M = M') (fun _ _ => False) := by
    intro ks bs hk hl
    refine aC_post (t_isw hk hl hn h4 hb hq s1 s2) (fun v M' hv => ⟨?_, hv.2⟩) (fun _ _ z => z)
    rw [hv.1]
    have e9 : (Nat.beq (t_go (t_az (M.1 2 0)) n (t_sk (M.1 2 0) n p) - t_sk (M.1 2 0) n p) bs.length && t_eqf (M.1 2 0) (t_sk (M.1 2 0) n p) bs) = t_wd (M.1 2 0) n p bs := rfl
    rw [e9]
    cases t_wd (M.1 2 0) n p bs with
    | true => exact Or.inl ⟨rfl, rfl⟩
    | false => exact Or.inr ⟨rfl, rfl⟩
  refine aC_mk rfl rfl ?_
  intro K hK _
  refine hK _ _ _ _ (hK _ _ _ _ (hK _ _ _ _ (hK _ _ _ _ (⟨_, wd (bs := tw_east) rfl (by decide), rfl, fun v6 M6 g6 => ?_⟩))))
  obtain ⟨hw0, rfl⟩ := g6
  rcases hw0 with ⟨hw0, rfl⟩ | ⟨hw0, rfl⟩
  · have ew : wwy (M.1 2 0) n p = some 0 := by
      unfold wwy
      rw [if_pos hw0]
    refine hK _ _ _ _ (⟨fun q => (by first | exact absurd q (by decide) | exact absurd rfl q | exact absurd (by decide) q), fun _ => ?_⟩)
    exact hK _ _ _ _ (hK _ _ _ _ (⟨(show _ = some (vI (match (some 0 : Option Nat) with | some y => Int32.ofNat y | none => -1)) from rfl).trans (by rw [ew]), rfl⟩))
  · refine hK _ _ _ _ (⟨fun _ => ?_, fun q => (by first | exact absurd q (by decide) | exact absurd rfl q | exact absurd (by decide) q)⟩)
    refine hK _ _ _ _ (hK _ _ _ _ (hK _ _ _ _ (hK _ _ _ _ (⟨_, wd (bs := tw_north) rfl (by decide), rfl, fun v20 M20 g20 => ?_⟩))))
    obtain ⟨hw1, rfl⟩ := g20
    rcases hw1 with ⟨hw1, rfl⟩ | ⟨hw1, rfl⟩
    · have ew : wwy (M.1 2 0) n p = some 1 := by
        unfold wwy
        rw [if_neg (show ¬ t_wd (M.1 2 0) n p tw_east = true from fun z => by rw [hw0] at z; cases z), if_pos hw1]
      refine hK _ _ _ _ (⟨fun q => (by first | exact absurd q (by decide) | exact absurd rfl q | exact absurd (by decide) q), fun _ => ?_⟩)
      exact hK _ _ _ _ (hK _ _ _ _ (⟨(show _ = some (vI (match (some 1 : Option Nat) with | some y => Int32.ofNat y | none => -1)) from rfl).trans (by rw [ew]), rfl⟩))
    · refine hK _ _ _ _ (⟨fun _ => ?_, fun q => (by first | exact absurd q (by decide) | exact absurd rfl q | exact absurd (by decide) q)⟩)
      refine hK _ _ _ _ (hK _ _ _ _ (hK _ _ _ _ (hK _ _ _ _ (⟨_, wd (bs := tw_west) rfl (by decide), rfl, fun v34 M34 g34 => ?_⟩))))
      obtain ⟨hw2, rfl⟩ := g34
      rcases hw2 with ⟨hw2, rfl⟩ | ⟨hw2, rfl⟩
      · have ew : wwy (M.1 2 0) n p = some 2 := by
          unfold wwy
          rw [if_neg (show ¬ t_wd (M.1 2 0) n p tw_east = true from fun z => by rw [hw0] at z; cases z), if_neg (show ¬ t_wd (M.1 2 0) n p tw_north = true from fun z => by rw [hw1] at z; cases z), if_pos hw2]
        refine hK _ _ _ _ (⟨fun q => (by first | exact absurd q (by decide) | exact absurd rfl q | exact absurd (by decide) q), fun _ => ?_⟩)
        exact hK _ _ _ _ (hK _ _ _ _ (⟨(show _ = some (vI (match (some 2 : Option Nat) with | some y => Int32.ofNat y | none => -1)) from rfl).trans (by rw [ew]), rfl⟩))
      · refine hK _ _ _ _ (⟨fun _ => ?_, fun q => (by first | exact absurd q (by decide) | exact absurd rfl q | exact absurd (by decide) q)⟩)
        refine hK _ _ _ _ (hK _ _ _ _ (hK _ _ _ _ (hK _ _ _ _ (⟨_, wd (bs := tw_south) rfl (by decide), rfl, fun v48 M48 g48 => ?_⟩))))
        obtain ⟨hw3, rfl⟩ := g48
        rcases hw3 with ⟨hw3, rfl⟩ | ⟨hw3, rfl⟩
        · have ew : wwy (M.1 2 0) n p = some 3 := by
            unfold wwy
            rw [if_neg (show ¬ t_wd (M.1 2 0) n p tw_east = true from fun z => by rw [hw0] at z; cases z), if_neg (show ¬ t_wd (M.1 2 0) n p tw_north = true from fun z => by rw [hw1] at z; cases z), if_neg (show ¬ t_wd (M.1 2 0) n p tw_west = true from fun z => by rw [hw2] at z; cases z), if_pos hw3]
          refine hK _ _ _ _ (⟨fun q => (by first | exact absurd q (by decide) | exact absurd rfl q | exact absurd (by decide) q), fun _ => ?_⟩)
          exact hK _ _ _ _ (hK _ _ _ _ (hK _ _ _ _ (⟨(show _ = some (vI (match (some 3 : Option Nat) with | some y => Int32.ofNat y | none => -1)) from rfl).trans (by rw [ew]), rfl⟩)))
        · refine hK _ _ _ _ (⟨fun _ => ?_, fun q => (by first | exact absurd q (by decide) | exact absurd rfl q | exact absurd (by decide) q)⟩)
          have ew : wwy (M.1 2 0) n p = none := by
            unfold wwy
            rw [if_neg (show ¬ t_wd (M.1 2 0) n p tw_east = true from fun z => by rw [hw0] at z; cases z), if_neg (show ¬ t_wd (M.1 2 0) n p tw_north = true from fun z => by rw [hw1] at z; cases z), if_neg (show ¬ t_wd (M.1 2 0) n p tw_west = true from fun z => by rw [hw2] at z; cases z), if_neg (show ¬ t_wd (M.1 2 0) n p tw_south = true from fun z => by rw [hw3] at z; cases z)]
          exact hK _ _ _ _ (hK _ _ _ _ (⟨(show _ = some (vI (match (none : Option Nat) with | some y => Int32.ofNat y | none => -1)) from rfl).trans (by rw [ew]), rfl⟩))
theorem b_beginW {nS d q : Nat} {M : aM} {x : Int32} (hx : x = Int32.ofNat q) (hq : q < 16) : aC nS (d + 2) 138 [vR 17 0, vI x] M (fun v M' => v = none ∧ fr (fun k _ _ => Nat.beq k 17 || (Nat.beq k 18 || Nat.beq k 19)) M M' ∧ M'.1 17 0 2 = Int32.ofNat q ∧ M'.1 17 0 3 = Int32.ofNat (q % 4) ∧ M'.1 17 0 4 = Int32.ofNat (q / 4) ∧ M'.1 17 0 5 = 0 ∧ M'.1 17 0 6 = 0 ∧ ∀ j, j < 16 → M'.1 18 0 j = 0 ∧ M'.1 19 0 j = 0) (fun _ _ => False) := by
  refine aC_mk rfl rfl ?_
  intro K hK _
  refine hK _ _ _ _ (hK _ _ _ _ (hK _ _ _ _ (hK _ _ _ _ (hK _ _ _ _ (hK _ _ _ _ (⟨_, b_columnOf (d := d) hx (by omega), rfl, fun v7 M7 g7 => ?_⟩))))))
  obtain ⟨rfl, rfl⟩ := g7
  refine hK _ _ _ _ (hK _ _ _ _ (hK _ _ _ _ (hK _ _ _ _ (⟨_, b_rowOf (d := d) hx (by omega), rfl, fun v15 M15 g15 => ?_⟩))))
  obtain ⟨rfl, rfl⟩ := g15
  refine hK _ _ _ _ (hK _ _ _ _ (hK _ _ _ _ (hK _ _ _ _ (hK _ _ _ _ (hK _ _ _ _ (hK _ _ _ _ (hK _ _ _ _ (hK _ _ _ _ (hK _ _ _ _ (hK _ _ _ _ (⟨_, g_fill18 (d := d), rfl, fun v36 M36 g36 => ?_⟩)))))))))))
  obtain ⟨rfl, f36, z36⟩ := g36
  refine hK _ _ _ _ (hK _ _ _ _ (hK _ _ _ _ (hK _ _ _ _ (⟨_, g_fill19 (d := d), rfl, fun v44 M44 g44 => ?_⟩))))
  obtain ⟨rfl, f44, z44⟩ := g44
  have fa : fr (fun k _ _ => Nat.beq k 17 || (Nat.beq k 18 || Nat.beq k 19)) M M44 := fr_t (fr_p (fr_p (fr_p (fr_p (fr_p fr_r rfl) rfl) rfl) rfl) rfl) (fr_t (fr_i f36 (fun k i j z => by
    have z : (Nat.beq k 18 && Nat.beq i 0) = true := z
    rw [Bool.and_eq_true] at z
    rw [Nat.eq_of_beq_eq_true z.1]
    rfl)) (fr_i f44 (fun k i j z => by
    have z : (Nat.beq k 19 && Nat.beq i 0) = true := z
    rw [Bool.and_eq_true] at z
    rw [Nat.eq_of_beq_eq_true z.1]
    rfl)))
  have c9 : ∀ j, M44.1 17 0 j = M36.1 17 0 j := fun j => f44.1 17 0 j rfl
  exact hK _ _ _ _ (⟨rfl, fa, (c9 2).trans ((f36.1 17 0 2 rfl).trans hx), (c9 3).trans (f36.1 17 0 3 rfl), (c9 4).trans (f36.1 17 0 4 rfl), (c9 5).trans (f36.1 17 0 5 rfl), (c9 6).trans (f36.1 17 0 6 rfl), fun j hj => ⟨(f44.1 18 0 j rfl).trans (z36 j hj), z44 j hj⟩⟩)
theorem t_begin {nS d : Nat} {M : aM} : aC nS (d + 1) 91 [vR 3 0] M (fun v M' => v = some (vI (M.1 3 0 2)) ∧ M = M') (fun _ _ => False) := by
  refine aC_mk rfl rfl ?_
  intro K hK _
  exact hK _ _ _ _ (hK _ _ _ _ (hK _ _ _ _ (⟨rfl, rfl⟩)))
def XWs (M : aM) (n p : Nat) (e : xB) (t : xW) : Prop := M.1 1 0 1 = Int32.ofNat n ∧ n ≤ 400 ∧ M.1 3 0 1 = Int32.ofNat p ∧ p ≤ n ∧ cB 0 M e ∧ WKs M e t ∧ xWo e t
theorem b_readWP {nS d n p : Nat} {M : aM} {e : xB} {c0 : Nat × Nat} {t : xW} {J : xW → aM → Prop} (hX : XWs M n p e t) (hO : lO e.2.1.1 e.2.1.2.1 e.2.1.2.2 e.1.2 e.2.2.2.2) (hJ : JOK e c0 J) (hj : J t M) : aC nS (d + 10) 139 [vR 17 0] M (fun v M' => fr PV M M' ∧ M'.1 17 0 2 = M.1 17 0 2 ∧ ((∃ u q, w_part (M.1 2 0) n e t p = some (u, q) ∧ v = some (vI 1) ∧ XWs M' n q e u ∧ J u M') ∨ (w_part (M.1 2 0) n e t p = none ∧ v = some (vI 0)))) (fun _ _ => False) := by
  obtain ⟨hn, h4, hp, pn, hB, hs, ho⟩ := hX
  refine aC_mk rfl rfl ?_
  intro K hK _
  refine hK _ _ _ _ (hK _ _ _ _ (hK _ _ _ _ (hK _ _ _ _ (hK _ _ _ _ (⟨_, t_number (d := d + 6) hn h4 hp pn, rfl, fun v7 M7 g7 => ?_⟩)))))
  obtain ⟨f7, g7⟩ := g7
  have er7 : M7.1 2 0 = M.1 2 0 := PV_row (P3_V f7)
  rcases g7 with ⟨x, q, h1, rfl, h3⟩ | ⟨h1, rfl⟩
  · obtain ⟨x1, x9, pq, qn⟩ := t_num_ok h1 pn
    obtain ⟨ex, ex9⟩ := xn_le (m := 9) (by decide) (Int32.le_trans (show (0 : Int32) ≤ 1 by decide) x1) x9
    refine hK _ _ _ _ (hK _ _ _ _ (hK _ _ _ _ (hK _ _ _ _ (⟨fun _ => ?_, fun q9 => absurd q9 (x_m1' (Int32.le_trans (show (0 : Int32) ≤ 1 by decide) x1))⟩))))
    have hn7 : M7.1 1 0 1 = Int32.ofNat n := (f7.1 1 0 1 rfl).trans hn
    refine hK _ _ _ _ (hK _ _ _ _ (hK _ _ _ _ (⟨_, t_begin (d := d + 8), rfl, fun v22 M22 g22 => ?_⟩)))
    obtain ⟨rfl, rfl⟩ := g22
    refine hK _ _ _ _ (hK _ _ _ _ (hK _ _ _ _ (hK _ _ _ _ (⟨_, t_word (d := d + 6) hn7 h4 h3 qn, rfl, fun v30 M30 g30 => ?_⟩))))
    obtain ⟨rfl, f30, b30, q30⟩ := g30
    have er30 : M30.1 2 0 = M.1 2 0 := (PV_row (P3_V f30)).trans er7
    have hn30 : M30.1 1 0 1 = Int32.ofNat n := (f30.1 1 0 1 rfl).trans hn7
    have sq := t_go_le (c := t_az (M.1 2 0)) (show t_sk (M.1 2 0) n q ≤ n from t_go_le qn)
    refine hK _ _ _ _ (hK _ _ _ _ (⟨_, b_wayRead (d := d) (p := q) hn30 h4 (by rw [b30, er30, er7]) (by rw [q30, er30, er7]) qn, rfl, fun v34 M34 g34 => ?_⟩))
    obtain ⟨rfl, rfl⟩ := g34
    rw [er30]
    have f3 : fr P3w M M30 := fr_t (P3_w f7) (P3_w f30)
    cases hw : wwy (M.1 2 0) n q with
    | none =>
      refine hK _ _ _ _ (hK _ _ _ _ (hK _ _ _ _ (hK _ _ _ _ (⟨fun q9 => absurd rfl q9, fun _ => ?_⟩))))
      refine hK _ _ _ _ (hK _ _ _ _ (hK _ _ _ _ (⟨_, t_refuseLatest (d := d + 7), rfl, fun v47 M47 g47 => ?_⟩)))
      obtain ⟨rfl, f47⟩ := g47
      exact hK _ _ _ _ (⟨Or.inl rfl, fr_t (P3w_V f3) (P3_V f47), (f47.1 17 0 2 rfl).trans (f3.1 17 0 2 rfl), Or.inr ⟨w_part_2 h1 hw, rfl⟩⟩)
    | some y =>
      have hy := wwy_lt hw
      refine hK _ _ _ _ (hK _ _ _ _ (hK _ _ _ _ (hK _ _ _ _ (⟨fun _ => ?_, fun q9 => absurd q9 (x_m1 (by omega))⟩))))
      have lp : ∀ (m i : Nat) (t1 : xW) (M1 : aM), xn x - i = m → i ≤ xn x → fr PV M M1 → M1.1 17 0 2 = M.1 17 0 2 → M1.1 3 0 1 = Int32.ofNat (t_go (t_az (M.1 2 0)) n (t_sk (M.1 2 0) n q)) → WKs M1 e t1 → xWo e t1 → J t1 M1 → wgo e y (xn x) t = wgo e y m t1 → K 54 [some (vR 17 0), some (vI x), some (vI (M7.1 3 0 2)), some (vI (Int32.ofNat y)), some (vI (Int32.ofNat i))] [] M1 := by
        intro m
        induction m with
        | zero =>
          intro i t1 M1 hm hi hf a2 a3 a4 a5 a6 a7
          refine hK _ _ _ _ (hK _ _ _ _ (hK _ _ _ _ (⟨fun h9 => ?_, fun h9 => ?_⟩)))
          · exact hK _ _ _ _ (hK _ _ _ _ (⟨Or.inr rfl, hf, a2, Or.inl ⟨t1, _, w_part_4 h1 hw a7, rfl, ⟨(hf.1 1 0 1 rfl).trans hn, h4, a3, sq, cB_v hf hB, a4, a5⟩, a6⟩⟩))
          · exact absurd (x_nge (x := i) (y := xn x) rfl ex (by omega) (by omega) h9) (by omega)
        | succ m ih =>
          intro i t1 M1 hm hi hf a2 a3 a4 a5 a6 a7
          refine hK _ _ _ _ (hK _ _ _ _ (hK _ _ _ _ (⟨fun h9 => ?_, fun h9 => ?_⟩)))
          · exact absurd (x_ge (x := i) (y := xn x) rfl ex (by omega) (by omega) h9) (by omega)
          · refine hK _ _ _ _ (hK _ _ _ _ (hK _ _ _ _ (⟨_, b_goW (d := d + 5) hy (cB_v hf hB) hO a4 a5, rfl, fun v62 M62 g62 => ?_⟩)))
            obtain ⟨f62, g62⟩ := g62
            rcases g62 with ⟨u, k1, k2, rfl, k3, k4⟩ | ⟨k1, rfl⟩
            · refine hK _ _ _ _ (⟨fun _ => ?_, fun q => (by first | exact absurd q (by decide) | exact absurd rfl q | exact absurd (by decide) q)⟩)
              refine hK _ _ _ _ (hK _ _ _ _ (?_))
              rw [hI_s]
              refine ih (i + 1) u M62 (by omega) (by omega) (fr_t hf (PWk_V f62)) ((f62.1 17 0 2 rfl).trans a2) ((f62.1 3 0 1 rfl).trans a3) k3 k2 (hJ.2.1 y t1 u M1 M62 hy a5 k1 k4 a6) ?_
              rw [a7]
              show (match wgo1 e y t1 with
                | none => none
                | some u => wgo e y m u) = _
              rw [k1]
            · refine hK _ _ _ _ (⟨fun q => (by first | exact absurd q (by decide) | exact absurd rfl q | exact absurd (by decide) q), fun _ => ?_⟩)
              refine hK _ _ _ _ (hK _ _ _ _ (hK _ _ _ _ (hK _ _ _ _ (⟨_, t_refuse (d := d + 8), rfl, fun v73 M73 g73 => ?_⟩))))
              obtain ⟨rfl, f73, -⟩ := g73
              refine hK _ _ _ _ (?_)
              refine ⟨Or.inl rfl, fr_t hf (fr_t (PWk_V f62) (P3_V f73)), (f73.1 17 0 2 rfl).trans ((f62.1 17 0 2 rfl).trans a2), Or.inr ⟨w_part_3 h1 hw ?_, rfl⟩⟩
              rw [a7]
              show (match wgo1 e y t1 with
                | none => none
                | some u => wgo e y m u) = _
              rw [k1]
      refine hK _ _ _ _ (hK _ _ _ _ (?_))
      refine lp _ 0 t M30 rfl (Nat.zero_le _) (P3w_V f3) (f3.1 17 0 2 rfl) ?_ (WKs_3 f3 hs) ho (J_3 hJ f3 hj) rfl
      rw [q30, er7]
  · refine hK _ _ _ _ (hK _ _ _ _ (hK _ _ _ _ (hK _ _ _ _ (⟨fun q9 => absurd rfl q9, fun _ => ?_⟩))))
    exact hK _ _ _ _ (hK _ _ _ _ (⟨Or.inl rfl, P3_V f7, f7.1 17 0 2 rfl, Or.inr ⟨w_part_1 h1, rfl⟩⟩))
theorem b_readWB {nS d n : Nat} {M : aM} {e : xB} {J : Nat × Nat → xW → aM → Prop} (hn : M.1 1 0 1 = Int32.ofNat n) (h4 : n ≤ 400) (hp : M.1 3 0 1 = 0) (hB : cB 0 M e) (hJ : ∀ c, JOK e c (J c)) : aC nS (d + 9) 137 [vR 17 0] M (fun v M' => fr PV M M' ∧ ((∃ c q, w_beg (M.1 2 0) n e = some (c, q) ∧ v = some (vI 1) ∧ c.1 ≤ e.2.1.1 ∧ c.2 ≤ e.2.1.2.1 ∧ M'.1 17 0 2 = Int32.ofNat (xco e.2.1.1 e.2.1.2.1 e.2.1.2.2 c.1 c.2) ∧ XWs M' n q e (c, 0, []) ∧ J c (c, 0, []) M') ∨ (w_beg (M.1 2 0) n e = none ∧ v = some (vI 0)))) (fun _ _ => False) := by
  obtain ⟨hor, o2, o8, hS, w1, w3, h1, h3, s2⟩ := cB_h hB
  have sn : t_sk (M.1 2 0) n 0 ≤ n := t_go_le (Nat.zero_le _)
  have s1 : t_sk (M.1 2 0) n 0 ≤ t_go (t_az (M.1 2 0)) n (t_sk (M.1 2 0) n 0) := t_go_ge sn
  have sq : t_go (t_az (M.1 2 0)) n (t_sk (M.1 2 0) n 0) ≤ n := t_go_le sn
  refine aC_mk rfl rfl ?_
  intro K hK _
  refine hK _ _ _ _ (hK _ _ _ _ (hK _ _ _ _ (⟨_, t_word (d := d + 5) (p := 0) hn h4 hp (Nat.zero_le _), rfl, fun v4 M4 g4 => ?_⟩)))
  obtain ⟨rfl, f4, b4, q4⟩ := g4
  have er4 : M4.1 2 0 = M.1 2 0 := PV_row (P3_V f4)
  have hn4 : M4.1 1 0 1 = Int32.ofNat n := (f4.1 1 0 1 rfl).trans hn
  refine hK _ _ _ _ (hK _ _ _ _ (hK _ _ _ _ (hK _ _ _ _ (⟨_, t_isw (d := d) (bs := tw_from) rfl (by decide) hn4 h4 b4 q4 s1 sq, rfl, fun v13 M13 g13 => ?_⟩))))
  obtain ⟨rfl, rfl⟩ := g13
  have e9 : (Nat.beq (t_go (t_az (M.1 2 0)) n (t_sk (M.1 2 0) n 0) - t_sk (M.1 2 0) n 0) tw_from.length && t_eqf (M4.1 2 0) (t_sk (M.1 2 0) n 0) tw_from) = t_wd (M.1 2 0) n 0 tw_from := by
    rw [er4]
    rfl
  rw [e9]
  by_cases hw : t_wd (M.1 2 0) n 0 tw_from = true
  · rw [if_pos hw]
    refine hK _ _ _ _ (⟨fun _ => ?_, fun q => (by first | exact absurd q (by decide) | exact absurd rfl q | exact absurd (by decide) q)⟩)
    have B4 := cB_3 (P3_w f4) hB
    have S4 := (cB_h B4).2.2.2.1
    refine hK _ _ _ _ (hK _ _ _ _ (hK _ _ _ _ (hK _ _ _ _ (hK _ _ _ _ (hK _ _ _ _ (⟨_, b_wide, rfl, fun v36 M36 g36 => ?_⟩))))))
    obtain ⟨rfl, rfl⟩ := g36
    refine hK _ _ _ _ (hK _ _ _ _ (hK _ _ _ _ (hK _ _ _ _ (⟨_, b_high, rfl, fun v44 M44 g44 => ?_⟩))))
    obtain ⟨rfl, rfl⟩ := g44
    refine hK _ _ _ _ (⟨_, t_passTwo (d := d + 4) (by decide) (by decide) hn4 h4 q4 sq, rfl, fun v47 M47 g47 => ?_⟩)
    obtain ⟨f47, g47⟩ := g47
    rw [S4.1, S4.2.1, er4] at g47
    rcases g47 with ⟨x, y, q, t1, rfl, t2, t3, t4⟩ | ⟨t1, rfl⟩
    · obtain ⟨a1, a2, a3, a4, a5⟩ := t_two_ok t1 sq
      obtain ⟨ex, lx⟩ := xn_le (by omega) a1 a2
      obtain ⟨ey, ly⟩ := xn_le (by omega) a3 a4
      have B47 := cB_3 f47 B4
      have S47 := (cB_h B47).2.2.2.1
      refine hK _ _ _ _ (⟨fun _ => ?_, fun q => (by first | exact absurd q (by decide) | exact absurd rfl q | exact absurd (by decide) q)⟩)
      refine hK _ _ _ _ (hK _ _ _ _ (hK _ _ _ _ (hK _ _ _ _ (hK _ _ _ _ (hK _ _ _ _ (⟨_, t_first, rfl, fun v64 M64 g64 => ?_⟩))))))
      obtain ⟨rfl, rfl⟩ := g64
      refine hK _ _ _ _ (hK _ _ _ _ (hK _ _ _ _ (⟨_, t_second, rfl, fun v71 M71 g71 => ?_⟩)))
      obtain ⟨rfl, rfl⟩ := g71
      rw [t2, t3]
      refine hK _ _ _ _ (⟨_, b_corner (d := d + 7) S47 w1 w3 h1 h3 lx ly ex ey, rfl, fun v74 M74 g74 => ?_⟩)
      obtain ⟨rfl, rfl⟩ := g74
      obtain ⟨m1, m2⟩ := xco_m (h := e.2.1.2.1) (s := e.2.1.2.2) (y := xn y) w3 lx
      have c16 : xco e.2.1.1 e.2.1.2.1 e.2.1.2.2 (xn x) (xn y) < 16 := by
        have := xcx_3 (s := e.2.1.2.2) w3 lx
        have := xcy_3 (s := e.2.1.2.2) h3 ly
        show xcy e.2.1.2.1 e.2.1.2.2 (xn y) * 4 + xcx e.2.1.1 e.2.1.2.2 (xn x) < 16
        omega
      refine hK _ _ _ _ (⟨_, b_beginW (d := d + 6) rfl c16, rfl, fun v77 M77 g77 => ?_⟩)
      obtain ⟨rfl, f77, z2, z3, z4, z5, z6, z8⟩ := g77
      have fV : fr PV M M77 := fr_t (P3w_V (fr_t (P3_w f4) f47)) (PWf_V f77)
      refine hK _ _ _ _ (hK _ _ _ _ (?_))
      refine ⟨Or.inr rfl, fV, Or.inl ⟨(xn x, xn y), q, ?_, rfl, lx, ly, z2, ⟨(fV.1 1 0 1 rfl).trans hn, h4, (f77.1 3 0 1 rfl).trans t4, a5, cB_v fV hB, ⟨z3.trans (by rw [m1]), z4.trans (by rw [m2]), z6, z5⟩, lx, ly, show 0 < e.1.2 by omega⟩, (hJ (xn x, xn y)).2.2 M77 lx ly z8⟩⟩
      unfold w_beg
      rw [if_pos hw, t1]
    · refine hK _ _ _ _ (⟨fun q => (by first | exact absurd q (by decide) | exact absurd rfl q | exact absurd (by decide) q), fun _ => ?_⟩)
      refine hK _ _ _ _ (hK _ _ _ _ (?_))
      refine ⟨Or.inl rfl, P3w_V (fr_t (P3_w f4) f47), Or.inr ⟨?_, rfl⟩⟩
      unfold w_beg
      rw [if_pos hw, t1]
  · rw [if_neg hw]
    refine hK _ _ _ _ (⟨fun q => (by first | exact absurd q (by decide) | exact absurd rfl q | exact absurd (by decide) q), fun _ => ?_⟩)
    refine hK _ _ _ _ (hK _ _ _ _ (hK _ _ _ _ (⟨_, t_refuseLatest (d := d + 6), rfl, fun v23 M23 g23 => ?_⟩)))
    obtain ⟨rfl, f23⟩ := g23
    exact hK _ _ _ _ (⟨Or.inl rfl, P3w_V (fr_t (P3_w f4) (P3_w f23)), Or.inr ⟨if_neg hw, rfl⟩⟩)
theorem b_readW {nS d n : Nat} {M : aM} {e : xB} {J : Nat × Nat → xW → aM → Prop} (hn : M.1 1 0 1 = Int32.ofNat n) (h4 : n ≤ 400) (hB : cB 0 M e) (hO : lO e.2.1.1 e.2.1.2.1 e.2.1.2.2 e.1.2 e.2.2.2.2) (hJ : ∀ c, JOK e c (J c)) : aC nS (d + 11) 136 [vR 17 0] M (fun v M' => fr PV M M' ∧ ((∃ c u, w_read (M.1 2 0) n e = some (c, u) ∧ v = some (vI 1) ∧ c.1 ≤ e.2.1.1 ∧ c.2 ≤ e.2.1.2.1 ∧ M'.1 17 0 2 = Int32.ofNat (xco e.2.1.1 e.2.1.2.1 e.2.1.2.2 c.1 c.2) ∧ WKs M' e u ∧ xWo e u ∧ J c u M') ∨ (w_read (M.1 2 0) n e = none ∧ v = some (vI 0)))) (fun _ _ => False) := by
  refine aC_mk rfl rfl ?_
  intro K hK _
  refine hK _ _ _ _ (hK _ _ _ _ (hK _ _ _ _ (⟨_, t_open (d := d + 9), rfl, fun v4 M4 g4 => ?_⟩)))
  obtain ⟨rfl, f4, p4⟩ := g4
  have er4 : M4.1 2 0 = M.1 2 0 := PV_row (P3_V f4)
  refine hK _ _ _ _ (hK _ _ _ _ (⟨_, b_readWB (d := d + 1) ((f4.1 1 0 1 rfl).trans hn) h4 p4 (cB_3 (P3_w f4) hB) hJ, rfl, fun v8 M8 g8 => ?_⟩))
  obtain ⟨f8, g8⟩ := g8
  rw [er4] at g8
  rcases g8 with ⟨c, q, b1, rfl, b2, b3, b4, b5, b6⟩ | ⟨b1, rfl⟩
  case inr =>
    refine hK _ _ _ _ (⟨fun q => (by first | exact absurd q (by decide) | exact absurd rfl q | exact absurd (by decide) q), fun _ => ?_⟩)
    exact hK _ _ _ _ (hK _ _ _ _ (⟨Or.inl rfl, fr_t (P3_V f4) f8, Or.inr ⟨w_read_1 b1, rfl⟩⟩))
  refine hK _ _ _ _ (⟨fun _ => ?_, fun q => (by first | exact absurd q (by decide) | exact absurd rfl q | exact absurd (by decide) q)⟩)
  have lp : ∀ (m i q1 : Nat) (t1 : xW) (M1 : aM), i + m = 12 → fr PV M M1 → M1.1 17 0 2 = Int32.ofNat (xco e.2.1.1 e.2.1.2.1 e.2.1.2.2 c.1 c.2) → XWs M1 n q1 e t1 → J c t1 M1 → w_text (M.1 2 0) n e 12 (c, 0, []) q = w_text (M.1 2 0) n e m t1 q1 → K 18 [some (vR 17 0), some (vI (Int32.ofNat i))] [] M1 := by
    intro m
    induction m with
    | zero =>
      intro i q1 t1 M1 hm hf a2 hX hj he
      have er := PV_row hf
      obtain ⟨hn1, -, hp1, pn1, hB1, hs1, ho1⟩ := hX
      refine hK _ _ _ _ (hK _ _ _ _ (hK _ _ _ _ (⟨fun h9 => ?_, fun h9 => ?_⟩)))
      · refine hK _ _ _ _ (hK _ _ _ _ (hK _ _ _ _ (⟨_, t_passSemicolon (d := d + 7) hn1 h4 hp1 pn1, rfl, fun v61 M61 g61 => ?_⟩)))
        obtain ⟨f61, g61⟩ := g61
        rw [er] at g61
        have hn61 : M61.1 1 0 1 = Int32.ofNat n := (f61.1 1 0 1 rfl).trans hn1
        rcases g61 with ⟨k1, rfl, k2⟩ | ⟨k1, rfl, k2⟩
        · refine hK _ _ _ _ (⟨fun q => (by first | exact absurd q (by decide) | exact absurd rfl q | exact absurd (by decide) q), fun _ => ?_⟩)
          have sl : t_sk (M.1 2 0) n q1 < n := by
            unfold t_semi at k1
            rw [Bool.and_eq_true] at k1
            exact Nat.le_of_ble_eq_true k1.1
          refine hK _ _ _ _ (hK _ _ _ _ (hK _ _ _ _ (⟨_, t_refuseNext (d := d + 7) hn61 h4 k2 sl, rfl, fun v71 M71 g71 => ?_⟩)))
          obtain ⟨rfl, f71⟩ := g71
          exact hK _ _ _ _ (hK _ _ _ _ (⟨Or.inl rfl, fr_t hf (fr_t (P3_V f61) (P3_V f71)), Or.inr ⟨w_read_2 b1 (he.trans (w_text_0 k1)), rfl⟩⟩))
        · refine hK _ _ _ _ (⟨fun _ => ?_, fun q => (by first | exact absurd q (by decide) | exact absurd rfl q | exact absurd (by decide) q)⟩)
          refine hK _ _ _ _ (hK _ _ _ _ (hK _ _ _ _ (⟨_, t_isEnded (d := d + 7) hn61 h4 k2 (t_go_le pn1), rfl, fun v81 M81 g81 => ?_⟩)))
          obtain ⟨f81, rfl⟩ := g81
          rw [PV_row (fr_t hf (P3_V f61)), show t_sk (M.1 2 0) n (t_sk (M.1 2 0) n q1) = t_sk (M.1 2 0) n q1 from t_go_id pn1]
          rw [w_text_n k1] at he
          have fV := fr_t hf (fr_t (P3_V f61) (P3_V f81))
          have f3 := fr_t (P3_w f61) (P3_w f81)
          by_cases hz : t_sk (M.1 2 0) n q1 < n
          · rw [if_pos hz] at he
            rw [if_pos hz]
            exact hK _ _ _ _ (⟨Or.inl rfl, fV, Or.inr ⟨w_read_2 b1 he, rfl⟩⟩)
          · rw [if_neg hz] at he
            rw [if_neg hz]
            exact hK _ _ _ _ (⟨Or.inr rfl, fV, Or.inl ⟨c, t1, w_read_3 b1 he, rfl, b2, b3, (f3.1 17 0 2 rfl).trans a2, WKs_3 f3 hs1, ho1, J_3 (hJ c) f3 hj⟩⟩)
      · exact absurd (x_nge (x := i) (y := 12) rfl rfl (by omega) (by decide) h9) (by omega)
    | succ m ih =>
      intro i q1 t1 M1 hm hf a2 hX hj he
      have er := PV_row hf
      obtain ⟨hn1, -, hp1, pn1, hB1, hs1, ho1⟩ := hX
      refine hK _ _ _ _ (hK _ _ _ _ (hK _ _ _ _ (⟨fun h9 => ?_, fun h9 => ?_⟩)))
      · exact absurd (x_ge (x := i) (y := 12) rfl rfl (by omega) (by decide) h9) (by omega)
      · refine hK _ _ _ _ (hK _ _ _ _ (hK _ _ _ _ (⟨_, t_passSemicolon (d := d + 7) hn1 h4 hp1 pn1, rfl, fun v28 M28 g28 => ?_⟩)))
        obtain ⟨f28, g28⟩ := g28
        rw [er] at g28
        have hn28 : M28.1 1 0 1 = Int32.ofNat n := (f28.1 1 0 1 rfl).trans hn1
        rcases g28 with ⟨k1, rfl, k2⟩ | ⟨k1, rfl, k2⟩
        · refine hK _ _ _ _ (⟨fun _ => ?_, fun q => (by first | exact absurd q (by decide) | exact absurd rfl q | exact absurd (by decide) q)⟩)
          have sl : t_sk (M.1 2 0) n q1 < n := by
            unfold t_semi at k1
            rw [Bool.and_eq_true] at k1
            exact Nat.le_of_ble_eq_true k1.1
          have f3 := P3_w f28
          refine hK _ _ _ _ (hK _ _ _ _ (⟨_, b_readWP (d := d) ⟨hn28, h4, k2, sl, cB_3 f3 hB1, WKs_3 f3 hs1, ho1⟩ hO (hJ c) (J_3 (hJ c) f3 hj), rfl, fun v43 M43 g43 => ?_⟩))
          obtain ⟨f43, y2, g43⟩ := g43
          rw [PV_row (fr_t hf (P3_V f28))] at g43
          have fV := fr_t hf (fr_t (P3_V f28) f43)
          rcases g43 with ⟨u, q2, k3, rfl, k4, k5⟩ | ⟨k3, rfl⟩
          · refine hK _ _ _ _ (⟨fun _ => ?_, fun q => (by first | exact absurd q (by decide) | exact absurd rfl q | exact absurd (by decide) q)⟩)
            refine hK _ _ _ _ (hK _ _ _ _ (?_))
            rw [hI_s]
            exact ih (i + 1) q2 u M43 (by omega) fV (y2.trans ((f3.1 17 0 2 rfl).trans a2)) k4 k5 (he.trans (w_text_s k1 k3))
          · refine hK _ _ _ _ (⟨fun q => (by first | exact absurd q (by decide) | exact absurd rfl q | exact absurd (by decide) q), fun _ => ?_⟩)
            exact hK _ _ _ _ (hK _ _ _ _ (⟨Or.inl rfl, fV, Or.inr ⟨w_read_2 b1 (he.trans (w_text_x k1 k3)), rfl⟩⟩))
        · refine hK _ _ _ _ (⟨fun q => (by first | exact absurd q (by decide) | exact absurd rfl q | exact absurd (by decide) q), fun _ => ?_⟩)
          refine hK _ _ _ _ (hK _ _ _ _ (hK _ _ _ _ (⟨_, t_isEnded (d := d + 7) hn28 h4 k2 (t_go_le pn1), rfl, fun v38 M38 g38 => ?_⟩)))
          obtain ⟨f38, rfl⟩ := g38
          rw [PV_row (fr_t hf (P3_V f28)), show t_sk (M.1 2 0) n (t_sk (M.1 2 0) n q1) = t_sk (M.1 2 0) n q1 from t_go_id pn1]
          rw [w_text_n k1] at he
          have fV := fr_t hf (fr_t (P3_V f28) (P3_V f38))
          have f3 := fr_t (P3_w f28) (P3_w f38)
          by_cases hz : t_sk (M.1 2 0) n q1 < n
          · rw [if_pos hz] at he
            rw [if_pos hz]
            exact hK _ _ _ _ (⟨Or.inl rfl, fV, Or.inr ⟨w_read_2 b1 he, rfl⟩⟩)
          · rw [if_neg hz] at he
            rw [if_neg hz]
            exact hK _ _ _ _ (⟨Or.inr rfl, fV, Or.inl ⟨c, t1, w_read_3 b1 he, rfl, b2, b3, (f3.1 17 0 2 rfl).trans a2, WKs_3 f3 hs1, ho1, J_3 (hJ c) f3 hj⟩⟩)
  refine hK _ _ _ _ (hK _ _ _ _ (?_))
  exact lp 12 0 q (c, 0, []) M8 rfl (fr_t (P3_V f4) f8) b4 b5 b6 rfl
