theorem l_ends {w h s l a b : Nat} (w1 : 1 ≤ w) (w3 : w ≤ 3) (h1 : 1 ≤ h) (h3 : h ≤ 3) (s2 : s ≤ 2) (l32 : l < 32) (hv : hl w h s l = true) (ha : a ≤ w) (hb : b ≤ h) : Nat.beq (l / 2) (xco w h s a b) = Nat.beq (ren w h s (lm w h s l) 0) (rco w h s a b) ∧ Nat.beq (len w h s l) (xco w h s a b) = Nat.beq (ren w h s (lm w h s l) 1) (rco w h s a b) := by
  have h := b_imp (b_imp (b_imp (bal_ok (bal_ok (bal_ok (sz_all (P := fun w h s => bal 32 (fun l => bal 4 (fun a => bal 4 (fun b => !(hl w h s l) || (!(Nat.ble a w) || (!(Nat.ble b h) || (beqB (Nat.beq (l / 2) (xco w h s a b)) (Nat.beq (ren w h s (lm w h s l) 0) (rco w h s a b)) && beqB (Nat.beq (len w h s l) (xco w h s a b)) (Nat.beq (ren w h s (lm w h s l) 1) (rco w h s a b)))))))) ) (by decide +kernel) w1 w3 h1 h3 s2) l32) (show a < 4 by omega)) (show b < 4 by omega)) hv) (Nat.ble_eq_true_of_le ha)) (Nat.ble_eq_true_of_le hb)
  rw [Bool.and_eq_true] at h
  exact ⟨beqB_e h.1, beqB_e h.2⟩
theorem hl_b {w h s l : Nat} (w1 : 1 ≤ w) (w3 : w ≤ 3) (h1 : 1 ≤ h) (h3 : h ≤ 3) (hv : hl w h s l = true) : (l % 2 = 0 ∧ l / 2 % 4 + 1 ≤ w ∧ l / 2 / 4 ≤ h) ∨ (l % 2 = 1 ∧ l / 2 % 4 ≤ w ∧ l / 2 / 4 + 1 ≤ h) := by
  have c := xcols_b (s := s) w1 w3
  have r := xrows_b (s := s) h1 h3
  unfold hl at hv
  cases hb : Nat.beq (l % 2) 0 with
  | true =>
    rw [hb, cond_true, Bool.and_eq_true] at hv
    have a := z_blt hv.1
    have b := z_blt hv.2
    exact Or.inl ⟨Nat.eq_of_beq_eq_true hb, by omega, by omega⟩
  | false =>
    rw [hb, cond_false, Bool.and_eq_true] at hv
    have a := z_blt hv.1
    have b := z_blt hv.2
    have n0 : ¬ l % 2 = 0 := fun z => by rw [z] at hb; cases hb
    exact Or.inr ⟨by omega, by omega, by omega⟩
theorem b_turnOn {nS d i a : Nat} {M : aM} {x : Int32} (hx : x = Int32.ofNat a) (ha : a < 32) : aC nS (d + 2) 28 [vR 4 i, vI x] M (fun v M' => v = some (vI (M.1 12 i a)) ∧ M = M') (fun _ _ => False) := by
  refine aC_mk rfl rfl ?_
  intro K hK _
  refine hK _ _ _ _ (hK _ _ _ _ (hK _ _ _ _ (hK _ _ _ _ (⟨_, g_at12 hx ha, rfl, fun v5 M5 g5 => ?_⟩))))
  obtain ⟨rfl, rfl⟩ := g5
  exact hK _ _ _ _ (⟨rfl, rfl⟩)
theorem b_hasL {nS d i w h s l : Nat} {M : aM} {x : Int32} (hs : cS i M w h s) (w1 : 1 ≤ w) (w3 : w ≤ 3) (h1 : 1 ≤ h) (h3 : h ≤ 3) (l32 : l < 32) (hx : x = Int32.ofNat l) : aC nS (d + 2) 25 [vR 4 i, vI x] M (fun v M' => v = some (vI (if hl w h s l = true then 1 else 0)) ∧ M = M') (fun _ _ => False) := b_hasLine (cx := l / 2 % 4) (cy := l / 2 / 4) (n := l % 2) hs w1 w3 h1 h3 (by omega) (by omega) (by omega) (by rw [hx]; congr 1; omega)
theorem b_corner {nS d i w h s a b : Nat} {M : aM} {x y : Int32} (hs : cS i M w h s) (w1 : 1 ≤ w) (w3 : w ≤ 3) (h1 : 1 ≤ h) (h3 : h ≤ 3) (ha : a ≤ w) (hb : b ≤ h) (hx : x = Int32.ofNat a) (hy : y = Int32.ofNat b) : aC nS (d + 1) 17 [vR 4 i, vI x, vI y] M (fun v M' => v = some (vI (Int32.ofNat (xco w h s a b))) ∧ M = M') (fun _ _ => False) := aC_post (b_cornerAt hs w1 w3 h1 h3) (fun v M' z => by
  obtain ⟨z, rfl⟩ := z
  rcases z with ⟨a2, b2, ha2, hb2, e1, e2, rfl⟩ | ⟨no, -⟩
  · rw [x_inj (x := a) (y := a2) (by omega) (by omega) (hx.symm.trans e1), x_inj (x := b) (y := b2) (by omega) (by omega) (hy.symm.trans e2)]
    exact ⟨rfl, rfl⟩
  · refine absurd ?_ no
    rw [hx, hy]
    exact ⟨(hI_le (a := 0) (by decide) (by omega)).mpr (Nat.zero_le _), (hI_le (by omega) (by omega)).mpr ha, (hI_le (a := 0) (by decide) (by omega)).mpr (Nat.zero_le _), (hI_le (by omega) (by omega)).mpr hb⟩) (fun _ _ z => z)
theorem b_lineN {nS d i w h s a b n : Nat} {M : aM} {x y z : Int32} (hs : cS i M w h s) (w1 : 1 ≤ w) (w3 : w ≤ 3) (h1 : 1 ≤ h) (h3 : h ≤ 3) (ha : a ≤ w) (hb : b ≤ h) (hn : n ≤ 1) (hx : x = Int32.ofNat a) (hy : y = Int32.ofNat b) (hz : z = Int32.ofNat n) (hv : xlv w h s a b n = true) : aC nS (d + 3) 18 [vR 4 i, vI x, vI y, vI z] M (fun v M' => v = some (vI (Int32.ofNat (xln w h s a b n))) ∧ M = M') (fun _ _ => False) := aC_post (b_lineAt hs w1 w3 h1 h3 hn hz) (fun v M' q => by
  obtain ⟨q, rfl⟩ := q
  rcases okL_of w3 h3 q with ⟨a2, b2, ha2, hb2, e1, e2, hv2, rfl⟩ | ⟨no, -⟩
  · rw [x_inj (x := a) (y := a2) (by omega) (by omega) (hx.symm.trans e1), x_inj (x := b) (y := b2) (by omega) (by omega) (hy.symm.trans e2)]
    exact ⟨rfl, rfl⟩
  · exact absurd (okL_y ha hb hx hy hv) no) (fun _ _ z => z)
theorem b_endOf {nS d i w h s l : Nat} {M : aM} {x : Int32} (hs : cS i M w h s) (w1 : 1 ≤ w) (w3 : w ≤ 3) (h1 : 1 ≤ h) (h3 : h ≤ 3) (l32 : l < 32) (hv : hl w h s l = true) (hx : x = Int32.ofNat l) : aC nS (d + 2) 24 [vR 4 i, vI x] M (fun v M' => v = some (vI (Int32.ofNat (len w h s l))) ∧ M = M') (fun _ _ => False) := by
  subst hx
  have hb := hl_b w1 w3 h1 h3 hv
  refine aC_mk rfl rfl ?_
  intro K hK _
  refine hK _ _ _ _ (hK _ _ _ _ (⟨_, b_beginOf rfl (by omega), rfl, fun v1 M1 g1 => ?_⟩))
  obtain ⟨rfl, rfl⟩ := g1
  refine hK _ _ _ _ (⟨_, b_columnOf rfl (by omega), rfl, fun v4 M4 g4 => ?_⟩)
  obtain ⟨rfl, rfl⟩ := g4
  refine hK _ _ _ _ (hK _ _ _ _ (hK _ _ _ _ (⟨_, b_beginOf rfl (by omega), rfl, fun v9 M9 g9 => ?_⟩)))
  obtain ⟨rfl, rfl⟩ := g9
  refine hK _ _ _ _ (⟨_, b_rowOf rfl (by omega), rfl, fun v12 M12 g12 => ?_⟩)
  obtain ⟨rfl, rfl⟩ := g12
  refine hK _ _ _ _ (hK _ _ _ _ (hK _ _ _ _ (⟨_, b_isNorth rfl (by omega), rfl, fun v17 M17 g17 => ?_⟩)))
  obtain ⟨rfl, rfl⟩ := g17
  refine hK _ _ _ _ (⟨fun q => ?_, fun q => ?_⟩)
  · have n0 : l % 2 = 0 := x_inj (y := 0) (by omega) (by decide) q
    rcases hb with ⟨-, h5, h6⟩ | ⟨h4, -⟩
    · refine hK _ _ _ _ (hK _ _ _ _ (hK _ _ _ _ (hK _ _ _ _ (hK _ _ _ _ (hK _ _ _ _ (⟨_, b_corner hs w1 w3 h1 h3 (a := l / 2 % 4 + 1) (b := l / 2 / 4) h5 h6 hI_s rfl, rfl, fun v39 M39 g39 => ?_⟩))))))
      obtain ⟨rfl, rfl⟩ := g39
      exact hK _ _ _ _ (⟨by unfold len; rw [x_beq n0]; rfl, rfl⟩)
    · omega
  · have n1 : ¬ l % 2 = 0 := fun z => q (by rw [z]; rfl)
    rcases hb with ⟨h4, -⟩ | ⟨-, h5, h6⟩
    · omega
    · refine hK _ _ _ _ (hK _ _ _ _ (hK _ _ _ _ (hK _ _ _ _ (hK _ _ _ _ (hK _ _ _ _ (⟨_, b_corner hs w1 w3 h1 h3 (a := l / 2 % 4) (b := l / 2 / 4 + 1) h5 h6 rfl hI_s, rfl, fun v28 M28 g28 => ?_⟩))))))
      obtain ⟨rfl, rfl⟩ := g28
      exact hK _ _ _ _ (hK _ _ _ _ (⟨by unfold len; rw [x_nbeq n1]; rfl, rfl⟩))
theorem r_lineMy {nS d w h s : Nat} {M : aM} (hs : rS M w h s) (w1 : 1 ≤ w) (w3 : w ≤ 3) (h1 : 1 ≤ h) (h3 : h ≤ 3) (s2 : s ≤ 2) : aC nS (d + 2) 195 [vR 36 0] M (fun v M' => v = some (vI (Int32.ofNat (lmy w h s))) ∧ M = M') (fun _ _ => False) := by
  have c := xcols_b (s := s) w1 w3
  have r := xrows_b (s := s) h1 h3
  refine aC_mk rfl rfl ?_
  intro K hK _
  refine hK _ _ _ _ (hK _ _ _ _ (hK _ _ _ _ (hK _ _ _ _ (⟨x_vp (a := 3) rfl (by decide) (by decide), ?_⟩))))
  rw [x_cl (j := 3) (a := 3) rfl (by decide), hs.1]
  refine hK _ _ _ _ (hK _ _ _ _ (⟨_, r_rowsOf hs h3 s2, rfl, fun v7 M7 g7 => ?_⟩))
  obtain ⟨rfl, rfl⟩ := g7
  refine hK _ _ _ _ (hK _ _ _ _ (hK _ _ _ _ (hK _ _ _ _ (hK _ _ _ _ (⟨x_vp (a := 4) rfl (by decide) (by decide), ?_⟩)))))
  rw [x_cl (j := 4) (a := 4) rfl (by decide), hs.2.1]
  refine hK _ _ _ _ (hK _ _ _ _ (⟨_, r_columns hs w3 s2, rfl, fun v18 M18 g18 => ?_⟩))
  obtain ⟨rfl, rfl⟩ := g18
  refine hK _ _ _ _ (hK _ _ _ _ (hK _ _ _ _ (?_)))
  rw [x_mul (by omega) (by omega), x_mul (by omega) (by omega), hI_ad]
  exact ⟨rfl, rfl⟩
theorem r_heldN {nS d w h s a b n : Nat} {M : aM} {x y z : Int32} (hs : rS M w h s) (w1 : 1 ≤ w) (w3 : w ≤ 3) (h1 : 1 ≤ h) (h3 : h ≤ 3) (s2 : s ≤ 2) (ha : a ≤ w) (hb : b ≤ h) (hn : n ≤ 1) (hx : x = Int32.ofNat a) (hy : y = Int32.ofNat b) (hz : z = Int32.ofNat n) (hv : xlv w h s a b n = true) : aC nS (d + 4) 198 [vR 36 0, vI x, vI y, vI z] M (fun v M' => v = some (vI (M.1 37 0 (20 + rln w h s a b n))) ∧ M = M') (fun _ _ => False) := by
  have l24 := rln_lt (s := s) w1 w3 h1 h3 s2 hn ha hb hv
  refine aC_mk rfl rfl ?_
  intro K hK _
  refine hK _ _ _ _ (hK _ _ _ _ (hK _ _ _ _ (hK _ _ _ _ (hK _ _ _ _ (hK _ _ _ _ (hK _ _ _ _ (hK _ _ _ _ (⟨_, r_lineOf hs w1 w3 h1 h3 s2 hn hz, rfl, fun v10 M10 g10 => ?_⟩))))))))
  obtain ⟨g10, rfl⟩ := g10
  rcases okL_of w3 h3 g10 with ⟨a2, b2, ha2, hb2, e1, e2, hv2, rfl⟩ | ⟨no, -⟩
  · rw [← x_inj (x := a) (y := a2) (by omega) (by omega) (hx.symm.trans e1), ← x_inj (x := b) (y := b2) (by omega) (by omega) (hy.symm.trans e2)]
    have e20 : (20 : Int32) + Int32.ofNat (rln w h s a b n) = Int32.ofNat (20 + rln w h s a b n) := hI_ad (a := 20)
    refine hK _ _ _ _ (hK _ _ _ _ (⟨x_vp e20 (show 20 + rln w h s a b n < 1010 by omega) (by decide), ?_⟩))
    rw [x_cl e20 (by omega)]
    exact hK _ _ _ _ (⟨rfl, rfl⟩)
  · exact absurd (okL_y ha hb hx hy hv) no
theorem okT_n {o : Nat} {t : Int32} (o8 : o ≤ 8) (h : okT o t) : t = Int32.ofNat (xn t) ∧ xn t < o := by
  obtain ⟨a, ha, rfl⟩ := h
  have e : xn (Int32.ofNat a) = a := x_cl rfl (by omega)
  rw [e]
  exact ⟨rfl, ha⟩
theorem lR_n {q b n : Nat} {M : aM} {w h s x y : Nat} {S : Nat → Int32} (hL : lR q b M w h s S) (w1 : 1 ≤ w) (w3 : w ≤ 3) (h1 : 1 ≤ h) (h3 : h ≤ 3) (s2 : s ≤ 2) (hx : x ≤ w) (hy : y ≤ h) (hn : n ≤ 1) (hv : xlv w h s x y n = true) : M.1 q 0 (b + rln w h s x y n) = S (xln w h s x y n) := by
  have h9 := xln_hl w1 w3 h1 h3 s2 hx hy hn hv
  rw [← h9.2]
  exact hL _ (xln_lt w1 w3 h1 h3 hx hy hn) h9.1
theorem lO_n {n : Nat} {w h s o x y : Nat} {S : Nat → Int32} (hO : lO w h s o S) (w1 : 1 ≤ w) (w3 : w ≤ 3) (h1 : 1 ≤ h) (h3 : h ≤ 3) (s2 : s ≤ 2) (hx : x ≤ w) (hy : y ≤ h) (hn : n ≤ 1) (hv : xlv w h s x y n = true) : okT o (S (xln w h s x y n)) := hO _ (xln_lt w1 w3 h1 h3 hx hy hn) (xln_hl w1 w3 h1 h3 s2 hx hy hn hv).1
theorem sq_l {w h s x y : Nat} (w1 : 1 ≤ w) (w3 : w ≤ 3) (h1 : 1 ≤ h) (h3 : h ≤ 3) (s2 : s ≤ 2) (hx : x < w) (hy : y < h) : (xlv w h s x y 0 = true ∧ xlv w h s (x + 1) y 1 = true) ∧ xlv w h s x (y + 1) 0 = true ∧ xlv w h s x y 1 = true := by
  have h9 := b_imp (b_imp (bal_ok (bal_ok (sz_all (P := fun w h s => bal 3 (fun x => bal 3 (fun y => !(Nat.blt x w) || (!(Nat.blt y h) || ((xlv w h s x y 0 && xlv w h s (x + 1) y 1) && (xlv w h s x (y + 1) 0 && xlv w h s x y 1)))))) (by decide +kernel) w1 w3 h1 h3 s2) (show x < 3 by omega)) (show y < 3 by omega)) (x_blt hx)) (x_blt hy)
  rw [Bool.and_eq_true, Bool.and_eq_true, Bool.and_eq_true] at h9
  exact h9
def rdv (k o : Nat) (T : Nat → Nat) (w h s x y : Nat) : Nat := rt k o (rt k o (T (xln w h s x y 0)) (T (xln w h s (x + 1) y 1))) (rt k o (ag k o (T (xln w h s x (y + 1) 0))) (ag k o (T (xln w h s x y 1))))
def l3 : List (Nat × Nat × Nat × Nat × Nat) := gP.flatMap (fun q => (List.range q.2).flatMap (fun a => (List.range q.2).flatMap (fun b => (List.range q.2).map (fun c => (q.1, q.2, a, b, c)))))
theorem l3_all {P : Nat → Nat → Nat → Nat → Nat → Bool} (h : l3.all (fun e => P e.1 e.2.1 e.2.2.1 e.2.2.2.1 e.2.2.2.2) = true) {k o a b c : Nat} (hq : (k, o) ∈ gP) (ha : a < o) (hb : b < o) (hc : c < o) : P k o a b c = true := List.all_eq_true.mp h (k, o, a, b, c) (List.mem_flatMap.mpr ⟨(k, o), hq, List.mem_flatMap.mpr ⟨a, List.mem_range.mpr ha, List.mem_flatMap.mpr ⟨b, List.mem_range.mpr hb, List.mem_map.mpr ⟨c, List.mem_range.mpr hc, rfl⟩⟩⟩⟩)
theorem rt_as {k o a b c : Nat} (hq : (k, o) ∈ gP) (ha : a < o) (hb : b < o) (hc : c < o) : rt k o (rt k o a b) c = rt k o a (rt k o b c) := Nat.eq_of_beq_eq_true (l3_all (P := fun k o a b c => Nat.beq (rt k o (rt k o a b) c) (rt k o a (rt k o b c))) (by decide +kernel) hq ha hb hc)
theorem b_side0 {nS d i w h s x y : Nat} {M : aM} {q sd : Int32} (hs : cS i M w h s) (w1 : 1 ≤ w) (w3 : w ≤ 3) (h1 : 1 ≤ h) (h3 : h ≤ 3) (s2 : s ≤ 2) (hx : x < w) (hy : y < h) (hq : q = Int32.ofNat (y * 4 + x)) (hd : sd = Int32.ofNat 0) : aC nS (d + 4) 27 [vR 4 i, vI q, vI sd] M (fun v M' => v = some (vI (Int32.ofNat (xln w h s x y 0))) ∧ M = M') (fun _ _ => False) := by
  subst hq
  refine aC_mk rfl rfl ?_
  intro K hK _
  refine hK _ _ _ _ (hK _ _ _ _ (⟨_, b_columnOf rfl (by omega), rfl, fun v1 M1 g1 => ?_⟩))
  obtain ⟨rfl, rfl⟩ := g1
  rw [show (y * 4 + x) % 4 = x by omega]
  refine hK _ _ _ _ (hK _ _ _ _ (hK _ _ _ _ (⟨_, b_rowOf rfl (by omega), rfl, fun v6 M6 g6 => ?_⟩)))
  obtain ⟨rfl, rfl⟩ := g6
  rw [show (y * 4 + x) / 4 = y by omega]
  refine hK _ _ _ _ (hK _ _ _ _ (hK _ _ _ _ (⟨⟨fun q => ?_, fun q => ?_, fun q => ?_, trivial⟩, fun q => ?_⟩)))
  · refine hK _ _ _ _ (hK _ _ _ _ (hK _ _ _ _ (hK _ _ _ _ (hK _ _ _ _ (⟨_, b_lineN (d := d) (a := x) (b := y) (n := 0) hs w1 w3 h1 h3 (Nat.le_of_lt hx) (Nat.le_of_lt hy) (by decide) rfl rfl rfl (sq_l w1 w3 h1 h3 s2 hx hy).1.1, rfl, fun v45 M45 g45 => ?_⟩)))))
    obtain ⟨rfl, rfl⟩ := g45
    exact hK _ _ _ _ (⟨rfl, rfl⟩)
  · exact absurd (x_inj (x := 0) (y := 1) (by decide) (by decide) (hd.symm.trans q)) (by decide)
  · exact absurd (x_inj (x := 0) (y := 2) (by decide) (by decide) (hd.symm.trans q)) (by decide)
  · exact absurd hd (q 0 (by decide))
theorem b_side1 {nS d i w h s x y : Nat} {M : aM} {q sd : Int32} (hs : cS i M w h s) (w1 : 1 ≤ w) (w3 : w ≤ 3) (h1 : 1 ≤ h) (h3 : h ≤ 3) (s2 : s ≤ 2) (hx : x < w) (hy : y < h) (hq : q = Int32.ofNat (y * 4 + x)) (hd : sd = Int32.ofNat 1) : aC nS (d + 4) 27 [vR 4 i, vI q, vI sd] M (fun v M' => v = some (vI (Int32.ofNat (xln w h s (x + 1) y 1))) ∧ M = M') (fun _ _ => False) := by
  subst hq
  refine aC_mk rfl rfl ?_
  intro K hK _
  refine hK _ _ _ _ (hK _ _ _ _ (⟨_, b_columnOf rfl (by omega), rfl, fun v1 M1 g1 => ?_⟩))
  obtain ⟨rfl, rfl⟩ := g1
  rw [show (y * 4 + x) % 4 = x by omega]
  refine hK _ _ _ _ (hK _ _ _ _ (hK _ _ _ _ (⟨_, b_rowOf rfl (by omega), rfl, fun v6 M6 g6 => ?_⟩)))
  obtain ⟨rfl, rfl⟩ := g6
  rw [show (y * 4 + x) / 4 = y by omega]
  refine hK _ _ _ _ (hK _ _ _ _ (hK _ _ _ _ (⟨⟨fun q => ?_, fun q => ?_, fun q => ?_, trivial⟩, fun q => ?_⟩)))
  · exact absurd (x_inj (x := 1) (y := 0) (by decide) (by decide) (hd.symm.trans q)) (by decide)
  · refine hK _ _ _ _ (hK _ _ _ _ (hK _ _ _ _ (hK _ _ _ _ (hK _ _ _ _ (hK _ _ _ _ (hK _ _ _ _ (⟨_, b_lineN (d := d) (a := (x + 1)) (b := y) (n := 1) hs w1 w3 h1 h3 hx (Nat.le_of_lt hy) (by decide) hI_s rfl rfl (sq_l w1 w3 h1 h3 s2 hx hy).1.2, rfl, fun v56 M56 g56 => ?_⟩)))))))
    obtain ⟨rfl, rfl⟩ := g56
    exact hK _ _ _ _ (⟨rfl, rfl⟩)
  · exact absurd (x_inj (x := 1) (y := 2) (by decide) (by decide) (hd.symm.trans q)) (by decide)
  · exact absurd hd (q 1 (by decide))
theorem b_side2 {nS d i w h s x y : Nat} {M : aM} {q sd : Int32} (hs : cS i M w h s) (w1 : 1 ≤ w) (w3 : w ≤ 3) (h1 : 1 ≤ h) (h3 : h ≤ 3) (s2 : s ≤ 2) (hx : x < w) (hy : y < h) (hq : q = Int32.ofNat (y * 4 + x)) (hd : sd = Int32.ofNat 2) : aC nS (d + 4) 27 [vR 4 i, vI q, vI sd] M (fun v M' => v = some (vI (Int32.ofNat (xln w h s x (y + 1) 0))) ∧ M = M') (fun _ _ => False) := by
  subst hq
  refine aC_mk rfl rfl ?_
  intro K hK _
  refine hK _ _ _ _ (hK _ _ _ _ (⟨_, b_columnOf rfl (by omega), rfl, fun v1 M1 g1 => ?_⟩))
  obtain ⟨rfl, rfl⟩ := g1
  rw [show (y * 4 + x) % 4 = x by omega]
  refine hK _ _ _ _ (hK _ _ _ _ (hK _ _ _ _ (⟨_, b_rowOf rfl (by omega), rfl, fun v6 M6 g6 => ?_⟩)))
  obtain ⟨rfl, rfl⟩ := g6
  rw [show (y * 4 + x) / 4 = y by omega]
  refine hK _ _ _ _ (hK _ _ _ _ (hK _ _ _ _ (⟨⟨fun q => ?_, fun q => ?_, fun q => ?_, trivial⟩, fun q => ?_⟩)))
  · exact absurd (x_inj (x := 2) (y := 0) (by decide) (by decide) (hd.symm.trans q)) (by decide)
  · exact absurd (x_inj (x := 2) (y := 1) (by decide) (by decide) (hd.symm.trans q)) (by decide)
  · refine hK _ _ _ _ (hK _ _ _ _ (hK _ _ _ _ (hK _ _ _ _ (hK _ _ _ _ (hK _ _ _ _ (hK _ _ _ _ (⟨_, b_lineN (d := d) (a := x) (b := (y + 1)) (n := 0) hs w1 w3 h1 h3 (Nat.le_of_lt hx) hy (by decide) rfl hI_s rfl (sq_l w1 w3 h1 h3 s2 hx hy).2.1, rfl, fun v67 M67 g67 => ?_⟩)))))))
    obtain ⟨rfl, rfl⟩ := g67
    exact hK _ _ _ _ (⟨rfl, rfl⟩)
  · exact absurd hd (q 2 (by decide))
theorem b_side3 {nS d i w h s x y : Nat} {M : aM} {q sd : Int32} (hs : cS i M w h s) (w1 : 1 ≤ w) (w3 : w ≤ 3) (h1 : 1 ≤ h) (h3 : h ≤ 3) (s2 : s ≤ 2) (hx : x < w) (hy : y < h) (hq : q = Int32.ofNat (y * 4 + x)) (hd : sd = Int32.ofNat 3) : aC nS (d + 4) 27 [vR 4 i, vI q, vI sd] M (fun v M' => v = some (vI (Int32.ofNat (xln w h s x y 1))) ∧ M = M') (fun _ _ => False) := by
  subst hq
  refine aC_mk rfl rfl ?_
  intro K hK _
  refine hK _ _ _ _ (hK _ _ _ _ (⟨_, b_columnOf rfl (by omega), rfl, fun v1 M1 g1 => ?_⟩))
  obtain ⟨rfl, rfl⟩ := g1
  rw [show (y * 4 + x) % 4 = x by omega]
  refine hK _ _ _ _ (hK _ _ _ _ (hK _ _ _ _ (⟨_, b_rowOf rfl (by omega), rfl, fun v6 M6 g6 => ?_⟩)))
  obtain ⟨rfl, rfl⟩ := g6
  rw [show (y * 4 + x) / 4 = y by omega]
  refine hK _ _ _ _ (hK _ _ _ _ (hK _ _ _ _ (⟨⟨fun q => ?_, fun q => ?_, fun q => ?_, trivial⟩, fun q => ?_⟩)))
  · exact absurd (x_inj (x := 3) (y := 0) (by decide) (by decide) (hd.symm.trans q)) (by decide)
  · exact absurd (x_inj (x := 3) (y := 1) (by decide) (by decide) (hd.symm.trans q)) (by decide)
  · exact absurd (x_inj (x := 3) (y := 2) (by decide) (by decide) (hd.symm.trans q)) (by decide)
  · refine hK _ _ _ _ (hK _ _ _ _ (hK _ _ _ _ (hK _ _ _ _ (hK _ _ _ _ (⟨_, b_lineN (d := d) (a := x) (b := y) (n := 1) hs w1 w3 h1 h3 (Nat.le_of_lt hx) (Nat.le_of_lt hy) (by decide) rfl rfl rfl (sq_l w1 w3 h1 h3 s2 hx hy).2.2, rfl, fun v76 M76 g76 => ?_⟩)))))
    obtain ⟨rfl, rfl⟩ := g76
    exact hK _ _ _ _ (⟨rfl, rfl⟩)
theorem b_turnRound {nS d i w h s x y k o : Nat} {M : aM} {S : Nat → Int32} {q : Int32} (hs : cS i M w h s) (w1 : 1 ≤ w) (w3 : w ≤ 3) (h1 : 1 ≤ h) (h3 : h ≤ 3) (s2 : s ≤ 2) (hF : gF i M k o) (hO : lO w h s o S) (hC : ∀ l, l < 32 → M.1 12 i l = S l) (hx : x < w) (hy : y < h) (hq : q = Int32.ofNat (y * 4 + x)) : aC nS (d + 5) 30 [vR 4 i, vI q] M (fun v M' => v = some (vI (Int32.ofNat (rdv k o (fun l => xn (S l)) w h s x y))) ∧ M = M') (fun _ _ => False) := by
  obtain ⟨o2, o8, k3⟩ := gP_o hF.1.1
  have cv : ∀ l, l < 32 → hl w h s l = true → M.1 12 i l = Int32.ofNat (xn (S l)) := fun l a b => (hC l a).trans (okT_n o8 (hO l a b)).1
  have xn_lt : ∀ l, l < 32 → hl w h s l = true → xn (S l) < o := fun l a b => (okT_n o8 (hO l a b)).2
  have t0 := xn_lt (xln w h s x y 0) (xln_lt w1 w3 h1 h3 (Nat.le_of_lt hx) (Nat.le_of_lt hy) (by decide)) (xln_hl w1 w3 h1 h3 s2 (Nat.le_of_lt hx) (Nat.le_of_lt hy) (by decide) (sq_l w1 w3 h1 h3 s2 hx hy).1.1).1
  have t1 := xn_lt (xln w h s (x + 1) y 1) (xln_lt w1 w3 h1 h3 hx (Nat.le_of_lt hy) (by decide)) (xln_hl w1 w3 h1 h3 s2 hx (Nat.le_of_lt hy) (by decide) (sq_l w1 w3 h1 h3 s2 hx hy).1.2).1
  have t2 := xn_lt (xln w h s x (y + 1) 0) (xln_lt w1 w3 h1 h3 (Nat.le_of_lt hx) hy (by decide)) (xln_hl w1 w3 h1 h3 s2 (Nat.le_of_lt hx) hy (by decide) (sq_l w1 w3 h1 h3 s2 hx hy).2.1).1
  have t3 := xn_lt (xln w h s x y 1) (xln_lt w1 w3 h1 h3 (Nat.le_of_lt hx) (Nat.le_of_lt hy) (by decide)) (xln_hl w1 w3 h1 h3 s2 (Nat.le_of_lt hx) (Nat.le_of_lt hy) (by decide) (sq_l w1 w3 h1 h3 s2 hx hy).2.2).1
  refine aC_mk rfl rfl ?_
  intro K hK _
  refine hK _ _ _ _ (hK _ _ _ _ (hK _ _ _ _ (hK _ _ _ _ (hK _ _ _ _ (⟨_, b_side0 (d := d) hs w1 w3 h1 h3 s2 hx hy hq rfl, rfl, fun v4 M4 g4 => ?_⟩)))))
  obtain ⟨rfl, rfl⟩ := g4
  refine hK _ _ _ _ (⟨_, b_turnOn (d := d + 2) rfl (xln_lt w1 w3 h1 h3 (Nat.le_of_lt hx) (Nat.le_of_lt hy) (by decide)), rfl, fun v7 M7 g7 => ?_⟩)
  obtain ⟨rfl, rfl⟩ := g7
  rw [cv (xln w h s x y 0) (xln_lt w1 w3 h1 h3 (Nat.le_of_lt hx) (Nat.le_of_lt hy) (by decide)) (xln_hl w1 w3 h1 h3 s2 (Nat.le_of_lt hx) (Nat.le_of_lt hy) (by decide) (sq_l w1 w3 h1 h3 s2 hx hy).1.1).1]
  refine hK _ _ _ _ (hK _ _ _ _ (hK _ _ _ _ (hK _ _ _ _ (hK _ _ _ _ (hK _ _ _ _ (⟨_, b_side1 (d := d) hs w1 w3 h1 h3 s2 hx hy hq rfl, rfl, fun v15 M15 g15 => ?_⟩))))))
  obtain ⟨rfl, rfl⟩ := g15
  refine hK _ _ _ _ (⟨_, b_turnOn (d := d + 2) rfl (xln_lt w1 w3 h1 h3 hx (Nat.le_of_lt hy) (by decide)), rfl, fun v18 M18 g18 => ?_⟩)
  obtain ⟨rfl, rfl⟩ := g18
  rw [cv (xln w h s (x + 1) y 1) (xln_lt w1 w3 h1 h3 hx (Nat.le_of_lt hy) (by decide)) (xln_hl w1 w3 h1 h3 s2 hx (Nat.le_of_lt hy) (by decide) (sq_l w1 w3 h1 h3 s2 hx hy).1.2).1]
  refine hK _ _ _ _ (hK _ _ _ _ (hK _ _ _ _ (hK _ _ _ _ (hK _ _ _ _ (hK _ _ _ _ (hK _ _ _ _ (hK _ _ _ _ (⟨_, b_side2 (d := d) hs w1 w3 h1 h3 s2 hx hy hq rfl, rfl, fun v30 M30 g30 => ?_⟩))))))))
  obtain ⟨rfl, rfl⟩ := g30
  refine hK _ _ _ _ (⟨_, b_turnOn (d := d + 2) rfl (xln_lt w1 w3 h1 h3 (Nat.le_of_lt hx) hy (by decide)), rfl, fun v33 M33 g33 => ?_⟩)
  obtain ⟨rfl, rfl⟩ := g33
  rw [cv (xln w h s x (y + 1) 0) (xln_lt w1 w3 h1 h3 (Nat.le_of_lt hx) hy (by decide)) (xln_hl w1 w3 h1 h3 s2 (Nat.le_of_lt hx) hy (by decide) (sq_l w1 w3 h1 h3 s2 hx hy).2.1).1]
  refine hK _ _ _ _ (⟨_, g_cagainst (d := d + 3) hF.1.1 hF.2.1 rfl t2, rfl, fun v36 M36 g36 => ?_⟩)
  obtain ⟨rfl, rfl⟩ := g36
  refine hK _ _ _ _ (hK _ _ _ _ (hK _ _ _ _ (hK _ _ _ _ (hK _ _ _ _ (hK _ _ _ _ (hK _ _ _ _ (hK _ _ _ _ (⟨_, b_side3 (d := d) hs w1 w3 h1 h3 s2 hx hy hq rfl, rfl, fun v49 M49 g49 => ?_⟩))))))))
  obtain ⟨rfl, rfl⟩ := g49
  refine hK _ _ _ _ (⟨_, b_turnOn (d := d + 2) rfl (xln_lt w1 w3 h1 h3 (Nat.le_of_lt hx) (Nat.le_of_lt hy) (by decide)), rfl, fun v52 M52 g52 => ?_⟩)
  obtain ⟨rfl, rfl⟩ := g52
  rw [cv (xln w h s x y 1) (xln_lt w1 w3 h1 h3 (Nat.le_of_lt hx) (Nat.le_of_lt hy) (by decide)) (xln_hl w1 w3 h1 h3 s2 (Nat.le_of_lt hx) (Nat.le_of_lt hy) (by decide) (sq_l w1 w3 h1 h3 s2 hx hy).2.2).1]
  refine hK _ _ _ _ (⟨_, g_cagainst (d := d + 3) hF.1.1 hF.2.1 rfl t3, rfl, fun v55 M55 g55 => ?_⟩)
  obtain ⟨rfl, rfl⟩ := g55
  refine hK _ _ _ _ (hK _ _ _ _ (hK _ _ _ _ (hK _ _ _ _ (hK _ _ _ _ (hK _ _ _ _ (hK _ _ _ _ (hK _ _ _ _ (⟨_, g_ctimes (d := d + 3) hF.1.1 hF.2.1 rfl rfl t0 t1, rfl, fun v70 M70 g70 => ?_⟩))))))))
  obtain ⟨rfl, rfl⟩ := g70
  refine hK _ _ _ _ (hK _ _ _ _ (hK _ _ _ _ (hK _ _ _ _ (hK _ _ _ _ (⟨_, g_ctimes (d := d + 3) hF.1.1 hF.2.1 rfl rfl (ag_lt hF.1.1 t2) (ag_lt hF.1.1 t3), rfl, fun v81 M81 g81 => ?_⟩)))))
  obtain ⟨rfl, rfl⟩ := g81
  refine hK _ _ _ _ (⟨_, g_ctimes (d := d + 3) hF.1.1 hF.2.1 rfl rfl (rt_lt hF.1.1 t0 t1) (rt_lt hF.1.1 (ag_lt hF.1.1 t2) (ag_lt hF.1.1 t3)), rfl, fun v84 M84 g84 => ?_⟩)
  obtain ⟨rfl, rfl⟩ := g84
  exact hK _ _ _ _ (⟨rfl, rfl⟩)
theorem r_roundOf {nS d w h s x y k o : Nat} {M : aM} {S : Nat → Int32} {a1 a2 : Int32} (hs : rS M w h s) (w1 : 1 ≤ w) (w3 : w ≤ 3) (h1 : 1 ≤ h) (h3 : h ≤ 3) (s2 : s ≤ 2) (hg : gM M k o) (hO : lO w h s o S) (hL : lR 37 20 M w h s S) (hx : x < w) (hy : y < h) (e1 : a1 = Int32.ofNat x) (e2 : a2 = Int32.ofNat y) : aC nS (d + 5) 199 [vR 36 0, vI a1, vI a2] M (fun v M' => v = some (vI (Int32.ofNat (rdv k o (fun l => xn (S l)) w h s x y))) ∧ M = M') (fun _ _ => False) := by
  subst e1
  subst e2
  obtain ⟨o2, o8, k3⟩ := gP_o hg.1
  have t0 := (okT_n o8 (lO_n hO w1 w3 h1 h3 s2 (Nat.le_of_lt hx) (Nat.le_of_lt hy) (by decide) (sq_l w1 w3 h1 h3 s2 hx hy).1.1)).2
  have t1 := (okT_n o8 (lO_n hO w1 w3 h1 h3 s2 hx (Nat.le_of_lt hy) (by decide) (sq_l w1 w3 h1 h3 s2 hx hy).1.2)).2
  have t2 := (okT_n o8 (lO_n hO w1 w3 h1 h3 s2 (Nat.le_of_lt hx) hy (by decide) (sq_l w1 w3 h1 h3 s2 hx hy).2.1)).2
  have t3 := (okT_n o8 (lO_n hO w1 w3 h1 h3 s2 (Nat.le_of_lt hx) (Nat.le_of_lt hy) (by decide) (sq_l w1 w3 h1 h3 s2 hx hy).2.2)).2
  refine aC_mk rfl rfl ?_
  intro K hK _
  refine hK _ _ _ _ (hK _ _ _ _ (hK _ _ _ _ (hK _ _ _ _ (hK _ _ _ _ (hK _ _ _ _ (hK _ _ _ _ (hK _ _ _ _ (⟨_, r_heldN (d := d) (a := x) (b := y) (n := 0) hs w1 w3 h1 h3 s2 (Nat.le_of_lt hx) (Nat.le_of_lt hy) (by decide) rfl rfl rfl (sq_l w1 w3 h1 h3 s2 hx hy).1.1, rfl, fun v7 M7 g7 => ?_⟩))))))))
  obtain ⟨rfl, rfl⟩ := g7
  rw [lR_n hL w1 w3 h1 h3 s2 (Nat.le_of_lt hx) (Nat.le_of_lt hy) (by decide) (sq_l w1 w3 h1 h3 s2 hx hy).1.1, (okT_n o8 (lO_n hO w1 w3 h1 h3 s2 (Nat.le_of_lt hx) (Nat.le_of_lt hy) (by decide) (sq_l w1 w3 h1 h3 s2 hx hy).1.1)).1]
  refine hK _ _ _ _ (hK _ _ _ _ (hK _ _ _ _ (hK _ _ _ _ (hK _ _ _ _ (hK _ _ _ _ (hK _ _ _ _ (⟨_, r_heldN (d := d) (a := (x + 1)) (b := y) (n := 1) hs w1 w3 h1 h3 s2 hx (Nat.le_of_lt hy) (by decide) hI_s rfl rfl (sq_l w1 w3 h1 h3 s2 hx hy).1.2, rfl, fun v16 M16 g16 => ?_⟩)))))))
  obtain ⟨rfl, rfl⟩ := g16
  rw [lR_n hL w1 w3 h1 h3 s2 hx (Nat.le_of_lt hy) (by decide) (sq_l w1 w3 h1 h3 s2 hx hy).1.2, (okT_n o8 (lO_n hO w1 w3 h1 h3 s2 hx (Nat.le_of_lt hy) (by decide) (sq_l w1 w3 h1 h3 s2 hx hy).1.2)).1]
  refine hK _ _ _ _ (⟨_, g_times (d := d + 3) hg t0 t1, rfl, fun v19 M19 g19 => ?_⟩)
  obtain ⟨rfl, rfl⟩ := g19
  refine hK _ _ _ _ (hK _ _ _ _ (hK _ _ _ _ (hK _ _ _ _ (hK _ _ _ _ (hK _ _ _ _ (hK _ _ _ _ (hK _ _ _ _ (⟨_, r_heldN (d := d) (a := x) (b := (y + 1)) (n := 0) hs w1 w3 h1 h3 s2 (Nat.le_of_lt hx) hy (by decide) rfl hI_s rfl (sq_l w1 w3 h1 h3 s2 hx hy).2.1, rfl, fun v29 M29 g29 => ?_⟩))))))))
  obtain ⟨rfl, rfl⟩ := g29
  rw [lR_n hL w1 w3 h1 h3 s2 (Nat.le_of_lt hx) hy (by decide) (sq_l w1 w3 h1 h3 s2 hx hy).2.1, (okT_n o8 (lO_n hO w1 w3 h1 h3 s2 (Nat.le_of_lt hx) hy (by decide) (sq_l w1 w3 h1 h3 s2 hx hy).2.1)).1]
  refine hK _ _ _ _ (⟨_, g_against (d := d + 2) hg t2, rfl, fun v32 M32 g32 => ?_⟩)
  obtain ⟨rfl, rfl⟩ := g32
  refine hK _ _ _ _ (⟨_, g_times (d := d + 3) hg (rt_lt hg.1 t0 t1) (ag_lt hg.1 t2), rfl, fun v35 M35 g35 => ?_⟩)
  obtain ⟨rfl, rfl⟩ := g35
  refine hK _ _ _ _ (hK _ _ _ _ (hK _ _ _ _ (hK _ _ _ _ (hK _ _ _ _ (hK _ _ _ _ (⟨_, r_heldN (d := d) (a := x) (b := y) (n := 1) hs w1 w3 h1 h3 s2 (Nat.le_of_lt hx) (Nat.le_of_lt hy) (by decide) rfl rfl rfl (sq_l w1 w3 h1 h3 s2 hx hy).2.2, rfl, fun v43 M43 g43 => ?_⟩))))))
  obtain ⟨rfl, rfl⟩ := g43
  rw [lR_n hL w1 w3 h1 h3 s2 (Nat.le_of_lt hx) (Nat.le_of_lt hy) (by decide) (sq_l w1 w3 h1 h3 s2 hx hy).2.2, (okT_n o8 (lO_n hO w1 w3 h1 h3 s2 (Nat.le_of_lt hx) (Nat.le_of_lt hy) (by decide) (sq_l w1 w3 h1 h3 s2 hx hy).2.2)).1]
  refine hK _ _ _ _ (⟨_, g_against (d := d + 2) hg t3, rfl, fun v46 M46 g46 => ?_⟩)
  obtain ⟨rfl, rfl⟩ := g46
  refine hK _ _ _ _ (⟨_, g_times (d := d + 3) hg (rt_lt hg.1 (rt_lt hg.1 t0 t1) (ag_lt hg.1 t2)) (ag_lt hg.1 t3), rfl, fun v49 M49 g49 => ?_⟩)
  obtain ⟨rfl, rfl⟩ := g49
  rw [rt_as hg.1 (rt_lt hg.1 t0 t1) (ag_lt hg.1 t2) (ag_lt hg.1 t3)]
  exact hK _ _ _ _ (⟨rfl, rfl⟩)
