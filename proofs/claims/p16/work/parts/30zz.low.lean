/-- corners by the reference's numbers -/
def rco (w h s x y : Nat) : Nat := y % xrows h s * xcols w s + x % xcols w s
theorem x_mul {a b : Nat} (ha : a < 1000) (hb : b < 1000) : Int32.ofNat a * Int32.ofNat b = Int32.ofNat (a * b) := (Int32.ofNat_mul a b).symm
theorem x_ne0 {a : Nat} (ha : 0 < a) (hb : a < 2147483648) : ¬ Int32.ofNat a = 0 := fun z => by
  have := x_eq (x := a) (y := 0) rfl rfl hb (by decide) z
  omega
theorem rco_lt {w h s x y : Nat} (w1 : 1 ≤ w) (w3 : w ≤ 3) (h1 : 1 ≤ h) (h3 : h ≤ 3) : rco w h s x y ≤ 15 := by
  have c := xcols_b (s := s) w1 w3
  have r := xrows_b (s := s) h1 h3
  have a := Nat.mod_lt x (show 0 < xcols w s by omega)
  have b := Nat.mod_lt y (show 0 < xrows h s by omega)
  have m : y % xrows h s * xcols w s ≤ 3 * xcols w s := Nat.mul_le_mul_right _ (by omega)
  show y % xrows h s * xcols w s + x % xcols w s ≤ 15
  omega
theorem r_cornerOf {nS d w h s a b : Nat} {M : aM} {x y : Int32} (hs : rS M w h s) (w1 : 1 ≤ w) (w3 : w ≤ 3) (h1 : 1 ≤ h) (h3 : h ≤ 3) (s2 : s ≤ 2) (hx : x = Int32.ofNat a) (hy : y = Int32.ofNat b) (ha : a < 1000) (hb : b < 1000) : aC nS (d + 2) 196 [vR 36 0, vI x, vI y] M (fun v M' => v = some (vI (Int32.ofNat (rco w h s a b))) ∧ M = M') (fun _ _ => False) := by
  have c := xcols_b (s := s) w1 w3
  have r := xrows_b (s := s) h1 h3
  subst hx
  subst hy
  refine aC_mk rfl rfl ?_
  intro K hK _
  refine hK _ _ _ _ (hK _ _ _ _ (hK _ _ _ _ (⟨_, r_rowsOf hs h3 s2, rfl, fun v2 M2 g2 => ?_⟩)))
  obtain ⟨rfl, rfl⟩ := g2
  refine hK _ _ _ _ (⟨x_ne0 (by omega) (by omega), ?_⟩)
  rw [show Int32.ofNat b - Int32.ofNat b / Int32.ofNat (xrows h s) * Int32.ofNat (xrows h s) = Int32.ofNat (b % xrows h s) from x_rem (by omega) (by omega)]
  refine hK _ _ _ _ (hK _ _ _ _ (⟨_, r_columns hs w3 s2, rfl, fun v7 M7 g7 => ?_⟩))
  obtain ⟨rfl, rfl⟩ := g7
  have lb := Nat.mod_lt b (show 0 < xrows h s by omega)
  refine hK _ _ _ _ (hK _ _ _ _ (hK _ _ _ _ (hK _ _ _ _ (⟨_, r_columns hs w3 s2, rfl, fun v13 M13 g13 => ?_⟩))))
  obtain ⟨rfl, rfl⟩ := g13
  refine hK _ _ _ _ (⟨x_ne0 (by omega) (by omega), ?_⟩)
  rw [show Int32.ofNat a - Int32.ofNat a / Int32.ofNat (xcols w s) * Int32.ofNat (xcols w s) = Int32.ofNat (a % xcols w s) from x_rem (by omega) (by omega)]
  exact hK _ _ _ _ (hK _ _ _ _ (⟨by rw [x_mul (by omega) (by omega), hI_ad]; rfl, rfl⟩))
/-- the corner at a line's begin (t 0) or end (t 1) -/
def ren (w h s l t : Nat) : Nat := if l < w * xrows h s then rco w h s (l % w + t) (l / w) else rco w h s ((l - w * xrows h s) % xcols w s) ((l - w * xrows h s) / xcols w s + t)
theorem r_endOf {nS d w h s l t : Nat} {M : aM} {x z : Int32} (hs : rS M w h s) (w1 : 1 ≤ w) (w3 : w ≤ 3) (h1 : 1 ≤ h) (h3 : h ≤ 3) (s2 : s ≤ 2) (hx : x = Int32.ofNat l) (hl : l < 100) (hz : z = Int32.ofNat t) (ht : t ≤ 1) : aC nS (d + 3) 197 [vR 36 0, vI x, vI z] M (fun v M' => v = some (vI (Int32.ofNat (ren w h s l t))) ∧ M = M') (fun _ _ => False) := by
  have c := xcols_b (s := s) w1 w3
  have r := xrows_b (s := s) h1 h3
  have m4 : w * xrows h s ≤ 3 * xrows h s := Nat.mul_le_mul_right _ w3
  subst hx
  subst hz
  refine aC_mk rfl rfl ?_
  intro K hK _
  refine hK _ _ _ _ (hK _ _ _ _ (hK _ _ _ _ (hK _ _ _ _ (⟨x_vp (a := 3) rfl (by decide) (by decide), ?_⟩))))
  rw [x_cl (j := 3) (a := 3) rfl (by decide), hs.1]
  refine hK _ _ _ _ (hK _ _ _ _ (⟨_, r_rowsOf hs h3 s2, rfl, fun v7 M7 g7 => ?_⟩))
  obtain ⟨rfl, rfl⟩ := g7
  refine hK _ _ _ _ (hK _ _ _ _ (?_))
  rw [x_mul (by omega) (by omega)]
  refine hK _ _ _ _ (hK _ _ _ _ (hK _ _ _ _ (⟨fun q => ?_, fun q => ?_⟩)))
  · have q1 := x_ge rfl rfl (by omega) (by omega) q
    have dl : (l - w * xrows h s) / xcols w s ≤ 100 := Nat.le_trans (Nat.div_le_self _ _) (by omega)
    have ml := Nat.mod_lt (l - w * xrows h s) (show 0 < xcols w s by omega)
    refine hK _ _ _ _ (hK _ _ _ _ (hK _ _ _ _ (hK _ _ _ _ (?_))))
    rw [x_sub q1 (by omega)]
    refine hK _ _ _ _ (hK _ _ _ _ (hK _ _ _ _ (hK _ _ _ _ (⟨_, r_columns hs w3 s2, rfl, fun v57 M57 g57 => ?_⟩))))
    obtain ⟨rfl, rfl⟩ := g57
    refine hK _ _ _ _ (⟨x_ne0 (by omega) (by omega), ?_⟩)
    rw [show Int32.ofNat (l - w * xrows h s) - Int32.ofNat (l - w * xrows h s) / Int32.ofNat (xcols w s) * Int32.ofNat (xcols w s) = Int32.ofNat ((l - w * xrows h s) % xcols w s) from x_rem (by omega) (by omega)]
    refine hK _ _ _ _ (hK _ _ _ _ (hK _ _ _ _ (⟨_, r_columns hs w3 s2, rfl, fun v64 M64 g64 => ?_⟩)))
    obtain ⟨rfl, rfl⟩ := g64
    refine hK _ _ _ _ (⟨x_ne0 (by omega) (by omega), ?_⟩)
    rw [x_div (show l - w * xrows h s < 2147483648 by omega) (show xcols w s < 2147483648 by omega)]
    have fin : ∀ u : Int32, u = Int32.ofNat t → K 77 [some (vR 36 0), some (vI (Int32.ofNat l)), some (vI (Int32.ofNat t)), some (vI (Int32.ofNat (w * xrows h s))), some (vI (Int32.ofNat (l - w * xrows h s)))] [vI u, vI (Int32.ofNat ((l - w * xrows h s) / xcols w s)), vI (Int32.ofNat ((l - w * xrows h s) % xcols w s)), vR 36 0] M := by
      intro u hu
      subst hu
      refine hK _ _ _ _ (hK _ _ _ _ (⟨_, r_cornerOf hs w1 w3 h1 h3 s2 rfl hI_ad (by omega) (by omega), rfl, fun v78 M78 g78 => ?_⟩))
      obtain ⟨rfl, rfl⟩ := g78
      exact hK _ _ _ _ ⟨by unfold ren; rw [if_neg (by omega)], rfl⟩
    refine hK _ _ _ _ (hK _ _ _ _ (⟨fun q2 => ?_, fun q2 => ?_⟩))
    · refine hK _ _ _ _ (?_)
      exact fin _ q2.symm
    · refine hK _ _ _ _ (hK _ _ _ _ (?_))
      refine fin _ ?_
      have : ¬ t = 0 := fun z => q2 (by rw [z]; rfl)
      rw [show t = 1 by omega]
      rfl
  · have q1 := x_nge rfl rfl (by omega) (by omega) q
    have dl : l / w ≤ 100 := Nat.le_trans (Nat.div_le_self _ _) (by omega)
    have ml := Nat.mod_lt l (show 0 < w by omega)
    refine hK _ _ _ _ (hK _ _ _ _ (hK _ _ _ _ (hK _ _ _ _ (hK _ _ _ _ (hK _ _ _ _ (⟨x_vp (a := 3) rfl (by decide) (by decide), ?_⟩))))))
    rw [x_cl (j := 3) (a := 3) rfl (by decide), hs.1]
    refine hK _ _ _ _ (⟨x_ne0 (by omega) (by omega), ?_⟩)
    rw [show Int32.ofNat l - Int32.ofNat l / Int32.ofNat w * Int32.ofNat w = Int32.ofNat (l % w) from x_rem (by omega) (by omega)]
    have fin : ∀ u : Int32, u = Int32.ofNat t → K 35 [some (vR 36 0), some (vI (Int32.ofNat l)), some (vI (Int32.ofNat t)), some (vI (Int32.ofNat (w * xrows h s))), none] [vI u, vI (Int32.ofNat (l % w)), vR 36 0] M := by
      intro u hu
      subst hu
      refine hK _ _ _ _ (hK _ _ _ _ (hK _ _ _ _ (hK _ _ _ _ (hK _ _ _ _ (hK _ _ _ _ (⟨x_vp (a := 3) rfl (by decide) (by decide), ?_⟩))))))
      rw [x_cl (j := 3) (a := 3) rfl (by decide), hs.1]
      refine hK _ _ _ _ (⟨x_ne0 (by omega) (by omega), ?_⟩)
      rw [x_div (show l < 2147483648 by omega) (show w < 2147483648 by omega)]
      refine hK _ _ _ _ (⟨_, r_cornerOf hs w1 w3 h1 h3 s2 hI_ad rfl (by omega) (by omega), rfl, fun v44 M44 g44 => ?_⟩)
      obtain ⟨rfl, rfl⟩ := g44
      exact hK _ _ _ _ ⟨by unfold ren; rw [if_pos q1], rfl⟩
    refine hK _ _ _ _ (hK _ _ _ _ (⟨fun q2 => ?_, fun q2 => ?_⟩))
    · refine hK _ _ _ _ (?_)
      exact fin _ q2.symm
    · refine hK _ _ _ _ (hK _ _ _ _ (?_))
      refine fin _ ?_
      have : ¬ t = 0 := fun z => q2 (by rw [z]; rfl)
      rw [show t = 1 by omega]
      rfl
/-- the least kin -/
def lkf (k o a : Nat) : Nat → Nat → Nat
  | 0, b => b
  | f + 1, b => bif isk k o a b o then b else lkf k o a f (b + 1)
def lk (k o a : Nat) : Nat := lkf k o a o 0
theorem isk_self {k o a : Nat} (hq : (k, o) ∈ gP) (ha : a < o) : isk k o a a o = true := gA_all (P := fun k o a => isk k o a a o) (by decide +kernel) hq ha
theorem r_leastOf {nS d k o a : Nat} {M : aM} (hg : gM M k o) (ha : a < o) : aC nS (d + 4) 183 [vR 36 0, vI (Int32.ofNat a)] M (fun v M' => v = some (vI (Int32.ofNat (lk k o a))) ∧ M = M') (fun _ _ => False) := by
  obtain ⟨o2, o8, k3⟩ := gP_o hg.1
  refine aC_mk rfl rfl ?_
  intro K hK _
  have lp : ∀ (f b : Nat), b + f = o → b ≤ a → K 2 [some (vR 36 0), some (vI (Int32.ofNat a)), some (vI (Int32.ofNat b))] [] M ∨ ¬ lk k o a = lkf k o a f b := by
    intro f
    induction f with
    | zero =>
      intro b hb hba
      omega
    | succ f ih =>
      intro b hb hba
      by_cases he : lk k o a = lkf k o a (f + 1) b
      · left
        refine hK _ _ _ _ (hK _ _ _ _ (hK _ _ _ _ (hK _ _ _ _ (⟨_, r_isKin hg ha (show b < o by omega), rfl, fun v5 M5 g5 => ?_⟩))))
        obtain ⟨rfl, rfl⟩ := g5
        have e1 : lkf k o a (f + 1) b = bif isk k o a b o then b else lkf k o a f (b + 1) := rfl
        cases hi : isk k o a b o with
        | true =>
          rw [hi, cond_true] at e1
          refine hK _ _ _ _ (⟨fun q => ?_, fun q => ?_⟩)
          · exact hK _ _ _ _ (hK _ _ _ _ (⟨by rw [he, e1], rfl⟩))
          · exact absurd q (by decide)
        | false =>
          rw [hi, cond_false] at e1
          have hne : ¬ b = a := fun z => by
            rw [z, isk_self hg.1 ha] at hi
            cases hi
          refine hK _ _ _ _ (⟨fun q => ?_, fun q => ?_⟩)
          · exact absurd rfl q
          · refine hK _ _ _ _ (hK _ _ _ _ (?_))
            rw [hI_s]
            rcases ih (b + 1) (by omega) (by omega) with h | h
            · exact h
            · exact absurd (he.trans e1) h
      · exact Or.inr he
  refine hK _ _ _ _ (hK _ _ _ _ (?_))
  rcases lp o 0 (Nat.zero_add o) (Nat.zero_le a) with h | h
  · exact h
  · exact absurd rfl h
/-- the reference's sizes -/
theorem rS_of {M : aM} (hT : z_MT (zTb, [], []) M) : ∃ w h s, rS M w h s ∧ 1 ≤ w ∧ w ≤ 3 ∧ 1 ≤ h ∧ h ≤ 3 ∧ s ≤ 2 := by
  have h3 := h_TR (T := zTb) (k := 37) (i := 0) (j := 3) hT
  have h4 := h_TR (T := zTb) (k := 37) (i := 0) (j := 4) hT
  have l3 : 2147483649 ≤ z_b (M.1 37 0 3) := h3.1
  have l4 : 2147483649 ≤ z_b (M.1 37 0 4) := h4.1
  obtain ⟨w, w3, ew⟩ := x_rng (m := 3) (by decide) (z_iI_ok (v := (2147483648, 3 + 2147483648)) (by decide) h3)
  obtain ⟨h, h3', eh⟩ := x_rng (m := 3) (by decide) (z_iI_ok (v := (2147483648, 3 + 2147483648)) (by decide) h4)
  obtain ⟨s, s2, es⟩ := x_rng (m := 2) (by decide) (h_TR (T := zTb) (k := 37) (i := 0) (j := 5) hT)
  rw [ew, z_b_ofNat (by omega)] at l3
  rw [eh, z_b_ofNat (by omega)] at l4
  exact ⟨w, h, s, ⟨ew, eh, es⟩, by omega, w3, by omega, h3', s2⟩
theorem z_po1 {T : zT} {W : zW} {M : aM} {o : Option zV} {os : List zE} {v : Option aV} (hT : z_MT (T, [], []) M) (hm : Sum.inl (o, []) ∈ os) (hv : z_ov o v) : z_po (T, W, []) M os v M := ⟨o, [], hm, hv, h_M0 hT⟩
theorem h_S4 {k i : Nat} {u w t : zI} {as : List aV} (hk : k ≠ 97) (h : z_S [.inr (.inr (k, i)), .inl u, .inl w, .inl t] as) : ∃ x y z, as = [vR k i, vI x, vI y, vI z] ∧ z_i u x ∧ z_i w y ∧ z_i t z := by
  obtain ⟨i', s, rfl, h1, h2⟩ := z_S_R h
  have h1 := h1.resolve_left hk
  subst h1
  obtain ⟨x, s, rfl, hx, h3⟩ := z_S_I h2
  obtain ⟨y, s, rfl, hy, h4⟩ := z_S_I h3
  obtain ⟨z, s, rfl, hz, h5⟩ := z_S_I h4
  have := z_S_N h5
  subst this
  exact ⟨x, y, z, rfl, hx, hy, hz⟩
theorem z_0b {x : Int32} (h : z_i (2147483648, 2147483649) x) : ∃ n : Nat, n ≤ 1 ∧ x = Int32.ofNat n := x_rng (m := 1) (by decide) h
theorem hz_lineOf : z_ctH zTb (194, [.inr (.inr (36, 0)), .inl (0, 4294967295), .inl (0, 4294967295), .inl (2147483648, 2147483649)], [], [], [.inl (some (.inl (2147483647, 2147483647)), []), .inl (some (.inl (2147483648, 2147483671)), [])], 3) := by
  intro nS d as M hd hS hT hg
  obtain ⟨x, y, z, rfl, -, -, hz⟩ := h_S4 (by decide) hS
  obtain ⟨n, hn, rfl⟩ := z_0b hz
  obtain ⟨w, h, s, hs, w1, w3, h1, h3, s2⟩ := rS_of hT
  obtain ⟨e, rfl⟩ := h_rk (r := 3) hd
  refine aC_post (r_lineOf hs w1 w3 h1 h3 s2 hn rfl) (fun v M' q => ?_) (fun _ _ q => q.elim)
  obtain ⟨q, rfl⟩ := q
  have no : v = some (vI (-1)) → z_po (zTb, [], []) M [.inl (some (.inl (2147483647, 2147483647)), []), .inl (some (.inl (2147483648, 2147483671)), [])] v M := fun ev => z_po1 hT List.mem_cons_self (by rw [ev]; exact ⟨Nat.le_of_eq z_b_m1.symm, Nat.le_of_eq z_b_m1⟩)
  rcases q with ⟨a, b, ha, hb, -, -, ⟨hl, ev⟩ | ⟨-, ev⟩⟩ | ⟨-, ev⟩
  · have l24 := rln_lt (s := s) w1 w3 h1 h3 s2 hn ha hb hl
    refine z_po1 hT (List.mem_cons_of_mem _ List.mem_cons_self) ?_
    rw [ev]
    exact x_rng' (m := 23) (by decide) (show rln w h s a b n ≤ 23 by omega) rfl
  · exact no ev
  · exact no ev
theorem hz_endOf : z_ctH zTb (197, [.inr (.inr (36, 0)), .inl (2147483648, 2147483671), .inl (2147483648, 2147483649)], [], [], [.inl (some (.inl (2147483648, 2147483663)), [])], 3) := by
  intro nS d as M hd hS hT hg
  obtain ⟨x, z, rfl, hx, hz⟩ := h_S3 (by decide) hS
  obtain ⟨n, hn, rfl⟩ := z_0b hz
  obtain ⟨l, hl, rfl⟩ := x_rng (m := 23) (by decide) hx
  obtain ⟨w, h, s, hs, w1, w3, h1, h3, s2⟩ := rS_of hT
  obtain ⟨e, rfl⟩ := h_rk (r := 3) hd
  refine aC_post (r_endOf hs w1 w3 h1 h3 s2 rfl (by omega) rfl hn) (fun v M' q => ?_) (fun _ _ q => q.elim)
  obtain ⟨rfl, rfl⟩ := q
  refine z_po1 hT List.mem_cons_self (x_rng' (m := 15) (by decide) ?_ rfl)
  unfold ren
  by_cases hq : l < w * xrows h s
  · rw [if_pos hq]
    exact rco_lt w1 w3 h1 h3
  · rw [if_neg hq]
    exact rco_lt w1 w3 h1 h3
theorem gM_of {M : aM} {k o : Nat} (hq : (k, o) ∈ gP) {g : zG} (hg : z_MG ((606209, (k + 2147483648, k + 2147483648)) :: (606210, (o + 2147483648, o + 2147483648)) :: g) M) : gM M k o := by
  obtain ⟨o2, o8, k3⟩ := gP_o hq
  have h1 := hg _ List.mem_cons_self 37 0 1 (by decide) (by decide) rfl
  have h2 := hg _ (List.mem_cons_of_mem _ List.mem_cons_self) 37 0 2 (by decide) (by decide) rfl
  exact ⟨hq, z_b_inj ((Nat.le_antisymm h1.2 h1.1).trans (z_b_ofNat (by omega)).symm), z_b_inj ((Nat.le_antisymm h2.2 h2.1).trans (z_b_ofNat (by omega)).symm)⟩
theorem lk_lt {k o a : Nat} (hq : (k, o) ∈ gP) (ha : a < o) : lk k o a < 8 := Nat.le_of_ble_eq_true (gA_all (P := fun k o a => Nat.ble (lk k o a + 1) 8) (by decide +kernel) hq ha)
theorem hz_leastOf {k o a L : Nat} (hq : (k, o) ∈ gP) (ha : a < o) (hL : lk k o a = L) : z_ctH zTb (183, [.inr (.inr (36, 0)), .inl (a + 2147483648, a + 2147483648)], [(606209, (k + 2147483648, k + 2147483648)), (606210, (o + 2147483648, o + 2147483648))], [], [.inl (some (.inl (L + 2147483648, L + 2147483648)), [])], 4) := by
  intro nS d as M hd hS hT hg
  obtain ⟨o2, o8, k3⟩ := gP_o hq
  obtain ⟨x, rfl, hx⟩ := h_S2 (by decide) hS
  have ex : x = Int32.ofNat a := z_b_inj ((Nat.le_antisymm hx.2 hx.1).trans (z_b_ofNat (by omega)).symm)
  subst ex
  obtain ⟨e, rfl⟩ := h_rk (r := 4) hd
  refine aC_post (r_leastOf (gM_of hq hg) ha) (fun v M' q => ?_) (fun _ _ q => q.elim)
  obtain ⟨rfl, rfl⟩ := q
  refine z_po1 hT List.mem_cons_self ?_
  have l8 : lk k o a < 1000 := Nat.lt_of_lt_of_le (lk_lt hq ha) (by decide)
  rw [hL] at l8 ⊢
  exact ⟨Nat.le_of_eq (z_b_ofNat (by omega)).symm, Nat.le_of_eq (z_b_ofNat (by omega))⟩
theorem ag_8 {k o a : Nat} (hq : (k, o) ∈ gP) (ha : a < o) : ag k o a < 1000 := Nat.lt_of_lt_of_le (ag_lt hq ha) (Nat.le_trans (gP_o hq).2.1 (by decide))
theorem hz_against {k o a L : Nat} (hq : (k, o) ∈ gP) (ha : a < o) (hL : ag k o a = L) : z_ctH zTb (181, [.inr (.inr (36, 0)), .inl (a + 2147483648, a + 2147483648)], [(606209, (k + 2147483648, k + 2147483648)), (606210, (o + 2147483648, o + 2147483648))], [], [.inl (some (.inl (L + 2147483648, L + 2147483648)), [])], 2) := by
  intro nS d as M hd hS hT hg
  obtain ⟨o2, o8, k3⟩ := gP_o hq
  obtain ⟨x, rfl, hx⟩ := h_S2 (by decide) hS
  have ex : x = Int32.ofNat a := z_b_inj ((Nat.le_antisymm hx.2 hx.1).trans (z_b_ofNat (by omega)).symm)
  subst ex
  obtain ⟨e, rfl⟩ := h_rk (r := 2) hd
  refine aC_post (g_against (gM_of hq hg) ha) (fun v M' q => ?_) (fun _ _ q => q.elim)
  obtain ⟨rfl, rfl⟩ := q
  refine z_po1 hT List.mem_cons_self ?_
  have l8 := ag_8 hq ha
  rw [hL] at l8 ⊢
  exact ⟨Nat.le_of_eq (z_b_ofNat (by omega)).symm, Nat.le_of_eq (z_b_ofNat (by omega))⟩
