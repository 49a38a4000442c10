theorem xrows_n {h s : Nat} (hs : s < 2) : xrows h s = h + 1 := by
  unfold xrows
  cases hb : Nat.ble 2 s with
  | true =>
    have := Nat.le_of_ble_eq_true hb
    omega
  | false => rfl
def rS (M : aM) (w h s : Nat) : Prop := M.1 37 0 3 = Int32.ofNat w ∧ M.1 37 0 4 = Int32.ofNat h ∧ M.1 37 0 5 = Int32.ofNat s
theorem r_columns {nS d w h s : Nat} {M : aM} (hs : rS M w h s) (w3 : w ≤ 3) (s2 : s ≤ 2) : aC nS (d + 1) 189 [vR 36 0] M (fun v M' => v = some (vI (Int32.ofNat (xcols w s))) ∧ M = M') (fun _ _ => False) := by
  refine aC_mk rfl rfl ?_
  intro K hK _
  refine hK _ _ _ _ (hK _ _ _ _ (hK _ _ _ _ (hK _ _ _ _ ⟨x_vp (a := 3) rfl (by decide) (by decide), ?_⟩)))
  rw [x_cl (j := 3) (a := 3) rfl (by decide), hs.1]
  refine hK _ _ _ _ (hK _ _ _ _ (hK _ _ _ _ (hK _ _ _ _ ⟨x_vp (a := 5) rfl (by decide) (by decide), ?_⟩)))
  rw [x_cl (j := 5) (a := 5) rfl (by decide), hs.2.2]
  refine hK _ _ _ _ ⟨fun q => ?_, fun q => ?_⟩
  · have z : ¬ s = 0 := fun z => q (by rw [z]; rfl)
    exact hK _ _ _ _ (hK _ _ _ _ (hK _ _ _ _ ⟨by rw [show (0 : Int32) = Int32.ofNat 0 from rfl, hI_ad]; unfold xcols; rw [Nat.ble_eq_true_of_le (show 1 ≤ s by omega)]; rfl, rfl⟩))
  · have z : s = 0 := x_eq (x := s) (y := 0) rfl rfl (by omega) (by decide) q
    exact hK _ _ _ _ (hK _ _ _ _ (hK _ _ _ _ (hK _ _ _ _ ⟨by rw [hI_s, z]; rfl, rfl⟩)))
theorem r_rowsOf {nS d w h s : Nat} {M : aM} (hs : rS M w h s) (h3 : h ≤ 3) (s2 : s ≤ 2) : aC nS (d + 1) 190 [vR 36 0] M (fun v M' => v = some (vI (Int32.ofNat (xrows h s))) ∧ M = M') (fun _ _ => False) := by
  refine aC_mk rfl rfl ?_
  intro K hK _
  refine hK _ _ _ _ (hK _ _ _ _ (hK _ _ _ _ (hK _ _ _ _ ⟨x_vp (a := 4) rfl (by decide) (by decide), ?_⟩)))
  rw [x_cl (j := 4) (a := 4) rfl (by decide), hs.2.1]
  refine hK _ _ _ _ (hK _ _ _ _ (hK _ _ _ _ (hK _ _ _ _ ⟨x_vp (a := 5) rfl (by decide) (by decide), ?_⟩)))
  rw [x_cl (j := 5) (a := 5) rfl (by decide), hs.2.2]
  refine hK _ _ _ _ (hK _ _ _ _ ⟨fun q => ?_, fun q => ?_⟩)
  · have z : ¬ s = 2 := fun z => q (by rw [z]; rfl)
    exact hK _ _ _ _ (hK _ _ _ _ (hK _ _ _ _ ⟨by rw [hI_s, xrows_n (by omega)], rfl⟩))
  · have z : s = 2 := x_eq (x := s) (y := 2) rfl rfl (by omega) (by decide) q
    exact hK _ _ _ _ (hK _ _ _ _ (hK _ _ _ _ (hK _ _ _ _ ⟨by rw [show (0 : Int32) = Int32.ofNat 0 from rfl, hI_ad, z]; rfl, rfl⟩)))
theorem x_01 {a : Int32} (h : a = 1) (h0 : a = 0) : False := by
  rw [h] at h0
  exact absurd h0 (by decide)
theorem x_if {p : Prop} [Decidable p] (h : ¬ (if p then (1 : Int32) else 0) = 0) : p := by
  by_cases z : p
  · exact z
  · rw [if_neg z] at h
    exact absurd rfl h
theorem x_ifn {p : Prop} [Decidable p] (h : (if p then (1 : Int32) else 0) = 0) : ¬ p := by
  intro z
  rw [if_pos z] at h
  exact absurd h (by decide)
theorem r_isCorner {nS d w h s : Nat} {M : aM} {x y : Int32} (hs : rS M w h s) : aC nS (d + 2) 191 [vR 36 0, vI x, vI y] M (fun v M' => ((xP x y w h ∧ v = some (vI 1)) ∨ (¬ xP x y w h ∧ v = some (vI 0))) ∧ M = M') (fun _ _ => False) := by
  refine aC_mk rfl rfl ?_
  intro K hK _
  refine hK _ _ _ _ (hK _ _ _ _ (hK _ _ _ _ (hK _ _ _ _ (hK _ _ _ _ (hK _ _ _ _ ⟨x_vp (a := 3) rfl (by decide) (by decide), ?_⟩)))))
  rw [x_cl (j := 3) (a := 3) rfl (by decide), hs.1]
  refine hK _ _ _ _ ⟨_, t_isIn, rfl, fun v8 M8 g8 => ?_⟩
  obtain ⟨rfl, rfl⟩ := g8
  refine hK _ _ _ _ ⟨fun q => ?_, fun q => ?_⟩
  · exact hK _ _ _ _ (hK _ _ _ _ ⟨Or.inl rfl, Or.inr ⟨fun z => x_01 (if_pos ⟨z.1, z.2.1⟩) q, rfl⟩, rfl⟩)
  · have c1 := x_if q
    refine hK _ _ _ _ (hK _ _ _ _ (hK _ _ _ _ (hK _ _ _ _ (hK _ _ _ _ (hK _ _ _ _ ⟨x_vp (a := 4) rfl (by decide) (by decide), ?_⟩)))))
    rw [x_cl (j := 4) (a := 4) rfl (by decide), hs.2.1]
    refine hK _ _ _ _ ⟨_, t_isIn, rfl, fun v22 M22 g22 => ?_⟩
    obtain ⟨rfl, rfl⟩ := g22
    refine hK _ _ _ _ ⟨fun q2 => ?_, fun q2 => ?_⟩
    · exact hK _ _ _ _ (hK _ _ _ _ ⟨Or.inl rfl, Or.inr ⟨fun z => x_01 (if_pos ⟨z.2.2.1, z.2.2.2⟩) q2, rfl⟩, rfl⟩)
    · have c2 := x_if q2
      exact hK _ _ _ _ (hK _ _ _ _ (hK _ _ _ _ ⟨Or.inr rfl, Or.inl ⟨⟨c1.1, c1.2, c2.1, c2.2⟩, rfl⟩, rfl⟩))
theorem r_isSquare {nS d w h s : Nat} {M : aM} {x y : Int32} (hs : rS M w h s) (w1 : 1 ≤ w) (w3 : w ≤ 3) (h1 : 1 ≤ h) (h3 : h ≤ 3) : aC nS (d + 2) 192 [vR 36 0, vI x, vI y] M (fun v M' => (((∃ a b : Nat, a < w ∧ b < h ∧ x = Int32.ofNat a ∧ y = Int32.ofNat b) ∧ v = some (vI 1)) ∨ ((¬ ∃ a b : Nat, a < w ∧ b < h ∧ x = Int32.ofNat a ∧ y = Int32.ofNat b) ∧ v = some (vI 0))) ∧ M = M') (fun _ _ => False) := by
  have ew : Int32.ofNat w - 1 = Int32.ofNat (w - 1) := x_sub (y := 1) w1 (by omega)
  have eh : Int32.ofNat h - 1 = Int32.ofNat (h - 1) := x_sub (y := 1) h1 (by omega)
  have key : (∃ a b : Nat, a < w ∧ b < h ∧ x = Int32.ofNat a ∧ y = Int32.ofNat b) ↔ xP x y (w - 1) (h - 1) := by
    constructor
    · rintro ⟨a, b, ha, hb, rfl, rfl⟩
      exact ⟨(hI_le (a := 0) (by decide) (by omega)).mpr (Nat.zero_le _), (hI_le (by omega) (by omega)).mpr (by omega), (hI_le (a := 0) (by decide) (by omega)).mpr (Nat.zero_le _), (hI_le (by omega) (by omega)).mpr (by omega)⟩
    · intro z
      obtain ⟨a, b, ha, hb, ea, eb⟩ := xP_n (by omega) (by omega) z
      exact ⟨a, b, by omega, by omega, ea, eb⟩
  rw [key]
  refine aC_mk rfl rfl ?_
  intro K hK _
  refine hK _ _ _ _ (hK _ _ _ _ (hK _ _ _ _ (hK _ _ _ _ (hK _ _ _ _ (hK _ _ _ _ ⟨x_vp (a := 3) rfl (by decide) (by decide), ?_⟩)))))
  rw [x_cl (j := 3) (a := 3) rfl (by decide), hs.1]
  refine hK _ _ _ _ (hK _ _ _ _ (hK _ _ _ _ ⟨_, t_isIn, rfl, fun v10 M10 g10 => ?_⟩))
  obtain ⟨rfl, rfl⟩ := g10
  rw [ew]
  refine hK _ _ _ _ ⟨fun q => ?_, fun q => ?_⟩
  · exact hK _ _ _ _ (hK _ _ _ _ ⟨Or.inl rfl, Or.inr ⟨fun z => x_ifn q ⟨z.1, z.2.1⟩, rfl⟩, rfl⟩)
  · have c1 := x_if q
    refine hK _ _ _ _ (hK _ _ _ _ (hK _ _ _ _ (hK _ _ _ _ (hK _ _ _ _ (hK _ _ _ _ ⟨x_vp (a := 4) rfl (by decide) (by decide), ?_⟩)))))
    rw [x_cl (j := 4) (a := 4) rfl (by decide), hs.2.1]
    refine hK _ _ _ _ (hK _ _ _ _ (hK _ _ _ _ ⟨_, t_isIn, rfl, fun v26 M26 g26 => ?_⟩))
    obtain ⟨rfl, rfl⟩ := g26
    rw [eh]
    refine hK _ _ _ _ ⟨fun q2 => ?_, fun q2 => ?_⟩
    · exact hK _ _ _ _ (hK _ _ _ _ ⟨Or.inl rfl, Or.inr ⟨fun z => x_ifn q2 ⟨z.2.2.1, z.2.2.2⟩, rfl⟩, rfl⟩)
    · have c2 := x_if q2
      exact hK _ _ _ _ (hK _ _ _ _ (hK _ _ _ _ ⟨Or.inr rfl, Or.inl ⟨⟨c1.1, c1.2, c2.1, c2.2⟩, rfl⟩, rfl⟩))
def rln (w h s x y n : Nat) : Nat := bif Nat.beq n 0 then xcy h s y * w + xcx w s x else w * xrows h s + xcy h s y * xcols w s + xcx w s x
theorem xcx_m {w s x : Nat} (w1 : 1 ≤ w) (w3 : w ≤ 3) (hx : x ≤ w) : x % xcols w s = xcx w s x := by
  have := xcols_b (s := s) w1 w3
  unfold xcx
  by_cases he : x = xcols w s
  · rw [he, Nat.beq_refl, Nat.mod_self]
    rfl
  · rw [x_nbeq he]
    exact Nat.mod_eq_of_lt (by omega)
theorem xcy_m {h s y : Nat} (h1 : 1 ≤ h) (h3 : h ≤ 3) (hy : y ≤ h) : y % xrows h s = xcy h s y := by
  have := xrows_b (s := s) h1 h3
  unfold xcy
  by_cases he : y = xrows h s
  · rw [he, Nat.beq_refl, Nat.mod_self]
    rfl
  · rw [x_nbeq he]
    exact Nat.mod_eq_of_lt (by omega)
theorem xlv_x {w h s a b n : Nat} (ha : a ≤ w) (hb : b ≤ h) : xlv w h s a b n = (bif Nat.beq n 0 then Nat.blt (xcx w s a) w else Nat.blt (xcy h s b) h) := by
  unfold xlv
  rw [Nat.ble_eq_true_of_le ha, Nat.ble_eq_true_of_le hb]
  rfl
theorem r_lineOf {nS d w h s n : Nat} {M : aM} {x y z : Int32} (hs : rS M w h s) (w1 : 1 ≤ w) (w3 : w ≤ 3) (h1 : 1 ≤ h) (h3 : h ≤ 3) (s2 : s ≤ 2) (hn : n ≤ 1) (hz : z = Int32.ofNat n) : aC nS (d + 3) 194 [vR 36 0, vI x, vI y, vI z] M (fun v M' => ((∃ a b : Nat, a ≤ w ∧ b ≤ h ∧ x = Int32.ofNat a ∧ y = Int32.ofNat b ∧ ((xlv w h s a b n = true ∧ v = some (vI (Int32.ofNat (rln w h s a b n)))) ∨ (xlv w h s a b n = false ∧ v = some (vI (-1))))) ∨ (¬ xP x y w h ∧ v = some (vI (-1)))) ∧ M = M') (fun _ _ => False) := by
  have c9 := xcols_b (s := s) w1 w3
  have r9 := xrows_b (s := s) h1 h3
  refine aC_mk rfl rfl ?_
  intro K hK _
  refine hK _ _ _ _ (hK _ _ _ _ (hK _ _ _ _ (hK _ _ _ _ ⟨_, r_isCorner hs, rfl, fun v3 M3 g3 => ?_⟩)))
  obtain ⟨hv, rfl⟩ := g3
  rcases hv with ⟨hp, rfl⟩ | ⟨hp, rfl⟩
  · obtain ⟨a, b, ha, hb, rfl, rfl⟩ := xP_n (by omega) (by omega) hp
    have k1 := xcx_b (s := s) w1 w3 ha
    have k2 := xcy_b (s := s) h1 h3 hb
    refine hK _ _ _ _ ⟨fun _ => ?_, fun q => absurd q (by decide)⟩
    refine hK _ _ _ _ (hK _ _ _ _ (hK _ _ _ _ ⟨_, r_columns hs w3 s2, rfl, fun v13 M13 g13 => ?_⟩))
    obtain ⟨rfl, rfl⟩ := g13
    refine hK _ _ _ _ ⟨fun z => absurd (x_eq (y := 0) rfl rfl (by omega) (by decide) z) (by omega), ?_⟩
    rw [x_rem (by omega) (by omega), xcx_m w1 w3 ha]
    refine hK _ _ _ _ (hK _ _ _ _ (hK _ _ _ _ (hK _ _ _ _ ⟨_, r_rowsOf hs h3 s2, rfl, fun v21 M21 g21 => ?_⟩)))
    obtain ⟨rfl, rfl⟩ := g21
    refine hK _ _ _ _ ⟨fun z => absurd (x_eq (y := 0) rfl rfl (by omega) (by decide) z) (by omega), ?_⟩
    rw [x_rem (by omega) (by omega), xcy_m h1 h3 hb]
    refine hK _ _ _ _ (hK _ _ _ _ (hK _ _ _ _ ⟨fun q => ?_, fun q => ?_⟩))
    · have n0 : n = 0 := x_eq hz (y := 0) rfl (by omega) (by decide) q
      subst n0
      refine hK _ _ _ _ (hK _ _ _ _ (hK _ _ _ _ (hK _ _ _ _ (hK _ _ _ _ ⟨x_vp (a := 3) rfl (by decide) (by decide), ?_⟩))))
      rw [x_cl (j := 3) (a := 3) rfl (by decide), hs.1]
      refine hK _ _ _ _ ⟨fun u => ?_, fun u => ?_⟩
      · exact hK _ _ _ _ (hK _ _ _ _ ⟨Or.inl ⟨a, b, ha, hb, rfl, rfl, Or.inr ⟨by rw [xlv_x ha hb]; exact x_nblt (Nat.not_lt.mpr (x_ge (x := xcx w s a) rfl rfl (by omega) (by omega) u)), rfl⟩⟩, rfl⟩)
      · have u1 := x_nge (x := xcx w s a) rfl rfl (by omega) (by omega) u
        refine hK _ _ _ _ (hK _ _ _ _ (hK _ _ _ _ (hK _ _ _ _ (hK _ _ _ _ ⟨x_vp (a := 3) rfl (by decide) (by decide), ?_⟩))))
        rw [x_cl (j := 3) (a := 3) rfl (by decide), hs.1]
        exact hK _ _ _ _ (hK _ _ _ _ (hK _ _ _ _ (hK _ _ _ _ (hK _ _ _ _ ⟨Or.inl ⟨a, b, ha, hb, rfl, rfl, Or.inl ⟨by rw [xlv_x ha hb]; exact x_blt u1, by rw [← Int32.ofNat_mul, hI_ad]; rfl⟩⟩, rfl⟩))))
    · have n1 : n = 1 := by
        have : ¬ n = 0 := fun z => q (by rw [hz, z]; rfl)
        omega
      subst n1
      refine hK _ _ _ _ (hK _ _ _ _ (hK _ _ _ _ (hK _ _ _ _ (hK _ _ _ _ ⟨x_vp (a := 4) rfl (by decide) (by decide), ?_⟩))))
      rw [x_cl (j := 4) (a := 4) rfl (by decide), hs.2.1]
      refine hK _ _ _ _ ⟨fun u => ?_, fun u => ?_⟩
      · exact hK _ _ _ _ (hK _ _ _ _ ⟨Or.inl ⟨a, b, ha, hb, rfl, rfl, Or.inr ⟨by rw [xlv_x ha hb]; exact x_nblt (Nat.not_lt.mpr (x_ge (x := xcy h s b) rfl rfl (by omega) (by omega) u)), rfl⟩⟩, rfl⟩)
      · have u1 := x_nge (x := xcy h s b) rfl rfl (by omega) (by omega) u
        refine hK _ _ _ _ (hK _ _ _ _ (hK _ _ _ _ (hK _ _ _ _ ⟨x_vp (a := 3) rfl (by decide) (by decide), ?_⟩)))
        rw [x_cl (j := 3) (a := 3) rfl (by decide), hs.1]
        refine hK _ _ _ _ (hK _ _ _ _ ⟨_, r_rowsOf hs h3 s2, rfl, fun v49 M49 g49 => ?_⟩)
        obtain ⟨rfl, rfl⟩ := g49
        refine hK _ _ _ _ (hK _ _ _ _ (hK _ _ _ _ (hK _ _ _ _ ⟨_, r_columns hs w3 s2, rfl, fun v56 M56 g56 => ?_⟩)))
        obtain ⟨rfl, rfl⟩ := g56
        exact hK _ _ _ _ (hK _ _ _ _ (hK _ _ _ _ (hK _ _ _ _ (hK _ _ _ _ (hK _ _ _ _ ⟨Or.inl ⟨a, b, ha, hb, rfl, rfl, Or.inl ⟨by rw [xlv_x ha hb]; exact x_blt u1, by rw [← Int32.ofNat_mul, ← Int32.ofNat_mul, hI_ad, hI_ad]; rfl⟩⟩, rfl⟩)))))
  · refine hK _ _ _ _ ⟨fun q => absurd rfl q, fun _ => ?_⟩
    exact hK _ _ _ _ (hK _ _ _ _ ⟨Or.inr ⟨hp, rfl⟩, rfl⟩)
theorem rln_lt {w h s a b n : Nat} (w1 : 1 ≤ w) (w3 : w ≤ 3) (h1 : 1 ≤ h) (h3 : h ≤ 3) (s2 : s ≤ 2) (hn : n ≤ 1) (ha : a ≤ w) (hb : b ≤ h) (hv : xlv w h s a b n = true) : rln w h s a b n < 24 := by
  have key : ((List.range 4).all (fun w => (List.range 4).all (fun h => (List.range 3).all (fun s => (List.range 4).all (fun a => (List.range 4).all (fun b => (List.range 2).all (fun n => !(Nat.ble 1 w && Nat.ble 1 h && xlv w h s a b n) || Nat.blt (rln w h s a b n) 24))))))) = true := by decide +kernel
  have k1 := List.all_eq_true.mp key w (List.mem_range.mpr (by omega))
  have k2 := List.all_eq_true.mp k1 h (List.mem_range.mpr (by omega))
  have k3 := List.all_eq_true.mp k2 s (List.mem_range.mpr (by omega))
  have k4 := List.all_eq_true.mp k3 a (List.mem_range.mpr (by omega))
  have k5 := List.all_eq_true.mp k4 b (List.mem_range.mpr (by omega))
  have k6 := List.all_eq_true.mp k5 n (List.mem_range.mpr (by omega))
  rw [Nat.ble_eq_true_of_le w1, Nat.ble_eq_true_of_le h1, hv] at k6
  exact Nat.le_of_ble_eq_true k6
/-- kins of the reference -/
def isk (k o a b : Nat) : Nat → Bool
  | 0 => false
  | c + 1 => isk k o a b c || Nat.beq (rt k o (rt k o c a) (ag k o c)) b
theorem isk_kn {k o a b : Nat} (hq : (k, o) ∈ gP) (ha : a < o) (hb : b < o) : isk k o a b o = Nat.beq (kn k o b) (kn k o a) := by
  have h : (isk k o a b o == Nat.beq (kn k o b) (kn k o a)) = true := gT_all (P := fun k o a b => isk k o a b o == Nat.beq (kn k o b) (kn k o a)) (by decide +kernel) hq ha hb
  exact eq_of_beq h
theorem isk_1 {k o a b c : Nat} : ∀ n, c < n → Nat.beq (rt k o (rt k o c a) (ag k o c)) b = true → isk k o a b n = true
  | 0, h, _ => absurd h (Nat.not_lt_zero _)
  | n + 1, h, h2 => by
    show (isk k o a b n || Nat.beq (rt k o (rt k o n a) (ag k o n)) b) = true
    by_cases he : c = n
    · rw [he] at h2
      rw [h2, Bool.or_true]
    · rw [isk_1 n (by omega) h2, Bool.true_or]
theorem x_if0 {b : Bool} (h : b = false) : (some (vI (0 : Int32)) : Option aV) = some (vI (if b = true then 1 else 0)) := by rw [h]; rfl
theorem r_isKin {nS d k o a b : Nat} {M : aM} (hg : gM M k o) (ha : a < o) (hb : b < o) : aC nS (d + 3) 182 [vR 36 0, vI (Int32.ofNat a), vI (Int32.ofNat b)] M (fun v M' => v = some (vI (if isk k o a b o = true then 1 else 0)) ∧ M = M') (fun _ _ => False) := by
  obtain ⟨o2, o8, k3⟩ := gP_o hg.1
  refine aC_mk rfl rfl ?_
  intro K hK _
  have lp : ∀ (m c : Nat), o - c = m → c ≤ o → isk k o a b c = false → K 2 [some (vR 36 0), some (vI (Int32.ofNat a)), some (vI (Int32.ofNat b)), some (vI (Int32.ofNat c))] [] M := by
    intro m
    induction m with
    | zero =>
      intro c hm hc hi
      refine hK _ _ _ _ (hK _ _ _ _ (hK _ _ _ _ (hK _ _ _ _ (hK _ _ _ _ ⟨x_vp (a := 2) rfl (by decide) (by decide), ?_⟩))))
      rw [x_cl (j := 2) (a := 2) rfl (by decide), hg.2.2]
      refine hK _ _ _ _ ⟨fun h => ?_, fun h => ?_⟩
      · exact hK _ _ _ _ (hK _ _ _ _ ⟨Or.inl rfl, x_if0 (by rw [show c = o by omega] at hi; exact hi), rfl⟩)
      · exact absurd (x_nge (x := c) (y := o) rfl rfl (by omega) (by omega) h) (by omega)
    | succ m ih =>
      intro c hm hc hi
      have hco : c < o := by omega
      have r1 := rt_lt hg.1 hco ha
      have r2 := ag_lt hg.1 hco
      have r3 := rt_lt hg.1 r1 r2
      refine hK _ _ _ _ (hK _ _ _ _ (hK _ _ _ _ (hK _ _ _ _ (hK _ _ _ _ ⟨x_vp (a := 2) rfl (by decide) (by decide), ?_⟩))))
      rw [x_cl (j := 2) (a := 2) rfl (by decide), hg.2.2]
      refine hK _ _ _ _ ⟨fun h => ?_, fun h => ?_⟩
      · exact absurd (x_ge (x := c) (y := o) rfl rfl (by omega) (by omega) h) (by omega)
      · refine hK _ _ _ _ (hK _ _ _ _ (hK _ _ _ _ (hK _ _ _ _ (hK _ _ _ _ ⟨_, g_times hg hco ha, rfl, fun v16 M16 g16 => ?_⟩))))
        obtain ⟨rfl, rfl⟩ := g16
        refine hK _ _ _ _ (hK _ _ _ _ (hK _ _ _ _ ⟨_, g_against hg hco, rfl, fun v21 M21 g21 => ?_⟩))
        obtain ⟨rfl, rfl⟩ := g21
        refine hK _ _ _ _ ⟨_, g_times hg r1 r2, rfl, fun v24 M24 g24 => ?_⟩
        obtain ⟨rfl, rfl⟩ := g24
        refine hK _ _ _ _ (hK _ _ _ _ ⟨fun q => ?_, fun q => ?_⟩)
        · refine hK _ _ _ _ (hK _ _ _ _ ?_)
          rw [hI_s]
          refine ih (c + 1) (by omega) (by omega) ?_
          show (isk k o a b c || Nat.beq (rt k o (rt k o c a) (ag k o c)) b) = false
          rw [hi, x_nbq (fun z => q (by rw [z]))]
          rfl
        · exact hK _ _ _ _ (hK _ _ _ _ ⟨Or.inr rfl, by rw [if_pos (isk_1 o hco (by rw [x_eq rfl rfl (by omega) (by omega) q, Nat.beq_refl]))], rfl⟩)
  refine hK _ _ _ _ (hK _ _ _ _ ?_)
  exact lp _ 0 rfl (Nat.zero_le _) rfl
def PL : xF := fun k i j => (Nat.beq k 36 && (Nat.beq j 8 || (Nat.beq j 9 || Nat.beq j 10))) || (Nat.beq k 37 && (Nat.ble 20 j && Nat.ble j 43))
theorem r_rests0 {nS d : Nat} {M : aM} : aC nS (d + 1) 207 [vR 36 0] M (fun v M' => v = none ∧ fr (fun k _ j => Nat.beq k 37 && (Nat.ble 20 j && Nat.ble j 43)) M M' ∧ ∀ u, u < 24 → M'.1 37 0 (20 + u) = 0) (fun _ _ => False) := by
  refine aC_mk rfl rfl ?_
  intro K hK _
  have lp : ∀ (m u : Nat) (M1 : aM), 24 - u = m → u ≤ 24 → fr (fun k _ j => Nat.beq k 37 && (Nat.ble 20 j && Nat.ble j 43)) M M1 → (∀ j, j < u → M1.1 37 0 (20 + j) = 0) → K 2 [some (vR 36 0), some (vI (Int32.ofNat u))] [] M1 := by
    intro m
    induction m with
    | zero =>
      intro u M1 hm hu hf hj
      refine hK _ _ _ _ (hK _ _ _ _ (hK _ _ _ _ ⟨fun h => ?_, fun h => ?_⟩))
      · exact hK _ _ _ _ ⟨rfl, hf, fun j h2 => hj j (by omega)⟩
      · exact absurd (x_nge (x := u) (y := 24) rfl rfl (by omega) (by decide) h) (by omega)
    | succ m ih =>
      intro u M1 hm hu hf hj
      have ei : (20 : Int32) + Int32.ofNat u = Int32.ofNat (20 + u) := hI_ad (a := 20)
      refine hK _ _ _ _ (hK _ _ _ _ (hK _ _ _ _ ⟨fun h => ?_, fun h => ?_⟩))
      · exact absurd (x_ge (x := u) (y := 24) rfl rfl (by omega) (by decide) h) (by omega)
      · refine hK _ _ _ _ (hK _ _ _ _ (hK _ _ _ _ (hK _ _ _ _ (hK _ _ _ _ (hK _ _ _ _ (hK _ _ _ _ ⟨x_vp ei (show 20 + u < 1010 by omega) (by decide), ?_⟩))))))
        rw [x_cl ei (by omega)]
        refine hK _ _ _ _ (hK _ _ _ _ ?_)
        rw [hI_s]
        refine ih (u + 1) _ (by omega) (by omega) (fr_p hf ?_) (fun j h2 => ?_)
        · show (Nat.beq 37 37 && (Nat.ble 20 (20 + u) && Nat.ble (20 + u) 43)) = true
          rw [Nat.ble_eq_true_of_le (show 20 ≤ 20 + u by omega), Nat.ble_eq_true_of_le (show 20 + u ≤ 43 by omega)]
          rfl
        · by_cases he : j = u
          · rw [he]
            exact x_pe
          · rw [x_pn (fun z => he (by have := z.2.2; omega))]
            exact hj j (by omega)
  refine hK _ _ _ _ (hK _ _ _ _ ?_)
  exact lp _ 0 M rfl (Nat.zero_le _) fr_r (fun j hj => absurd hj (Nat.not_lt_zero _))
