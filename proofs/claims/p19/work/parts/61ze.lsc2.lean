def PLi : xF := fun k _ _ => Nat.ble 28 k && Nat.ble k 34
theorem PLi_n {k i j : Nat} (hk : k < 28) : PLi k i j = false := by
  show (Nat.ble 28 k && Nat.ble k 34) = false
  rw [x_nble (show ¬ 28 ≤ k by omega)]
  rfl
theorem cB_L {M M1 : aM} {e : xB} (f : fr PLi M M1) (hB : cB 0 M e) : cB 0 M1 e := cB_fr hB (fun q j _ b _ => f.1 q 0 j (PLi_n (by omega)))
/-- levels told -/
def LV (w h s : Nat) (M : aM) : Prop := M.1 28 0 2 = Int32.ofNat (fcl w h s).length ∧ (∀ l, l < 32 → M.1 30 0 l = if fP w h s l = true then Int32.ofNat (nl w h s l) else -1) ∧ (∀ l, l < 32 → M.1 31 0 l = 0) ∧ ∀ L, L < (fcl w h s).length → M.1 29 0 L = Int32.ofNat (fl w h s L)
theorem l_findLevels {nS d : Nat} {M : aM} {e : xB} (hB : cB 0 M e) (h4 : e.2.1.1 * e.2.1.2.1 ≤ 4) : aC nS (d + 3) 82 [vR 28 0] M (fun v M' => v = none ∧ fr PLi M M' ∧ LV e.2.1.1 e.2.1.2.1 e.2.1.2.2 M') (fun _ _ => False) := by
  obtain ⟨ho, o2, o8, hS, w1, w3, h1, h3, s2⟩ := cB_h hB
  obtain ⟨⟨b1, b2⟩, ⟨b3, b4⟩, b5⟩ := ftab w1 w3 h1 h3 s2 h4
  refine aC_mk rfl rfl ?_
  intro K hK _
  have lp : ∀ (m i : Nat) (z : Int32) (M1 : aM), 32 - i = m → i ≤ 32 → z = Int32.ofNat i → fr PLi M M1 → M1.1 28 0 2 = Int32.ofNat (nl e.2.1.1 e.2.1.2.1 e.2.1.2.2 i) → (∀ l, l < i → M1.1 30 0 l = if fP e.2.1.1 e.2.1.2.1 e.2.1.2.2 l = true then Int32.ofNat (nl e.2.1.1 e.2.1.2.1 e.2.1.2.2 l) else -1) → (∀ l, l < i → M1.1 31 0 l = 0) → (∀ l, l < i → fP e.2.1.1 e.2.1.2.1 e.2.1.2.2 l = true → M1.1 29 0 (nl e.2.1.1 e.2.1.2.1 e.2.1.2.2 l) = Int32.ofNat l) → K 7 [some (vR 28 0), some (vI z)] [] M1 := by
    intro m
    induction m with
    | zero =>
      intro i z M1 hm hi hz f1 c1 c2 c3 c4
      subst hz
      have i32 : i = 32 := by omega
      subst i32
      refine hK _ _ _ _ (hK _ _ _ _ (hK _ _ _ _ (⟨fun h9 => ?_, fun h9 => ?_⟩)))
      · refine hK _ _ _ _ (⟨rfl, f1, by rw [← b1]; exact c1, c2, c3, fun L hL => ?_⟩)
        obtain ⟨d1, d2, d3⟩ := b5 L hL
        have h9 := c4 _ d1 d2
        rw [d3] at h9
        exact h9
      · exact absurd (x_nge (x := 32) (y := 32) rfl rfl (by omega) (by decide) h9) (by omega)
    | succ m ih =>
      intro i z M1 hm hi hz f1 c1 c2 c3 c4
      subst hz
      have i32 : i < 32 := by omega
      have ni : nl e.2.1.1 e.2.1.2.1 e.2.1.2.2 i < 32 := Nat.lt_of_le_of_lt (cnt_n i) i32
      refine hK _ _ _ _ (hK _ _ _ _ (hK _ _ _ _ (⟨fun h9 => ?_, fun h9 => ?_⟩)))
      · exact absurd (x_ge (x := i) (y := 32) rfl rfl (by omega) (by decide) h9) (by omega)
      refine hK _ _ _ _ (hK _ _ _ _ (hK _ _ _ _ (hK _ _ _ _ (hK _ _ _ _ (⟨_, g_put31 (a := i) rfl i32, rfl, fun v19 M19 g19 => ?_⟩)))))
      obtain ⟨rfl, rfl⟩ := g19
      refine hK _ _ _ _ (hK _ _ _ _ (hK _ _ _ _ (hK _ _ _ _ (hK _ _ _ _ (⟨_, g_put30 (a := i) rfl i32, rfl, fun v28 M28 g28 => ?_⟩)))))
      obtain ⟨rfl, rfl⟩ := g28
      have f3 : fr PLi M (a_pI (a_pI M1 31 0 i 0) 30 0 i (-1)) := fr_p (fr_p f1 rfl) rfl
      have hS3 := (cB_h (cB_L f3 hB)).2.2.2.1
      have nx : fP e.2.1.1 e.2.1.2.1 e.2.1.2.2 i = false → K 87 [some (vR 28 0), some (vI (Int32.ofNat i))] [] (a_pI (a_pI M1 31 0 i 0) 30 0 i (-1)) := by
        intro hp
        refine hK _ _ _ _ (hK _ _ _ _ (?_))
        refine ih (i + 1) _ _ (by omega) (by omega) hI_s f3 (by rw [nl_f hp]; exact (x_pn (fun z => absurd z.1 (by decide))).trans ((x_pn (fun z => absurd z.1 (by decide))).trans c1)) (fun l hl9 => ?_) (fun l hl9 => ?_) (fun l hl9 hp9 => (x_pn (fun z => absurd z.1 (by decide))).trans ((x_pn (fun z => absurd z.1 (by decide))).trans (c4 l (by
          by_cases he : l = i
          · rw [he, hp] at hp9
            exact absurd hp9 (by decide)
          · omega) hp9)))
        · by_cases he : l = i
          · rw [he, x_pe, if_neg (show ¬ fP e.2.1.1 e.2.1.2.1 e.2.1.2.2 i = true from by rw [hp]; decide)]
          · exact (x_pn (fun z => he z.2.2)).trans ((x_pn (fun z => absurd z.1 (by decide))).trans (c2 l (by omega)))
        · by_cases he : l = i
          · rw [he]
            exact (x_pn (fun z => absurd z.1 (by decide))).trans x_pe
          · exact (x_pn (fun z => absurd z.1 (by decide))).trans ((x_pn (fun z => he z.2.2)).trans (c3 l (by omega)))
      refine hK _ _ _ _ (hK _ _ _ _ (hK _ _ _ _ (hK _ _ _ _ (⟨_, b_hasL hS3 w1 w3 h1 h3 i32 rfl, rfl, fun v36 M36 g36 => ?_⟩))))
      obtain ⟨rfl, rfl⟩ := g36
      by_cases hv : hl e.2.1.1 e.2.1.2.1 e.2.1.2.2 i = true
      · rw [if_pos hv]
        refine hK _ _ _ _ (⟨fun q => (by first | exact absurd q (by decide) | exact absurd rfl q | exact absurd (by decide) q), fun _ => ?_⟩)
        refine hK _ _ _ _ (hK _ _ _ _ (hK _ _ _ _ (hK _ _ _ _ (⟨_, b_tree hS3 w1 w3 h1 h3 i32 rfl, rfl, fun v47 M47 g47 => ?_⟩))))
        obtain ⟨rfl, rfl⟩ := g47
        by_cases ht : otr e.2.1.1 e.2.1.2.1 e.2.1.2.2 i = true
        · rw [if_pos ht]
          refine hK _ _ _ _ (⟨fun _ => ?_, fun q => (by first | exact absurd q (by decide) | exact absurd rfl q | exact absurd (by decide) q)⟩)
          exact nx (by unfold fP; rw [hv, ht]; rfl)
        · rw [if_neg ht]
          refine hK _ _ _ _ (⟨fun q => (by first | exact absurd q (by decide) | exact absurd rfl q | exact absurd (by decide) q), fun _ => ?_⟩)
          have hp : fP e.2.1.1 e.2.1.2.1 e.2.1.2.2 i = true := by
            unfold fP
            rw [hv]
            cases hz : otr e.2.1.1 e.2.1.2.1 e.2.1.2.2 i with
            | true => exact absurd hz ht
            | false => rfl
          have c13 : (a_pI (a_pI M1 31 0 i 0) 30 0 i (-1)).1 28 0 2 = Int32.ofNat (nl e.2.1.1 e.2.1.2.1 e.2.1.2.2 i) := (x_pn (fun z => absurd z.1 (by decide))).trans ((x_pn (fun z => absurd z.1 (by decide))).trans c1)
          refine hK _ _ _ _ (hK _ _ _ _ (hK _ _ _ _ (hK _ _ _ _ (hK _ _ _ _ (hK _ _ _ _ (⟨_, g_put30 (a := i) rfl i32, rfl, fun v62 M62 g62 => ?_⟩))))))
          obtain ⟨rfl, rfl⟩ := g62
          rw [c13]
          have c14 : (a_pI (a_pI (a_pI M1 31 0 i 0) 30 0 i (-1)) 30 0 i (Int32.ofNat (nl e.2.1.1 e.2.1.2.1 e.2.1.2.2 i))).1 28 0 2 = Int32.ofNat (nl e.2.1.1 e.2.1.2.1 e.2.1.2.2 i) := (x_pn (fun z => absurd z.1 (by decide))).trans c13
          refine hK _ _ _ _ (hK _ _ _ _ (hK _ _ _ _ (hK _ _ _ _ (hK _ _ _ _ (hK _ _ _ _ (⟨_, g_put29 (a := nl e.2.1.1 e.2.1.2.1 e.2.1.2.2 i) c14 ni, rfl, fun v74 M74 g74 => ?_⟩))))))
          obtain ⟨rfl, rfl⟩ := g74
          refine hK _ _ _ _ (hK _ _ _ _ (hK _ _ _ _ (hK _ _ _ _ (hK _ _ _ _ (hK _ _ _ _ (hK _ _ _ _ (hK _ _ _ _ (?_))))))))
          have c15 : (a_pI (a_pI (a_pI (a_pI M1 31 0 i 0) 30 0 i (-1)) 30 0 i (Int32.ofNat (nl e.2.1.1 e.2.1.2.1 e.2.1.2.2 i))) 29 0 (nl e.2.1.1 e.2.1.2.1 e.2.1.2.2 i) (Int32.ofNat i)).1 28 0 2 = Int32.ofNat (nl e.2.1.1 e.2.1.2.1 e.2.1.2.2 i) := (x_pn (fun z => absurd z.1 (by decide))).trans c14
          refine ih (i + 1) _ _ (by omega) (by omega) hI_s (fr_p (fr_p (fr_p f3 rfl) rfl) rfl) (by rw [x_pe, c15, nl_s hp]; exact hI_s) (fun l hl9 => ?_) (fun l hl9 => ?_) (fun l hl9 hp9 => ?_)
          · refine (x_pn (fun z => absurd z.1 (by decide))).trans ((x_pn (fun z => absurd z.1 (by decide))).trans ?_)
            by_cases he : l = i
            · rw [he, x_pe, if_pos hp]
            · exact (x_pn (fun z => he z.2.2)).trans ((x_pn (fun z => he z.2.2)).trans ((x_pn (fun z => absurd z.1 (by decide))).trans (c2 l (by omega))))
          · refine (x_pn (fun z => absurd z.1 (by decide))).trans ((x_pn (fun z => absurd z.1 (by decide))).trans ((x_pn (fun z => absurd z.1 (by decide))).trans ((x_pn (fun z => absurd z.1 (by decide))).trans ?_)))
            by_cases he : l = i
            · rw [he]
              exact x_pe
            · exact (x_pn (fun z => he z.2.2)).trans (c3 l (by omega))
          · refine (x_pn (fun z => absurd z.1 (by decide))).trans ?_
            by_cases he : l = i
            · rw [he]
              exact x_pe
            · have hlt := nl_lt hp9 (show l < i by omega)
              exact (x_pn (fun z => by have := z.2.2; omega)).trans ((x_pn (fun z => absurd z.1 (by decide))).trans ((x_pn (fun z => absurd z.1 (by decide))).trans ((x_pn (fun z => absurd z.1 (by decide))).trans (c4 l (by omega) hp9))))
      · rw [if_neg hv]
        refine hK _ _ _ _ (⟨fun _ => ?_, fun q => (by first | exact absurd q (by decide) | exact absurd rfl q | exact absurd (by decide) q)⟩)
        exact nx (by
          unfold fP
          cases hz : hl e.2.1.1 e.2.1.2.1 e.2.1.2.2 i with
          | true => exact absurd hz hv
          | false => rfl)
  refine hK _ _ _ _ (hK _ _ _ _ (hK _ _ _ _ (hK _ _ _ _ (hK _ _ _ _ (?_)))))
  exact lp _ 0 _ _ rfl (Nat.zero_le _) rfl (fr_p fr_r rfl) x_pe (fun l hl9 => absurd hl9 (Nat.not_lt_zero _)) (fun l hl9 => absurd hl9 (Nat.not_lt_zero _)) (fun l hl9 => absurd hl9 (Nat.not_lt_zero _))
theorem b_sideK {nS d i w h s x y k : Nat} {M : aM} {q sd : Int32} (hs : cS i M w h s) (w1 : 1 ≤ w) (w3 : w ≤ 3) (h1 : 1 ≤ h) (h3 : h ≤ 3) (s2 : s ≤ 2) (hx : x < w) (hy : y < h) (hq : q = Int32.ofNat (y * 4 + x)) (hd : sd = Int32.ofNat k) (hk : k < 4) : aC nS (d + 4) 27 [vR 4 i, vI q, vI sd] M (fun v M' => v = some (vI (Int32.ofNat (sdl w h s x y k))) ∧ M = M') (fun _ _ => False) := by
  rcases (show k = 0 ∨ k = 1 ∨ k = 2 ∨ k = 3 by omega) with rfl | rfl | rfl | rfl
  · exact b_side0 hs w1 w3 h1 h3 s2 hx hy hq hd
  · exact b_side1 hs w1 w3 h1 h3 s2 hx hy hq hd
  · exact b_side2 hs w1 w3 h1 h3 s2 hx hy hq hd
  · exact b_side3 hs w1 w3 h1 h3 s2 hx hy hq hd
/-- a square's rows -/
def SQr (e : xB) (M : aM) (q : Nat) : Prop := (∀ k, k < 4 → M.1 32 0 (q * 4 + k) = Int32.ofNat (sdl e.2.1.1 e.2.1.2.1 e.2.1.2.2 (q % e.2.1.1) (q / e.2.1.1) k)) ∧ M.1 33 0 q = Int32.ofNat (laz e q) ∧ ∀ t, t < e.1.2 → M.1 34 0 (q * 8 + t) = wi e (q / e.2.1.1 * 4 + q % e.2.1.1) t
theorem SQr_f {e : xB} {M M1 : aM} {q : Nat} (hM : ∀ k j, 32 ≤ k → k ≤ 34 → M1.1 k 0 j = M.1 k 0 j) (hq : SQr e M q) : SQr e M1 q := ⟨fun k hk => (hM 32 _ (by decide) (by decide)).trans (hq.1 k hk), (hM 33 _ (by decide) (by decide)).trans hq.2.1, fun t ht => (hM 34 _ (by decide) (by decide)).trans (hq.2.2 t ht)⟩
theorem l_findSquare {nS d q : Nat} {M : aM} {e : xB} (hB : cB 0 M e) (hL : LV e.2.1.1 e.2.1.2.1 e.2.1.2.2 M) (hq : q < e.2.1.1 * e.2.1.2.1) (h4 : e.2.1.1 * e.2.1.2.1 ≤ 4) (hc : M.1 28 0 3 = Int32.ofNat q) : aC nS (d + 5) 84 [vR 28 0, vI (Int32.ofNat (q / e.2.1.1 * 4 + q % e.2.1.1))] M (fun v M' => v = none ∧ SQr e M' q ∧ M'.2 = M.2 ∧ ∀ k i j, ¬ (k = 32 ∧ j / 4 = q) → ¬ (k = 33 ∧ j = q) → ¬ (k = 34 ∧ j / 8 = q) → M'.1 k i j = M.1 k i j) (fun _ _ => False) := by
  obtain ⟨ho, o2, o8, hS, w1, w3, h1, h3, s2⟩ := cB_h hB
  obtain ⟨hx, hy⟩ := q_xy w1 hq
  have q4 : q < 4 := by omega
  have sq16 : q / e.2.1.1 * 4 + q % e.2.1.1 < 16 := by omega
  refine aC_mk rfl rfl ?_
  intro K hK _
  have F : ∀ (M1 : aM), (∀ k i j, ¬ (k = 32 ∧ j / 4 = q) → ¬ (k = 33 ∧ j = q) → ¬ (k = 34 ∧ j / 8 = q) → M1.1 k i j = M.1 k i j) → cB 0 M1 e ∧ M1.1 28 0 3 = Int32.ofNat q := fun M1 hM => ⟨cB_fr hB (fun q j a b _ => hM q 0 j (fun z => by have := z.1; omega) (fun z => by have := z.1; omega) (fun z => by have := z.1; omega)), (hM 28 0 3 (fun z => absurd z.1 (by decide)) (fun z => absurd z.1 (by decide)) (fun z => absurd z.1 (by decide))).trans hc⟩
  have l2 : ∀ (m t : Nat) (z l2 : Int32) (l4 : Option aV) (M1 : aM), e.1.2 - t = m → t ≤ e.1.2 → z = Int32.ofNat t → M1.2 = M.2 → (∀ k i j, ¬ (k = 32 ∧ j / 4 = q) → ¬ (k = 33 ∧ j = q) → ¬ (k = 34 ∧ j / 8 = q) → M1.1 k i j = M.1 k i j) → (∀ k, k < 4 → M1.1 32 0 (q * 4 + k) = Int32.ofNat (sdl e.2.1.1 e.2.1.2.1 e.2.1.2.2 (q % e.2.1.1) (q / e.2.1.1) k)) → M1.1 33 0 q = Int32.ofNat (laz e q) → (∀ u, u < t → M1.1 34 0 (q * 8 + u) = wi e (q / e.2.1.1 * 4 + q % e.2.1.1) u) → K 71 [some (vR 28 0), some (vI (Int32.ofNat (q / e.2.1.1 * 4 + q % e.2.1.1))), some (vI l2), some (vI z), l4] [] M1 := by
    intro m
    induction m with
    | zero =>
      intro t z l2 l4 M1 hm ht hz hL2 hM c1 c2 c3
      subst hz
      obtain ⟨B1, C1⟩ := F M1 hM
      refine hK _ _ _ _ (hK _ _ _ _ (hK _ _ _ _ (hK _ _ _ _ (⟨_, b_order, rfl, fun v76 M76 g76 => ?_⟩))))
      obtain ⟨rfl, rfl⟩ := g76
      rw [(cB_h B1).1]
      refine hK _ _ _ _ (⟨fun h9 => ?_, fun h9 => ?_⟩)
      · exact hK _ _ _ _ (⟨rfl, ⟨c1, c2, fun u hu => c3 u (by omega)⟩, hL2, hM⟩)
      · exact absurd (x_nge (x := t) (y := e.1.2) rfl rfl (by omega) (by omega) h9) (by omega)
    | succ m ih =>
      intro t z l2 l4 M1 hm ht hz hL2 hM c1 c2 c3
      subst hz
      have hto : t < e.1.2 := by omega
      obtain ⟨B1, C1⟩ := F M1 hM
      refine hK _ _ _ _ (hK _ _ _ _ (hK _ _ _ _ (hK _ _ _ _ (⟨_, b_order, rfl, fun v76 M76 g76 => ?_⟩))))
      obtain ⟨rfl, rfl⟩ := g76
      rw [(cB_h B1).1]
      refine hK _ _ _ _ (⟨fun h9 => ?_, fun h9 => ?_⟩)
      · exact absurd (x_ge (x := t) (y := e.1.2) rfl rfl (by omega) (by omega) h9) (by omega)
      refine hK _ _ _ _ (hK _ _ _ _ (hK _ _ _ _ (hK _ _ _ _ (hK _ _ _ _ (hK _ _ _ _ (hK _ _ _ _ (hK _ _ _ _ (hK _ _ _ _ (hK _ _ _ _ (hK _ _ _ _ (hK _ _ _ _ (hK _ _ _ _ (⟨_, b_weightIn B1 rfl sq16 rfl (show t < 8 by omega), rfl, fun v101 M101 g101 => ?_⟩)))))))))))))
      obtain ⟨rfl, rfl⟩ := g101
      have ej : M1.1 28 0 3 * 8 + Int32.ofNat t = Int32.ofNat (q * 8 + t) := by
        rw [C1, show (8 : Int32) = Int32.ofNat 8 from rfl, x_mul (by omega) (by decide), hI_ad]
      refine hK _ _ _ _ (⟨_, g_put34 ej (show q * 8 + t < 32 by omega), rfl, fun v104 M104 g104 => ?_⟩)
      obtain ⟨rfl, rfl⟩ := g104
      refine hK _ _ _ _ (hK _ _ _ _ (?_))
      refine ih (t + 1) _ _ _ (a_pI M1 34 0 (q * 8 + t) (wi e (q / e.2.1.1 * 4 + q % e.2.1.1) t)) (by omega) (by omega) hI_s hL2 (fun k i j a b c => (x_pn (fun z => c ⟨z.1, by have := z.2.2; omega⟩)).trans (hM k i j a b c)) (fun k hk => (x_pn (fun z => absurd z.1 (by decide))).trans (c1 k hk)) ((x_pn (fun z => absurd z.1 (by decide))).trans c2) (fun u hu => ?_)
      by_cases he : u = t
      · rw [he]
        exact x_pe
      · exact (x_pn (fun z => he (by have := z.2.2; omega))).trans (c3 u (by omega))
  have l1 : ∀ (m k : Nat) (la z : Int32) (l4 : Option aV) (M1 : aM), 4 - k = m → k ≤ 4 → z = Int32.ofNat k → la = Int32.ofNat (mxf (fun k => lvl e.2.1.1 e.2.1.2.1 e.2.1.2.2 (sdl e.2.1.1 e.2.1.2.1 e.2.1.2.2 (q % e.2.1.1) (q / e.2.1.1) k)) k) → M1.2 = M.2 → (∀ k i j, ¬ (k = 32 ∧ j / 4 = q) → M1.1 k i j = M.1 k i j) → (∀ u, u < k → M1.1 32 0 (q * 4 + u) = Int32.ofNat (sdl e.2.1.1 e.2.1.2.1 e.2.1.2.2 (q % e.2.1.1) (q / e.2.1.1) u)) → K 4 [some (vR 28 0), some (vI (Int32.ofNat (q / e.2.1.1 * 4 + q % e.2.1.1))), some (vI la), some (vI z), l4] [] M1 := by
    intro m
    induction m with
    | zero =>
      intro k la z l4 M1 hm hk hz hla hL2 hM c1
      subst hz
      have k4 : k = 4 := by omega
      subst k4
      obtain ⟨B1, C1⟩ := F M1 (fun k i j a _ _ => hM k i j a)
      refine hK _ _ _ _ (hK _ _ _ _ (hK _ _ _ _ (⟨fun h9 => ?_, fun h9 => ?_⟩)))
      · refine hK _ _ _ _ (hK _ _ _ _ (hK _ _ _ _ (hK _ _ _ _ (hK _ _ _ _ (hK _ _ _ _ (⟨_, g_put33 C1 q4, rfl, fun v66 M66 g66 => ?_⟩))))))
        obtain ⟨rfl, rfl⟩ := g66
        refine hK _ _ _ _ (hK _ _ _ _ (?_))
        refine l2 _ 0 _ _ _ (a_pI M1 33 0 q la) rfl (Nat.zero_le _) rfl hL2 (fun k i j a b _ => (x_pn (fun z => b ⟨z.1, z.2.2⟩)).trans (hM k i j a)) (fun k hk => (x_pn (fun z => absurd z.1 (by decide))).trans (c1 k hk)) ?_ (fun u hu => absurd hu (Nat.not_lt_zero _))
        rw [x_pe, hla]
        rfl
      · exact absurd (x_nge (x := 4) (y := 4) rfl rfl (by omega) (by decide) h9) (by omega)
    | succ m ih =>
      intro k la z l4 M1 hm hk hz hla hL2 hM c1
      subst hz
      have k4 : k < 4 := by omega
      obtain ⟨B1, C1⟩ := F M1 (fun k i j a _ _ => hM k i j a)
      have hS1 := (cB_h B1).2.2.2.1
      obtain ⟨s32, shl⟩ := sdl_ok w1 w3 h1 h3 s2 hx hy k4
      refine hK _ _ _ _ (hK _ _ _ _ (hK _ _ _ _ (⟨fun h9 => ?_, fun h9 => ?_⟩)))
      · exact absurd (x_ge (x := k) (y := 4) rfl rfl (by omega) (by decide) h9) (by omega)
      refine hK _ _ _ _ (hK _ _ _ _ (hK _ _ _ _ (hK _ _ _ _ (hK _ _ _ _ (⟨_, b_sideK hS1 w1 w3 h1 h3 s2 hx hy rfl rfl k4, rfl, fun v15 M15 g15 => ?_⟩)))))
      obtain ⟨rfl, rfl⟩ := g15
      have ej : M1.1 28 0 3 * 4 + Int32.ofNat k = Int32.ofNat (q * 4 + k) := by
        rw [C1, show (4 : Int32) = Int32.ofNat 4 from rfl, x_mul (by omega) (by decide), hI_ad]
      refine hK _ _ _ _ (hK _ _ _ _ (hK _ _ _ _ (hK _ _ _ _ (hK _ _ _ _ (hK _ _ _ _ (hK _ _ _ _ (hK _ _ _ _ (hK _ _ _ _ (hK _ _ _ _ (hK _ _ _ _ (⟨_, g_put32 ej (show q * 4 + k < 16 by omega), rfl, fun v34 M34 g34 => ?_⟩)))))))))))
      obtain ⟨rfl, rfl⟩ := g34
      refine hK _ _ _ _ (hK _ _ _ _ (hK _ _ _ _ (hK _ _ _ _ (hK _ _ _ _ (⟨_, g_at30 rfl s32, rfl, fun v44 M44 g44 => ?_⟩)))))
      obtain ⟨rfl, rfl⟩ := g44
      have e30 : (a_pI M1 32 0 (q * 4 + k) (Int32.ofNat (sdl e.2.1.1 e.2.1.2.1 e.2.1.2.2 (q % e.2.1.1) (q / e.2.1.1) k))).1 30 0 (sdl e.2.1.1 e.2.1.2.1 e.2.1.2.2 (q % e.2.1.1) (q / e.2.1.1) k) = if fP e.2.1.1 e.2.1.2.1 e.2.1.2.2 (sdl e.2.1.1 e.2.1.2.1 e.2.1.2.2 (q % e.2.1.1) (q / e.2.1.1) k) = true then Int32.ofNat (nl e.2.1.1 e.2.1.2.1 e.2.1.2.2 (sdl e.2.1.1 e.2.1.2.1 e.2.1.2.2 (q % e.2.1.1) (q / e.2.1.1) k)) else -1 := (x_pn (fun z => absurd z.1 (by decide))).trans ((hM 30 0 _ (fun z => absurd z.1 (by decide))).trans (hL.2.1 _ s32))
      rw [e30]
      refine hK _ _ _ _ (⟨rfl, ?_⟩)
      refine hK _ _ _ _ (hK _ _ _ _ (hK _ _ _ _ (?_)))
      have mxb : ∀ n, mxf (fun k => lvl e.2.1.1 e.2.1.2.1 e.2.1.2.2 (sdl e.2.1.1 e.2.1.2.1 e.2.1.2.2 (q % e.2.1.1) (q / e.2.1.1) k)) n < 1000 := by
        intro n
        induction n with
        | zero => exact (by decide : (0 : Nat) < 1000)
        | succ n ihn =>
          show (if mxf (fun k => lvl e.2.1.1 e.2.1.2.1 e.2.1.2.2 (sdl e.2.1.1 e.2.1.2.1 e.2.1.2.2 (q % e.2.1.1) (q / e.2.1.1) k)) n < lvl e.2.1.1 e.2.1.2.1 e.2.1.2.2 (sdl e.2.1.1 e.2.1.2.1 e.2.1.2.2 (q % e.2.1.1) (q / e.2.1.1) n) then lvl e.2.1.1 e.2.1.2.1 e.2.1.2.2 (sdl e.2.1.1 e.2.1.2.1 e.2.1.2.2 (q % e.2.1.1) (q / e.2.1.1) n) else mxf (fun k => lvl e.2.1.1 e.2.1.2.1 e.2.1.2.2 (sdl e.2.1.1 e.2.1.2.1 e.2.1.2.2 (q % e.2.1.1) (q / e.2.1.1) k)) n) < 1000
          by_cases hz : mxf (fun k => lvl e.2.1.1 e.2.1.2.1 e.2.1.2.2 (sdl e.2.1.1 e.2.1.2.1 e.2.1.2.2 (q % e.2.1.1) (q / e.2.1.1) k)) n < lvl e.2.1.1 e.2.1.2.1 e.2.1.2.2 (sdl e.2.1.1 e.2.1.2.1 e.2.1.2.2 (q % e.2.1.1) (q / e.2.1.1) n)
          · rw [if_pos hz]
            unfold lvl
            by_cases hp : fP e.2.1.1 e.2.1.2.1 e.2.1.2.2 (sdl e.2.1.1 e.2.1.2.1 e.2.1.2.2 (q % e.2.1.1) (q / e.2.1.1) n) = true
            · rw [if_pos hp]
              have hb : sdl e.2.1.1 e.2.1.2.1 e.2.1.2.2 (q % e.2.1.1) (q / e.2.1.1) n < 32 := by
                by_cases n4 : n < 4
                · exact (sdl_ok w1 w3 h1 h3 s2 hx hy n4).1
                · have e9 : sdl e.2.1.1 e.2.1.2.1 e.2.1.2.2 (q % e.2.1.1) (q / e.2.1.1) n = sdl e.2.1.1 e.2.1.2.1 e.2.1.2.2 (q % e.2.1.1) (q / e.2.1.1) 3 := by
                    unfold sdl
                    rw [if_neg (show ¬ n = 0 by omega), if_neg (show ¬ n = 1 by omega), if_neg (show ¬ n = 2 by omega)]
                    rfl
                  rw [e9]
                  exact (sdl_ok w1 w3 h1 h3 s2 hx hy (by decide)).1
              exact Nat.lt_of_le_of_lt (cnt_n _) (by omega)
            · rw [if_neg hp]
              decide
          · rw [if_neg hz]
            exact ihn
      refine ih (k + 1) _ _ _ (a_pI M1 32 0 (q * 4 + k) (Int32.ofNat (sdl e.2.1.1 e.2.1.2.1 e.2.1.2.2 (q % e.2.1.1) (q / e.2.1.1) k))) (by omega) (by omega) hI_s ?_ hL2 (fun k2 i j a => (x_pn (fun z => a ⟨z.1, by have := z.2.2; omega⟩)).trans (hM k2 i j a)) (fun u hu => ?_)
      · show (if la < (if fP e.2.1.1 e.2.1.2.1 e.2.1.2.2 (sdl e.2.1.1 e.2.1.2.1 e.2.1.2.2 (q % e.2.1.1) (q / e.2.1.1) k) = true then Int32.ofNat (nl e.2.1.1 e.2.1.2.1 e.2.1.2.2 (sdl e.2.1.1 e.2.1.2.1 e.2.1.2.2 (q % e.2.1.1) (q / e.2.1.1) k)) else -1) then (if fP e.2.1.1 e.2.1.2.1 e.2.1.2.2 (sdl e.2.1.1 e.2.1.2.1 e.2.1.2.2 (q % e.2.1.1) (q / e.2.1.1) k) = true then Int32.ofNat (nl e.2.1.1 e.2.1.2.1 e.2.1.2.2 (sdl e.2.1.1 e.2.1.2.1 e.2.1.2.2 (q % e.2.1.1) (q / e.2.1.1) k)) else -1) else la) = Int32.ofNat (if mxf (fun k => lvl e.2.1.1 e.2.1.2.1 e.2.1.2.2 (sdl e.2.1.1 e.2.1.2.1 e.2.1.2.2 (q % e.2.1.1) (q / e.2.1.1) k)) k < lvl e.2.1.1 e.2.1.2.1 e.2.1.2.2 (sdl e.2.1.1 e.2.1.2.1 e.2.1.2.2 (q % e.2.1.1) (q / e.2.1.1) k) then lvl e.2.1.1 e.2.1.2.1 e.2.1.2.2 (sdl e.2.1.1 e.2.1.2.1 e.2.1.2.2 (q % e.2.1.1) (q / e.2.1.1) k) else mxf (fun k => lvl e.2.1.1 e.2.1.2.1 e.2.1.2.2 (sdl e.2.1.1 e.2.1.2.1 e.2.1.2.2 (q % e.2.1.1) (q / e.2.1.1) k)) k)
        have hm9 := mxb k
        unfold lvl at hm9 hla ⊢
        by_cases hp : fP e.2.1.1 e.2.1.2.1 e.2.1.2.2 (sdl e.2.1.1 e.2.1.2.1 e.2.1.2.2 (q % e.2.1.1) (q / e.2.1.1) k) = true
        · have hn9 : nl e.2.1.1 e.2.1.2.1 e.2.1.2.2 (sdl e.2.1.1 e.2.1.2.1 e.2.1.2.2 (q % e.2.1.1) (q / e.2.1.1) k) < 1000 := Nat.lt_of_le_of_lt (cnt_n _) (by omega)
          rw [if_pos hp, if_pos hp, hla]
          by_cases hz : mxf (fun k => if fP e.2.1.1 e.2.1.2.1 e.2.1.2.2 (sdl e.2.1.1 e.2.1.2.1 e.2.1.2.2 (q % e.2.1.1) (q / e.2.1.1) k) = true then nl e.2.1.1 e.2.1.2.1 e.2.1.2.2 (sdl e.2.1.1 e.2.1.2.1 e.2.1.2.2 (q % e.2.1.1) (q / e.2.1.1) k) else 0) k < nl e.2.1.1 e.2.1.2.1 e.2.1.2.2 (sdl e.2.1.1 e.2.1.2.1 e.2.1.2.2 (q % e.2.1.1) (q / e.2.1.1) k)
          · rw [if_pos hz, if_pos ((hI_lt (by omega) (by omega)).mpr hz)]
          · rw [if_neg hz, if_neg (fun z => hz ((hI_lt (by omega) (by omega)).mp z))]
        · have hng : ∀ n : Nat, n < 1000 → ¬ Int32.ofNat n < -1 := fun n hn z => absurd (Int32.lt_of_le_of_lt ((hI_le (a := 0) (b := n) (by decide) (by omega)).mpr (Nat.zero_le n)) z) (by decide)
          rw [if_neg hp, if_neg hp, hla, if_neg (Nat.not_lt_zero _), if_neg (hng _ hm9)]
      · by_cases he : u = k
        · rw [he]
          exact x_pe
        · exact (x_pn (fun z => he (by have := z.2.2; omega))).trans (c1 u (by omega))
  refine hK _ _ _ _ (hK _ _ _ _ (hK _ _ _ _ (hK _ _ _ _ (?_))))
  exact l1 _ 0 _ _ _ _ rfl (Nat.zero_le _) rfl rfl rfl (fun _ _ _ _ => rfl) (fun u hu => absurd hu (Nat.not_lt_zero _))
theorem l_findSquares {nS d : Nat} {M : aM} {e : xB} (hB : cB 0 M e) (hL : LV e.2.1.1 e.2.1.2.1 e.2.1.2.2 M) (h4 : e.2.1.1 * e.2.1.2.1 ≤ 4) : aC nS (d + 6) 83 [vR 28 0] M (fun v M' => v = none ∧ fr PLi M M' ∧ LV e.2.1.1 e.2.1.2.1 e.2.1.2.2 M' ∧ M'.1 28 0 3 = Int32.ofNat (e.2.1.1 * e.2.1.2.1) ∧ ∀ q, q < e.2.1.1 * e.2.1.2.1 → SQr e M' q) (fun _ _ => False) := by
  obtain ⟨ho, o2, o8, hS, w1, w3, h1, h3, s2⟩ := cB_h hB
  refine aC_mk rfl rfl ?_
  intro K hK _
  have I0 : ∀ (M1 : aM), fr PLi M M1 → (∀ q j, 29 ≤ q → q ≤ 31 → M1.1 q 0 j = M.1 q 0 j) → M1.1 28 0 2 = M.1 28 0 2 → LV e.2.1.1 e.2.1.2.1 e.2.1.2.2 M1 := fun M1 _ hM h2 => ⟨h2.trans hL.1, fun l hl9 => (hM 30 l (by decide) (by decide)).trans (hL.2.1 l hl9), fun l hl9 => (hM 31 l (by decide) (by decide)).trans (hL.2.2.1 l hl9), fun L hL9 => (hM 29 L (by decide) (by decide)).trans (hL.2.2.2 L hL9)⟩
  have xl : ∀ (y : Nat), y < e.2.1.2.1 → (∀ (l2 : Option aV) (M1 : aM), fr PLi M M1 → (∀ q j, 29 ≤ q → q ≤ 31 → M1.1 q 0 j = M.1 q 0 j) → M1.1 28 0 2 = M.1 28 0 2 → M1.1 28 0 3 = Int32.ofNat ((y + 1) * e.2.1.1) → (∀ q, q < (y + 1) * e.2.1.1 → SQr e M1 q) → K 60 [some (vR 28 0), some (vI (Int32.ofNat y)), l2] [] M1) → ∀ (m x : Nat) (z : Int32) (M1 : aM), e.2.1.1 - x = m → x ≤ e.2.1.1 → z = Int32.ofNat x → fr PLi M M1 → (∀ q j, 29 ≤ q → q ≤ 31 → M1.1 q 0 j = M.1 q 0 j) → M1.1 28 0 2 = M.1 28 0 2 → M1.1 28 0 3 = Int32.ofNat (y * e.2.1.1 + x) → (∀ q, q < y * e.2.1.1 + x → SQr e M1 q) → K 20 [some (vR 28 0), some (vI (Int32.ofNat y)), some (vI z)] [] M1 := by
    intro y hy out m
    induction m with
    | zero =>
      intro x z M1 hm hx hz f1 hM h2 h9 hq
      subst hz
      have hS1 := (cB_h (cB_L f1 hB)).2.2.2.1
      refine hK _ _ _ _ (hK _ _ _ _ (hK _ _ _ _ (hK _ _ _ _ (⟨_, b_wide, rfl, fun v25 M25 g25 => ?_⟩))))
      obtain ⟨rfl, rfl⟩ := g25
      rw [hS1.1]
      have ex : x = e.2.1.1 := by omega
      refine hK _ _ _ _ (⟨fun h => ?_, fun h => ?_⟩)
      · rw [ex, ← Nat.succ_mul] at h9 hq
        exact out _ _ f1 hM h2 h9 hq
      · exact absurd (x_nge (x := x) (y := e.2.1.1) rfl rfl (by omega) (by omega) h) (by omega)
    | succ m ih =>
      intro x z M1 hm hx hz f1 hM h2 h9 hq
      subst hz
      have B1 := cB_L f1 hB
      have hS1 := (cB_h B1).2.2.2.1
      refine hK _ _ _ _ (hK _ _ _ _ (hK _ _ _ _ (hK _ _ _ _ (⟨_, b_wide, rfl, fun v25 M25 g25 => ?_⟩))))
      obtain ⟨rfl, rfl⟩ := g25
      rw [hS1.1]
      refine hK _ _ _ _ (⟨fun h => ?_, fun h => ?_⟩)
      · exact absurd (x_ge (x := x) (y := e.2.1.1) rfl rfl (by omega) (by omega) h) (by omega)
      have hmd : (y * e.2.1.1 + x) % e.2.1.1 = x := by rw [Nat.mul_comm, Nat.mul_add_mod, Nat.mod_eq_of_lt (by omega)]
      have hdv : (y * e.2.1.1 + x) / e.2.1.1 = y := by rw [Nat.mul_comm, Nat.mul_add_div (by omega), Nat.div_eq_of_lt (by omega), Nat.add_zero]
      have hlt : y * e.2.1.1 + x < e.2.1.1 * e.2.1.2.1 := by
        have h7 : (y + 1) * e.2.1.1 ≤ e.2.1.2.1 * e.2.1.1 := Nat.mul_le_mul_right _ hy
        rw [Nat.succ_mul] at h7
        rw [Nat.mul_comm e.2.1.1 e.2.1.2.1]
        omega
      refine hK _ _ _ _ (hK _ _ _ _ (hK _ _ _ _ (hK _ _ _ _ (hK _ _ _ _ (hK _ _ _ _ (⟨_, b_squareAt hS1 w3 h3, rfl, fun v38 M38 g38 => ?_⟩))))))
      obtain ⟨g38, rfl⟩ := g38
      rcases g38 with ⟨x9, y9, hx9, hy9, ex, ey, rfl⟩ | ⟨no, -⟩
      · have ex := x_inj (by omega) (by omega) ex
        have ey := x_inj (by omega) (by omega) ey
        subst ex
        subst ey
        have hc := l_findSquare (nS := nS) (d := d) B1 (I0 M1 f1 hM h2) hlt h4 h9
        rw [hmd, hdv] at hc
        refine hK _ _ _ _ (⟨_, hc, rfl, fun v41 M41 g41 => ?_⟩)
        obtain ⟨rfl, k1, k2, k3⟩ := g41
        refine hK _ _ _ _ (hK _ _ _ _ (hK _ _ _ _ (hK _ _ _ _ (hK _ _ _ _ (hK _ _ _ _ (hK _ _ _ _ (hK _ _ _ _ (?_))))))))
        have F1 : ∀ q j, q ≤ 31 → M41.1 q 0 j = M1.1 q 0 j := fun q j hq2 => k3 q 0 j (fun z => by have := z.1; omega) (fun z => by have := z.1; omega) (fun z => by have := z.1; omega)
        refine ih (x + 1) _ _ (by omega) (by omega) hI_s (fr_p ⟨fun q i j hz => (k3 q i j (fun z => by rw [z.1] at hz; exact absurd (show true = false from hz) (by decide)) (fun z => by rw [z.1] at hz; exact absurd (show true = false from hz) (by decide)) (fun z => by rw [z.1] at hz; exact absurd (show true = false from hz) (by decide))).trans (f1.1 q i j hz), k2.trans f1.2⟩ rfl) (fun q j a b => (x_pn (fun z => by have := z.1; omega)).trans ((F1 q j b).trans (hM q j a b))) ((x_pn (fun z => absurd z.2.2 (by decide))).trans ((F1 28 2 (by decide)).trans h2)) (by rw [x_pe, F1 28 3 (by decide), h9]; exact hI_s) (fun q hq2 => SQr_f (fun k2 j a b => x_pn (fun z => by have := z.1; omega)) ?_)
        by_cases he : q = y * e.2.1.1 + x
        · rw [he]
          exact k1
        · have hqq := hq q (by omega)
          exact ⟨fun u hu => (k3 32 0 _ (fun z => he (by omega)) (fun z => absurd z.1 (by decide)) (fun z => absurd z.1 (by decide))).trans (hqq.1 u hu), (k3 33 0 _ (fun z => absurd z.1 (by decide)) (fun z => he z.2) (fun z => absurd z.1 (by decide))).trans hqq.2.1, fun t ht => (k3 34 0 _ (fun z => absurd z.1 (by decide)) (fun z => absurd z.1 (by decide)) (fun z => he (by omega))).trans (hqq.2.2 t ht)⟩
      · exact absurd ⟨x, y, by omega, hy, rfl, rfl⟩ no
  have yl : ∀ (m y : Nat) (z : Int32) (l2 : Option aV) (M1 : aM), e.2.1.2.1 - y = m → y ≤ e.2.1.2.1 → z = Int32.ofNat y → fr PLi M M1 → (∀ q j, 29 ≤ q → q ≤ 31 → M1.1 q 0 j = M.1 q 0 j) → M1.1 28 0 2 = M.1 28 0 2 → M1.1 28 0 3 = Int32.ofNat (y * e.2.1.1) → (∀ q, q < y * e.2.1.1 → SQr e M1 q) → K 7 [some (vR 28 0), some (vI z), l2] [] M1 := by
    intro m
    induction m with
    | zero =>
      intro y z l2 M1 hm hy hz f1 hM h2 h9 hq
      subst hz
      have hS1 := (cB_h (cB_L f1 hB)).2.2.2.1
      refine hK _ _ _ _ (hK _ _ _ _ (hK _ _ _ _ (hK _ _ _ _ (⟨_, b_high, rfl, fun v12 M12 g12 => ?_⟩))))
      obtain ⟨rfl, rfl⟩ := g12
      rw [hS1.2.1]
      have ey : y = e.2.1.2.1 := by omega
      refine hK _ _ _ _ (⟨fun h => ?_, fun h => ?_⟩)
      · rw [ey, Nat.mul_comm] at h9 hq
        exact hK _ _ _ _ (⟨rfl, f1, I0 M1 f1 hM h2, h9, hq⟩)
      · exact absurd (x_nge (x := y) (y := e.2.1.2.1) rfl rfl (by omega) (by omega) h) (by omega)
    | succ m ih =>
      intro y z l2 M1 hm hy hz f1 hM h2 h9 hq
      subst hz
      have hS1 := (cB_h (cB_L f1 hB)).2.2.2.1
      refine hK _ _ _ _ (hK _ _ _ _ (hK _ _ _ _ (hK _ _ _ _ (⟨_, b_high, rfl, fun v12 M12 g12 => ?_⟩))))
      obtain ⟨rfl, rfl⟩ := g12
      rw [hS1.2.1]
      refine hK _ _ _ _ (⟨fun h => ?_, fun h => ?_⟩)
      · exact absurd (x_ge (x := y) (y := e.2.1.2.1) rfl rfl (by omega) (by omega) h) (by omega)
      · refine hK _ _ _ _ (hK _ _ _ _ (?_))
        refine xl y (by omega) (fun l2 M2 g1 g2 g3 g4 g5 => ?_) _ 0 _ _ rfl (Nat.zero_le _) rfl f1 hM h2 h9 hq
        refine hK _ _ _ _ (hK _ _ _ _ (?_))
        exact ih (y + 1) _ _ _ (by omega) (by omega) hI_s g1 g2 g3 g4 g5
  refine hK _ _ _ _ (hK _ _ _ _ (hK _ _ _ _ (hK _ _ _ _ (hK _ _ _ _ (?_)))))
  exact yl _ 0 _ _ _ rfl (Nat.zero_le _) rfl (fr_p fr_r rfl) (fun q j a b => x_pn (fun z => by have := z.1; omega)) (x_pn (fun z => absurd z.2.2 (by decide))) (by rw [x_pe, Nat.zero_mul]; rfl) (fun q hq => absurd hq (by rw [Nat.zero_mul]; exact Nat.not_lt_zero _))
