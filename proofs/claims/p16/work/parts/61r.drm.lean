/-- cells that a draw of the reference writes -/
def PDm : xF := fun k _ j => (Nat.beq k 36 && Nat.beq j 0) || (Nat.beq k 37 && ((Nat.ble 7 j && Nat.ble j 8) || (Nat.ble 20 j && Nat.ble j 43)))
theorem PDm_t {i j : Nat} (h1 : 20 ≤ j) (h2 : j ≤ 43) : PDm 37 i j = true := by
  show ((Nat.beq 37 36 && Nat.beq j 0) || (Nat.beq 37 37 && ((Nat.ble 7 j && Nat.ble j 8) || (Nat.ble 20 j && Nat.ble j 43)))) = true
  rw [Nat.ble_eq_true_of_le h1, Nat.ble_eq_true_of_le h2, Bool.and_self, Bool.or_true]
  rfl
theorem PDm_no {i j : Nat} (h : j < 20) (h7 : j ≠ 7) (h8 : j ≠ 8) : PDm 37 i j = false := by
  show ((Nat.beq 37 36 && Nat.beq j 0) || (Nat.beq 37 37 && ((Nat.ble 7 j && Nat.ble j 8) || (Nat.ble 20 j && Nat.ble j 43)))) = false
  rw [x_nble (show ¬ 20 ≤ j by omega)]
  by_cases h9 : 7 ≤ j
  · rw [x_nble (show ¬ j ≤ 8 by omega), Bool.and_false]
    rfl
  · rw [x_nble h9]
    rfl
theorem PDm_r {A B : aM} (h : fr (fun k _ j => Nat.beq k 37 && (Nat.ble 20 j && Nat.ble j 43)) A B) : fr PDm A B := fr_w h (fun k i j z => by
  have z : ((Nat.beq k 36 && Nat.beq j 0) || (Nat.beq k 37 && ((Nat.ble 7 j && Nat.ble j 8) || (Nat.ble 20 j && Nat.ble j 43)))) = false := z
  rw [Bool.or_eq_false_iff] at z
  show (Nat.beq k 37 && (Nat.ble 20 j && Nat.ble j 43)) = false
  cases h1 : Nat.beq k 37 with
  | false => rfl
  | true =>
    have z2 := z.2
    rw [h1, Bool.true_and, Bool.or_eq_false_iff] at z2
    rw [z2.2]
    rfl)
theorem rB_d {M M1 : aM} {e : xB} {L : Nat → Int32} (hB : rB 37 M e) (hf : fr PDm M M1) : rB 37 M1 (e.1, (e.2.1, (e.2.2.1, (e.2.2.2.1, L)))) := rB_fr (e := e) hB (fun j a b c d => hf.1 37 0 j (PDm_no (by omega) c d))
theorem r_drawL {nS : Nat} {M : aM} {e : xB} {seed : Int32} (hB : rB 37 M e) (hw : wOK e) : aC nS 60 254 [vR 36 0, vI seed] M (fun v M' => ((e.2.1.2.2 = 0 ∧ 0 < sw (dV e) e.1.2) ∧ v = some (vL (woy (dE e seed) e.2.1.2.1)) ∧ fr PDm M M' ∧ M'.1 36 0 0 = 0 ∧ M'.1 37 0 7 = 0 ∧ M'.1 37 0 8 = 0 ∧ lR 37 20 M' e.2.1.1 e.2.1.2.1 e.2.1.2.2 (dE e seed).2.2.2.2) ∨ (¬ (e.2.1.2.2 = 0 ∧ 0 < sw (dV e) e.1.2) ∧ v = some (vL 0) ∧ M' = a_pI M 36 0 0 1)) (fun _ _ => False) := by
  obtain ⟨ho, o2, o8, hS0, w1, w3, h1, h3, s2⟩ := rB_h hB
  have hgq : (e.1.1, e.1.2) ∈ gP := hB.1
  have sl9 : sw (dV e) e.1.2 < 1000 := by
    have := sw_le (W := dV e) e.1.2 (fun t ht => (hw t (by omega)).2)
    omega
  refine aC_mk rfl rfl ?_
  intro K hK _
  -- the squares
  have xl : 0 < sw (dV e) e.1.2 → ∀ (y : Nat) (D : (Nat → Nat) × Int32), (∀ l, D.1 l < e.1.2) → y < e.2.1.2.1 → (∀ (M1 : aM) (z z2 : Int32) l6 l7 l8, fr PDm M M1 → M1.1 36 0 0 = 0 → (∀ l, l < 32 → hl e.2.1.1 e.2.1.2.1 e.2.1.2.2 l = true → M1.1 37 0 (20 + lm e.2.1.1 e.2.1.2.1 e.2.1.2.2 l) = Int32.ofNat ((dsx e y e.2.1.1 D).1 l)) → z = (dsx e y e.2.1.1 D).2 → K 225 [some (vR 36 0), some (vI seed), some (vI (Int32.ofNat (sw (dV e) e.1.2))), some (vI z), some (vI (Int32.ofNat y)), some (vI z2), l6, l7, l8] [] M1) → ∀ (m x : Nat) (z z2 : Int32) (M1 : aM) (l6 l7 l8 : Option aV), e.2.1.1 - x = m → x ≤ e.2.1.1 → z2 = Int32.ofNat x → fr PDm M M1 → M1.1 36 0 0 = 0 → (∀ l, l < 32 → hl e.2.1.1 e.2.1.2.1 e.2.1.2.2 l = true → M1.1 37 0 (20 + lm e.2.1.1 e.2.1.2.1 e.2.1.2.2 l) = Int32.ofNat ((dsx e y x D).1 l)) → z = (dsx e y x D).2 → K 86 [some (vR 36 0), some (vI seed), some (vI (Int32.ofNat (sw (dV e) e.1.2))), some (vI z), some (vI (Int32.ofNat y)), some (vI z2), l6, l7, l8] [] M1 := by
    intro hp y D hD hy out m
    induction m with
    | zero =>
      intro x z z2 M1 l6 l7 l8 hm hx hz2 hf h0 hC hz
      subst hz2
      have hB1 : rB 37 M1 e := rB_fr hB (fun j a b c d => hf.1 37 0 j (PDm_no (by omega) c d))
      have hS : rS M1 e.2.1.1 e.2.1.2.1 e.2.1.2.2 := (rB_h hB1).2.2.2.1
      refine hK _ _ _ _ (hK _ _ _ _ (hK _ _ _ _ (hK _ _ _ _ (hK _ _ _ _ (⟨x_vp (a := 3) rfl (by decide) (by decide), ?_⟩)))))
      rw [x_cl (j := 3) (a := 3) rfl (by decide), hS.1]
      refine hK _ _ _ _ (⟨fun h => ?_, fun h => ?_⟩)
      · have ex : x = e.2.1.1 := by omega
        subst ex
        exact out _ _ _ _ _ _ hf h0 hC hz
      · exact absurd (x_nge (x := x) (y := e.2.1.1) rfl rfl (by omega) (by omega) h) (by omega)
    | succ m ih =>
      intro x z z2 M1 l6 l7 l8 hm hx hz2 hf h0 hC hz
      subst hz2
      have hB1 : rB 37 M1 e := rB_fr hB (fun j a b c d => hf.1 37 0 j (PDm_no (by omega) c d))
      have hS : rS M1 e.2.1.1 e.2.1.2.1 e.2.1.2.2 := (rB_h hB1).2.2.2.1
      have hxw : x < e.2.1.1 := by omega
      refine hK _ _ _ _ (hK _ _ _ _ (hK _ _ _ _ (hK _ _ _ _ (hK _ _ _ _ (⟨x_vp (a := 3) rfl (by decide) (by decide), ?_⟩)))))
      rw [x_cl (j := 3) (a := 3) rfl (by decide), hS.1]
      refine hK _ _ _ _ (⟨fun h => ?_, fun h => ?_⟩)
      · exact absurd (x_ge (x := x) (y := e.2.1.1) rfl rfl (by omega) (by omega) h) (by omega)
      · have tp : 0 < dtot e (y * 4 + x) := dtot_p o2 hp
        have tq : dtot e (y * 4 + x) < 1000 := by
          rw [dtot_e]
          have := sw_le (W := dW e (y * 4 + x)) e.1.2 (fun t ht => (wi_n hw (by omega)).2)
          omega
        obtain ⟨q1, q2⟩ := dbits_n (1103515245 * z + 12345)
        have md := Nat.mod_lt (xn (dbits (1103515245 * z + 12345))) tp
        have om1 : e.2.1.1 - (x + 1) = m := by omega
        have om2 : x + 1 ≤ e.2.1.1 := hxw
        -- the line
        have fin : ∀ (t : Nat) (d l8 : Int32), t < e.1.2 → t = dt e x y (1103515245 * z + 12345) → K 181 [some (vR 36 0), some (vI seed), some (vI (Int32.ofNat (sw (dV e) e.1.2))), some (vI (1103515245 * z + 12345)), some (vI (Int32.ofNat y)), some (vI (Int32.ofNat x)), some (vI d), some (vI (Int32.ofNat t)), some (vI l8)] [] M1 := by
          intro t d l8 ht et
          have l24 := rln_lt (s := e.2.1.2.2) (n := 0) w1 w3 h1 h3 s2 (by decide) (Nat.le_of_lt hxw) (show y + 1 ≤ e.2.1.2.1 from hy) (sq_l w1 w3 h1 h3 s2 hxw hy).2.1
          have al := xln_lt (s := e.2.1.2.2) (n := 0) w1 w3 h1 h3 (Nat.le_of_lt hxw) (show y + 1 ≤ e.2.1.2.1 from hy) (by decide)
          obtain ⟨av, am⟩ := xln_hl w1 w3 h1 h3 s2 (Nat.le_of_lt hxw) (show y + 1 ≤ e.2.1.2.1 from hy) (by decide) (sq_l w1 w3 h1 h3 s2 hxw hy).2.1
          have om3 : 20 + rln e.2.1.1 e.2.1.2.1 e.2.1.2.2 x (y + 1) 0 ≤ 43 := by omega
          have e20 : (20 : Int32) + Int32.ofNat (rln e.2.1.1 e.2.1.2.1 e.2.1.2.2 x (y + 1) 0) = Int32.ofNat (20 + rln e.2.1.1 e.2.1.2.1 e.2.1.2.2 x (y + 1) 0) := hI_ad (a := 20)
          refine hK _ _ _ _ (hK _ _ _ _ (hK _ _ _ _ (hK _ _ _ _ (hK _ _ _ _ (hK _ _ _ _ (hK _ _ _ _ (hK _ _ _ _ (hK _ _ _ _ (hK _ _ _ _ (⟨_, r_lineOf (d := 56) hS w1 w3 h1 h3 s2 (n := 0) (by decide) rfl, rfl, fun v195 M195 g195 => ?_⟩))))))))))
          obtain ⟨g195, rfl⟩ := g195
          rcases okL_of w3 h3 g195 with ⟨a9, b9, ha9, hb9, ea, eb, -, rfl⟩ | ⟨no, -⟩
          case inr => exact absurd (okL_y (Nat.le_of_lt hxw) (show y + 1 ≤ e.2.1.2.1 from hy) rfl hI_s (sq_l w1 w3 h1 h3 s2 hxw hy).2.1) no
          rw [← x_inj (x := x) (y := a9) (by omega) (by omega) ea, ← x_inj (x := y + 1) (y := b9) (by omega) (by omega) (hI_s.symm.trans eb)]
          refine hK _ _ _ _ (hK _ _ _ _ (hK _ _ _ _ (hK _ _ _ _ (hK _ _ _ _ (⟨_, g_against (d := 57) (rB_g hB1) ht, rfl, fun v203 M203 g203 => ?_⟩)))))
          obtain ⟨rfl, rfl⟩ := g203
          refine hK _ _ _ _ (hK _ _ _ _ (hK _ _ _ _ (hK _ _ _ _ (hK _ _ _ _ (⟨_, r_heldN (d := 55) hS w1 w3 h1 h3 s2 (Nat.le_of_lt hxw) (Nat.le_of_lt hy) (n := 0) (by decide) rfl rfl rfl (sq_l w1 w3 h1 h3 s2 hxw hy).1.1, rfl, fun v212 M212 g212 => ?_⟩)))))
          obtain ⟨rfl, rfl⟩ := g212
          rw [lR_n (S := fun l => Int32.ofNat ((dsx e y x D).1 l)) hC w1 w3 h1 h3 s2 (Nat.le_of_lt hxw) (Nat.le_of_lt hy) (by decide) (sq_l w1 w3 h1 h3 s2 hxw hy).1.1]
          refine hK _ _ _ _ (⟨_, g_times (d := 58) (rB_g hB1) (ag_lt hgq ht) (dsx_lt hgq hp hD x _), rfl, fun v215 M215 g215 => ?_⟩)
          obtain ⟨rfl, rfl⟩ := g215
          refine hK _ _ _ _ (⟨x_vp (a := 20 + rln e.2.1.1 e.2.1.2.1 e.2.1.2.2 x (y + 1) 0) e20 (by omega) (by decide), ?_⟩)
          rw [x_cl e20 (by omega)]
          refine hK _ _ _ _ (hK _ _ _ _ (?_))
          refine ih (x + 1) _ _ _ _ _ _ om1 om2 hI_s (fr_p hf (PDm_t (Nat.le_add_right 20 _) om3)) ((x_pn (fun q => absurd q.1 (by decide))).trans h0) (fun l hl9 hv => ?_) ?_
          · show _ = Int32.ofNat (if l = xln e.2.1.1 e.2.1.2.1 e.2.1.2.2 x (y + 1) 0 then _ else _)
            by_cases he : l = xln e.2.1.1 e.2.1.2.1 e.2.1.2.2 x (y + 1) 0
            · rw [if_pos he, he, am, x_pe, et, hz]
            · rw [if_neg he, x_pn (fun q => he (lm_inj w1 w3 h1 h3 s2 hl9 al hv av (by rw [am]; have := q.2.2; omega)))]
              exact hC l hl9 hv
          · rw [hz]
            rfl
        -- the turn
        have sq : ∀ (m9 t : Nat) (S8 : Int32), t + m9 + 1 = e.1.2 → S8 = Int32.ofNat (sw (dW e (y * 4 + x)) (t + 1)) → sw (dW e (y * 4 + x)) t ≤ xn (dbits (1103515245 * z + 12345)) % dtot e (y * 4 + x) → dt e x y (1103515245 * z + 12345) = dtf (dW e (y * 4 + x)) (m9 + 1) (xn (dbits (1103515245 * z + 12345)) % dtot e (y * 4 + x) - sw (dW e (y * 4 + x)) t) t → K 153 [some (vR 36 0), some (vI seed), some (vI (Int32.ofNat (sw (dV e) e.1.2))), some (vI (1103515245 * z + 12345)), some (vI (Int32.ofNat y)), some (vI (Int32.ofNat x)), some (vI (Int32.ofNat (xn (dbits (1103515245 * z + 12345)) % dtot e (y * 4 + x)))), some (vI (Int32.ofNat t)), some (vI S8)] [] M1 := by
          intro m9
          induction m9 with
          | zero =>
            intro t S8 ht hS8 hle hd
            subst hS8
            have hso : sw (dW e (y * 4 + x)) (t + 1) < 1000 := by rw [show t + 1 = e.1.2 by omega, ← dtot_e]; exact tq
            have hd2 : dt e x y (1103515245 * z + 12345) = bif Nat.blt (xn (dbits (1103515245 * z + 12345)) % dtot e (y * 4 + x) - sw (dW e (y * 4 + x)) t) (dW e (y * 4 + x) t) then t else _ := hd
            have hs9 : sw (dW e (y * 4 + x)) (t + 1) = sw (dW e (y * 4 + x)) t + dW e (y * 4 + x) t := rfl
            have hto : sw (dW e (y * 4 + x)) (t + 1) = dtot e (y * 4 + x) := by rw [show t + 1 = e.1.2 by omega, ← dtot_e]
            refine hK _ _ _ _ (hK _ _ _ _ (hK _ _ _ _ (⟨fun h => ?_, fun h => ?_⟩)))
            · rw [x_blt (by omega), cond_true] at hd2
              exact fin t _ _ (by omega) hd2.symm
            · exact absurd (x_nlt (x := xn (dbits (1103515245 * z + 12345)) % dtot e (y * 4 + x)) (y := sw (dW e (y * 4 + x)) (t + 1)) rfl rfl (by omega) (by omega) h) (by omega)
          | succ m9 ih9 =>
            intro t S8 ht hS8 hle hd
            subst hS8
            have hso : sw (dW e (y * 4 + x)) (t + 1) < 1000 := by
              have := sw_le (W := dW e (y * 4 + x)) (t + 1) (fun t ht => (wi_n hw (by omega)).2)
              omega
            have hd2 : dt e x y (1103515245 * z + 12345) = bif Nat.blt (xn (dbits (1103515245 * z + 12345)) % dtot e (y * 4 + x) - sw (dW e (y * 4 + x)) t) (dW e (y * 4 + x) t) then t else dtf (dW e (y * 4 + x)) (m9 + 1) (xn (dbits (1103515245 * z + 12345)) % dtot e (y * 4 + x) - sw (dW e (y * 4 + x)) t - dW e (y * 4 + x) t) (t + 1) := hd
            have hs9 : sw (dW e (y * 4 + x)) (t + 1) = sw (dW e (y * 4 + x)) t + dW e (y * 4 + x) t := rfl
            obtain ⟨ew, w9⟩ := wi_n (s := y * 4 + x) hw (show t + 1 < 8 by omega)
            refine hK _ _ _ _ (hK _ _ _ _ (hK _ _ _ _ (⟨fun h => ?_, fun h => ?_⟩)))
            · have h9 := x_lt (x := xn (dbits (1103515245 * z + 12345)) % dtot e (y * 4 + x)) (y := sw (dW e (y * 4 + x)) (t + 1)) rfl rfl (by omega) (by omega) h
              rw [x_blt (by omega), cond_true] at hd2
              exact fin t _ _ (by omega) hd2.symm
            · have h9 := x_nlt (x := xn (dbits (1103515245 * z + 12345)) % dtot e (y * 4 + x)) (y := sw (dW e (y * 4 + x)) (t + 1)) rfl rfl (by omega) (by omega) h
              rw [x_nblt (by omega), cond_false] at hd2
              refine hK _ _ _ _ (hK _ _ _ _ (?_))
              rw [hI_s]
              refine hK _ _ _ _ (hK _ _ _ _ (hK _ _ _ _ (hK _ _ _ _ (hK _ _ _ _ (⟨_, r_weightOf (d := 57) hB1 (show x < 3 by omega) (show y < 3 by omega) (show t + 1 < 8 by omega), rfl, fun v172 M172 g172 => ?_⟩)))))
              obtain ⟨rfl, rfl⟩ := g172
              rw [ew]
              refine hK _ _ _ _ (hK _ _ _ _ (hK _ _ _ _ (?_)))
              refine ih9 (t + 1) _ (by omega) hI_ad (by omega) ?_
              rw [hd2, show xn (dbits (1103515245 * z + 12345)) % dtot e (y * 4 + x) - sw (dW e (y * 4 + x)) (t + 1) = xn (dbits (1103515245 * z + 12345)) % dtot e (y * 4 + x) - sw (dW e (y * 4 + x)) t - dW e (y * 4 + x) t by omega]
        have go9 : ∀ b : Int32, b = Int32.ofNat (dtot e (y * 4 + x)) → K 136 [some (vR 36 0), some (vI seed), some (vI (Int32.ofNat (sw (dV e) e.1.2))), some (vI (1103515245 * z + 12345)), some (vI (Int32.ofNat y)), some (vI (Int32.ofNat x)), l6, l7, l8] [vI b, vI (dbits (1103515245 * z + 12345))] M1 := by
          intro b eb
          subst eb
          obtain ⟨ew, w9⟩ := wi_n (s := y * 4 + x) hw (show 0 < 8 by decide)
          refine hK _ _ _ _ ⟨fun q => absurd (x_inj (x := dtot e (y * 4 + x)) (y := 0) (by omega) (by decide) q) (by omega), ?_⟩
          rw [q1, x_rem (by omega) (by omega)]
          refine hK _ _ _ _ (hK _ _ _ _ (hK _ _ _ _ (hK _ _ _ _ (hK _ _ _ _ (hK _ _ _ _ (hK _ _ _ _ (hK _ _ _ _ (⟨_, r_weightOf (d := 57) hB1 (show x < 3 by omega) (show y < 3 by omega) (t := 0) (by decide), rfl, fun v148 M148 g148 => ?_⟩))))))))
          obtain ⟨rfl, rfl⟩ := g148
          rw [ew]
          refine hK _ _ _ _ (?_)
          refine sq (e.1.2 - 1) 0 _ (by omega) (by show _ = Int32.ofNat (0 + dW e (y * 4 + x) 0); rw [Nat.zero_add]) (Nat.zero_le _) ?_
          rw [show e.1.2 - 1 + 1 = e.1.2 by omega]
          rfl
        refine hK _ _ _ _ (hK _ _ _ _ (hK _ _ _ _ (hK _ _ _ _ (hK _ _ _ _ (hK _ _ _ _ (hK _ _ _ _ (hK _ _ _ _ (hK _ _ _ _ (hK _ _ _ _ (hK _ _ _ _ (hK _ _ _ _ (hK _ _ _ _ (hK _ _ _ _ (hK _ _ _ _ (⟨_, r_isHole (d := 58) hB1.2.2.2.2 (show x < 3 by omega) (show y < 3 by omega), rfl, fun v120 M120 g120 => ?_⟩)))))))))))))))
        obtain ⟨g120, rfl⟩ := g120
        rcases g120 with ⟨hh, rfl⟩ | ⟨hh, rfl⟩
        · refine hK _ _ _ _ (⟨fun q => ?_, fun q => ?_⟩)
          · exact absurd q (by decide)
          · refine hK _ _ _ _ (hK _ _ _ _ (hK _ _ _ _ (hK _ _ _ _ (⟨x_vp (a := 2) rfl (by decide) (by decide), ?_⟩))))
            rw [x_cl (j := 2) (a := 2) rfl (by decide), (rB_h hB1).1]
            refine hK _ _ _ _ (?_)
            exact go9 _ (by unfold dtot; rw [if_pos hh])
        · refine hK _ _ _ _ (⟨fun q => ?_, fun q => ?_⟩)
          · refine hK _ _ _ _ (?_)
            exact go9 _ (by unfold dtot; rw [if_neg hh])
          · exact absurd rfl q
  have yl : (e.2.1.2.2 = 0 ∧ 0 < sw (dV e) e.1.2) → ∀ (m y : Nat) (z z2 : Int32) (M1 : aM) (l5 l6 l7 l8 : Option aV), e.2.1.2.1 - y = m → y ≤ e.2.1.2.1 → z2 = Int32.ofNat y → fr PDm M M1 → M1.1 36 0 0 = 0 → (∀ l, l < 32 → hl e.2.1.1 e.2.1.2.1 e.2.1.2.2 l = true → M1.1 37 0 (20 + lm e.2.1.1 e.2.1.2.1 e.2.1.2.2 l) = Int32.ofNat ((dsy e seed y).1 l)) → z = (dsy e seed y).2 → K 72 [some (vR 36 0), some (vI seed), some (vI (Int32.ofNat (sw (dV e) e.1.2))), some (vI z), some (vI z2), l5, l6, l7, l8] [] M1 := by
    intro hp m
    induction m with
    | zero =>
      intro y z z2 M1 l5 l6 l7 l8 hm hy hz2 hf h0 hC hz
      subst hz2
      have hB1 := rB_d (L := (dE e seed).2.2.2.2) hB hf
      have hS : rS M1 e.2.1.1 e.2.1.2.1 e.2.1.2.2 := (rB_h hB1).2.2.2.1
      refine hK _ _ _ _ (hK _ _ _ _ (hK _ _ _ _ (hK _ _ _ _ (hK _ _ _ _ (⟨x_vp (a := 4) rfl (by decide) (by decide), ?_⟩)))))
      rw [x_cl (j := 4) (a := 4) rfl (by decide), hS.2.1]
      refine hK _ _ _ _ (⟨fun h => ?_, fun h => ?_⟩)
      · have ey : y = e.2.1.2.1 := by omega
        subst ey
        refine hK _ _ _ _ (hK _ _ _ _ (hK _ _ _ _ (hK _ _ _ _ (hK _ _ _ _ (⟨x_vp (a := 7) rfl (by decide) (by decide), ?_⟩)))))
        rw [x_cl (j := 7) (a := 7) rfl (by decide)]
        refine hK _ _ _ _ (hK _ _ _ _ (hK _ _ _ _ (hK _ _ _ _ (hK _ _ _ _ (⟨x_vp (a := 8) rfl (by decide) (by decide), ?_⟩)))))
        rw [x_cl (j := 8) (a := 8) rfl (by decide)]
        have hC2 : lR 37 20 (a_pI (a_pI M1 37 0 7 0) 37 0 8 0) e.2.1.1 e.2.1.2.1 e.2.1.2.2 (dE e seed).2.2.2.2 := fun l p q => (x_pn (fun z => by have := z.2.2; omega)).trans ((x_pn (fun z => by have := z.2.2; omega)).trans (hC l p q))
        have hB2 : rB 37 (a_pI (a_pI M1 37 0 7 0) 37 0 8 0) (dE e seed) := rB_fr hB1 (fun j a b c d => (x_pn (fun z => d z.2.2)).trans (x_pn (fun z => c z.2.2)))
        refine hK _ _ _ _ (hK _ _ _ _ (⟨_, r_worth (d := 53) hB2 ⟨hC2, lO_d hB.1 hp.2⟩, rfl, fun v248 M248 g248 => ?_⟩))
        obtain ⟨rfl, rfl⟩ := g248
        exact hK _ _ _ _ (Or.inl ⟨hp, rfl, fr_p (fr_p hf rfl) rfl, (x_pn (fun z => absurd z.1 (by decide))).trans ((x_pn (fun z => absurd z.1 (by decide))).trans h0), (x_pn (fun z => absurd z.2.2 (by decide))).trans x_pe, x_pe, hC2⟩)
      · exact absurd (x_nge (x := y) (y := e.2.1.2.1) rfl rfl (by omega) (by omega) h) (by omega)
    | succ m ih =>
      intro y z z2 M1 l5 l6 l7 l8 hm hy hz2 hf h0 hC hz
      subst hz2
      have hB1 := rB_d (L := (dE e seed).2.2.2.2) hB hf
      have hS : rS M1 e.2.1.1 e.2.1.2.1 e.2.1.2.2 := (rB_h hB1).2.2.2.1
      refine hK _ _ _ _ (hK _ _ _ _ (hK _ _ _ _ (hK _ _ _ _ (hK _ _ _ _ (⟨x_vp (a := 4) rfl (by decide) (by decide), ?_⟩)))))
      rw [x_cl (j := 4) (a := 4) rfl (by decide), hS.2.1]
      refine hK _ _ _ _ (⟨fun h => ?_, fun h => ?_⟩)
      · exact absurd (x_ge (x := y) (y := e.2.1.2.1) rfl rfl (by omega) (by omega) h) (by omega)
      · refine hK _ _ _ _ (hK _ _ _ _ (?_))
        refine xl hp.2 y (dsy e seed y) (dsy_lt hgq hp.2 y) (by omega) (fun M2 z3 z4 l6 l7 l8 hf2 h02 hC2 hz3 => ?_) _ 0 _ _ _ _ _ _ rfl (Nat.zero_le _) rfl hf h0 hC hz
        refine hK _ _ _ _ (hK _ _ _ _ (?_))
        exact ih (y + 1) _ _ _ _ _ _ _ (by omega) (by omega) hI_s hf2 h02 hC2 hz3
  have bad : ¬ (e.2.1.2.2 = 0 ∧ 0 < sw (dV e) e.1.2) → ∀ x3 : Int32, K 46 [some (vR 36 0), some (vI seed), some (vI (Int32.ofNat (sw (dV e) e.1.2))), some (vI x3), none, none, none, none, none] [vR 36 0] M := by
    intro hno x3
    refine hK _ _ _ _ (hK _ _ _ _ (hK _ _ _ _ (hK _ _ _ _ (hK _ _ _ _ (hK _ _ _ _ (⟨fun h => ?_, fun h => ?_⟩))))))
    · exact absurd h (by first | (rw [x_pe]; decide) | rw [x_pe])
    · exact hK _ _ _ _ (hK _ _ _ _ (Or.inr ⟨hno, rfl, rfl⟩))
  have la : ∀ (m t : Nat) (A z : Int32), e.1.2 - t = m → t ≤ e.1.2 → A = Int32.ofNat (sw (dV e) t) → z = Int32.ofNat t → K 4 [some (vR 36 0), some (vI seed), some (vI A), some (vI z), none, none, none, none, none] [] M := by
    intro m
    induction m with
    | zero =>
      intro t A z hm ht hA hz
      subst hA
      subst hz
      refine hK _ _ _ _ (hK _ _ _ _ (hK _ _ _ _ (hK _ _ _ _ (hK _ _ _ _ (⟨x_vp (a := 2) rfl (by decide) (by decide), ?_⟩)))))
      rw [x_cl (j := 2) (a := 2) rfl (by decide), ho]
      refine hK _ _ _ _ (⟨fun h => ?_, fun h => ?_⟩)
      · have et : t = e.1.2 := by omega
        subst et
        refine hK _ _ _ _ (hK _ _ _ _ (hK _ _ _ _ (hK _ _ _ _ (hK _ _ _ _ (⟨x_vp (a := 5) rfl (by decide) (by decide), ?_⟩)))))
        rw [x_cl (j := 5) (a := 5) rfl (by decide), hS0.2.2]
        refine hK _ _ _ _ (⟨fun q => ?_, fun q => ?_⟩)
        · refine bad (fun z => q ?_) _
          rw [z.1]
          rfl
        · have hs0 : e.2.1.2.2 = 0 := x_inj (y := 0) (by omega) (by decide) q
          refine hK _ _ _ _ (hK _ _ _ _ (⟨fun q => ?_, fun q => ?_⟩))
          · have hp : 0 < sw (dV e) e.1.2 := by
              have : ¬ sw (dV e) e.1.2 = 0 := fun z => q (by rw [z]; rfl)
              omega
            refine hK _ _ _ _ (hK _ _ _ _ (hK _ _ _ _ (hK _ _ _ _ (hK _ _ _ _ (⟨fun h => ?_, fun h => ?_⟩)))))
            · refine hK _ _ _ _ (hK _ _ _ _ (hK _ _ _ _ (hK _ _ _ _ (⟨_, r_rests0 (d := 58), rfl, fun v66 M66 g66 => ?_⟩))))
              obtain ⟨rfl, f66, C66⟩ := g66
              refine hK _ _ _ _ (hK _ _ _ _ (?_))
              exact yl ⟨hs0, hp⟩ _ 0 _ _ _ _ _ _ _ rfl (Nat.zero_le _) rfl (fr_t (fr_p fr_r rfl) (PDm_r f66)) ((f66.1 36 0 0 rfl).trans x_pe) (fun l p q9 => C66 _ (Nat.lt_of_lt_of_le (lm_lt w1 w3 h1 h3 s2 p q9) (lmy_le w1 w3 h1 h3 s2))) rfl
            · exact absurd (by first | (rw [x_pe]; decide) | rw [x_pe]) h
          · refine bad (fun z => ?_) _
            have := x_inj (x := sw (dV e) e.1.2) (y := 0) (by omega) (by decide) q
            omega
      · exact absurd (x_nge (x := t) (y := e.1.2) rfl rfl (by omega) (by omega) h) (by omega)
    | succ m ih =>
      intro t A z hm ht hA hz
      subst hA
      subst hz
      have e10 : (10 : Int32) + Int32.ofNat t = Int32.ofNat (10 + t) := hI_ad (a := 10)
      refine hK _ _ _ _ (hK _ _ _ _ (hK _ _ _ _ (hK _ _ _ _ (hK _ _ _ _ (⟨x_vp (a := 2) rfl (by decide) (by decide), ?_⟩)))))
      rw [x_cl (j := 2) (a := 2) rfl (by decide), ho]
      refine hK _ _ _ _ (⟨fun h => ?_, fun h => ?_⟩)
      · exact absurd (x_ge (x := t) (y := e.1.2) rfl rfl (by omega) (by omega) h) (by omega)
      · refine hK _ _ _ _ (hK _ _ _ _ (hK _ _ _ _ (hK _ _ _ _ (hK _ _ _ _ (hK _ _ _ _ (hK _ _ _ _ (⟨x_vp (a := 10 + t) e10 (by omega) (by decide), ?_⟩)))))))
        rw [x_cl e10 (by omega), hB.2.2.2.1 t (by omega), (hw t (by omega)).1]
        refine hK _ _ _ _ (hK _ _ _ _ (hK _ _ _ _ (hK _ _ _ _ (?_))))
        exact ih (t + 1) _ _ (by omega) (by omega) hI_ad hI_s
  refine hK _ _ _ _ (hK _ _ _ _ (hK _ _ _ _ (hK _ _ _ _ (?_))))
  exact la _ 0 _ _ rfl (Nat.zero_le _) rfl rfl
