theorem w64 {e : xB} {s t : Nat} (hw : wOK e) (ht : t < 8) : (wi e s t).toInt64 = Int64.ofNat (dW e s t) := by
  obtain ⟨h1, h2⟩ := wi_n (e := e) (s := s) hw ht
  rw [h1]
  exact Int32.toInt64_ofNat' (by rw [show Int32.maxValue.toInt = 2147483647 from by decide]; omega)
theorem woy_n {e : xB} {A : Nat → Nat} (hq : e.1 ∈ gP) (hw : wOK e) (hA : ∀ l, A l < e.1.2) : woy (e.1, (e.2.1, (e.2.2.1, (e.2.2.2.1, fun l => Int32.ofNat (A l))))) e.2.1.2.1 = Int64.ofNat (wNy e A e.2.1.2.1) := by
  have hq : (e.1.1, e.1.2) ∈ gP := hq
  obtain ⟨o2, o8, k3⟩ := gP_o hq
  have hr : (fun l => xn (Int32.ofNat (A l))) = A := funext (fun l => xn_o (Nat.lt_trans (hA l) (by omega)))
  have sx : ∀ y x a, wox (e.1, (e.2.1, (e.2.2.1, (e.2.2.2.1, fun l => Int32.ofNat (A l))))) y x (Int64.ofNat a) = Int64.ofNat (wNx e A y x a) := by
    intro y x
    induction x with
    | zero => exact fun _ => rfl
    | succ x ih =>
      intro a
      show wox (e.1, (e.2.1, (e.2.2.1, (e.2.2.2.1, fun l => Int32.ofNat (A l))))) y x (Int64.ofNat a) * (wi e (y * 4 + x) (rdv e.1.1 e.1.2 (fun l => xn (Int32.ofNat (A l))) e.2.1.1 e.2.1.2.1 e.2.1.2.2 x y)).toInt64 = Int64.ofNat (wNx e A y x a * dW e (y * 4 + x) (rdv e.1.1 e.1.2 A e.2.1.1 e.2.1.2.1 e.2.1.2.2 x y))
      rw [ih, hr, w64 hw (Nat.lt_of_lt_of_le (rdv_n hq hA) o8), Int64.ofNat_mul]
  have sy : ∀ y, woy (e.1, (e.2.1, (e.2.2.1, (e.2.2.2.1, fun l => Int32.ofNat (A l))))) y = Int64.ofNat (wNy e A y) := by
    intro y
    induction y with
    | zero => rfl
    | succ y ih =>
      show wox (e.1, (e.2.1, (e.2.2.1, (e.2.2.2.1, fun l => Int32.ofNat (A l))))) y e.2.1.1 (woy (e.1, (e.2.1, (e.2.2.1, (e.2.2.2.1, fun l => Int32.ofNat (A l))))) y) = Int64.ofNat (wNx e A y e.2.1.1 (wNy e A y))
      rw [ih, sx]
  exact sy _
/-- lines told by the row of free ones -/
def frM (w h s : Nat) (M : aM) : Nat → List Nat → Prop
  | _, [] => True
  | k, l :: r => M.1 46 0 k = Int32.ofNat (lm w h s l) ∧ frM w h s M (k + 1) r
theorem frM_f {w h s : Nat} {M M1 : aM} (hM : ∀ j, M1.1 46 0 j = M.1 46 0 j) : ∀ (r : List Nat) (k : Nat), frM w h s M k r → frM w h s M1 k r
  | [], _, _ => trivial
  | _ :: r, k, z => ⟨(hM k).trans z.1, frM_f hM r (k + 1) z.2⟩
/-- the other lines -/
def knM (w h s : Nat) (M : aM) (r : List Nat) (A : Nat → Nat) : Prop := ∀ l, l < 32 → hl w h s l = true → ¬ l ∈ r → M.1 37 0 (20 + lm w h s l) = Int32.ofNat (A l)
/-- what is left -/
def lfr (w h s : Nat) (r : List Nat) (M M1 : aM) : Prop := ∀ q i j, ¬ (q = 37 ∧ ∃ l, l ∈ r ∧ j = 20 + lm w h s l) → M1.1 q i j = M.1 q i j
theorem r_lists {nS : Nat} {e : xB} (hw : wOK e) : ∀ (r : List Nat) (d k : Nat) (M : aM) (A : Nat → Nat), rB 37 M e → (∀ l, A l < e.1.2) → (∀ l, l ∈ r → l < 32 ∧ hl e.2.1.1 e.2.1.2.1 e.2.1.2.2 l = true) → k + r.length ≤ 24 → frM e.2.1.1 e.2.1.2.1 e.2.1.2.2 M k r → M.1 36 0 23 = Int32.ofNat (k + r.length) → knM e.2.1.1 e.2.1.2.1 e.2.1.2.2 M r A → aC nS (d + 7 + r.length) 242 [vR 36 0, vI (Int32.ofNat k)] M (fun v M' => v = some (vL (Int64.ofNat (sov e.1.2 (fun A => wNy e A e.2.1.2.1) r A))) ∧ lfr e.2.1.1 e.2.1.2.1 e.2.1.2.2 r M M') (fun _ _ => False)
  | [], d, k, M, A, hB, hA, _, hk, _, hf, hn => by
    refine (?_ : aC nS (d + 7) _ _ _ _ _)
    refine aC_mk rfl rfl ?_
    intro K hK _
    have hB2 : rB 37 M (e.1, (e.2.1, (e.2.2.1, (e.2.2.2.1, fun l => Int32.ofNat (A l))))) := hB
    have hL2 : LL 37 M (e.1, (e.2.1, (e.2.2.1, (e.2.2.2.1, fun l => Int32.ofNat (A l))))) := ⟨fun l a b => hn l a b List.not_mem_nil, fun l _ _ => ⟨A l, hA l, rfl⟩⟩
    refine hK _ _ _ _ (hK _ _ _ _ (hK _ _ _ _ (hK _ _ _ _ (⟨fun h9 => ?_, fun h9 => ?_⟩))))
    · exact absurd hf.symm h9
    · refine hK _ _ _ _ (hK _ _ _ _ (⟨_, r_worth (d := d) hB2 hL2, rfl, fun v9 M9 g9 => ?_⟩))
      obtain ⟨rfl, rfl⟩ := g9
      refine hK _ _ _ _ (⟨?_, fun _ _ _ _ => rfl⟩)
      show some (vL (woy (e.1, (e.2.1, (e.2.2.1, (e.2.2.2.1, fun l => Int32.ofNat (A l))))) e.2.1.2.1)) = some (vL (Int64.ofNat (wNy e A e.2.1.2.1)))
      rw [woy_n hB.1 hw hA]
  | l :: r, d, k, M, A, hB, hA, hr, hk, hfr, hf, hn => by
    refine (?_ : aC nS (d + 7 + r.length + 1) _ _ _ _ _)
    have hk2 : k + (r.length + 1) ≤ 24 := hk
    obtain ⟨hl1, hfr2⟩ := hfr
    obtain ⟨l32, lv⟩ := hr l List.mem_cons_self
    have l24 := lm24 hB.2.1 l32 lv
    obtain ⟨w1, w3, h1, h3, s2⟩ := hB.2.1
    have ho := hB.2.2.1.2.1
    obtain ⟨o2, o8, k3⟩ := gP_o (k := e.1.1) (o := e.1.2) hB.1
    refine aC_mk rfl rfl ?_
    intro K hK _
    have lp : ∀ (m t : Nat) (S : Int64) (z : Int32) (M1 : aM), e.1.2 - t = m → t ≤ e.1.2 → S = Int64.ofNat (sln (fun t => sov e.1.2 (fun A => wNy e A e.2.1.2.1) r (updn A l t)) t) → z = Int32.ofNat t → lfr e.2.1.1 e.2.1.2.1 e.2.1.2.2 (l :: r) M M1 → K 18 [some (vR 36 0), some (vI (Int32.ofNat k)), some (vL S), none, some (vI z)] [] M1 := by
      intro m
      induction m with
      | zero =>
        intro t S z M1 hm ht hS hz f1
        subst hz
        refine hK _ _ _ _ (hK _ _ _ _ (hK _ _ _ _ (hK _ _ _ _ (hK _ _ _ _ (⟨x_vp (a := 2) rfl (by decide) (by decide), ?_⟩)))))
        rw [x_cl (j := 2) (a := 2) rfl (by decide), f1 37 0 2 (fun z => by obtain ⟨-, x, -, e9⟩ := z; omega), ho]
        refine hK _ _ _ _ (⟨fun h9 => ?_, fun h9 => ?_⟩)
        · exact hK _ _ _ _ (hK _ _ _ _ (⟨by rw [hS, show t = e.1.2 by omega]; rfl, f1⟩))
        · exact absurd (x_nge (x := t) (y := e.1.2) rfl rfl (by omega) (by omega) h9) (by omega)
      | succ m ih =>
        intro t S z M1 hm ht hS hz f1
        subst hz
        have hto : t < e.1.2 := by omega
        refine hK _ _ _ _ (hK _ _ _ _ (hK _ _ _ _ (hK _ _ _ _ (hK _ _ _ _ (⟨x_vp (a := 2) rfl (by decide) (by decide), ?_⟩)))))
        rw [x_cl (j := 2) (a := 2) rfl (by decide), f1 37 0 2 (fun z => by obtain ⟨-, x, -, e9⟩ := z; omega), ho]
        refine hK _ _ _ _ (⟨fun h9 => ?_, fun h9 => ?_⟩)
        · exact absurd (x_ge (x := t) (y := e.1.2) rfl rfl (by omega) (by omega) h9) (by omega)
        refine hK _ _ _ _ (hK _ _ _ _ (hK _ _ _ _ (hK _ _ _ _ (hK _ _ _ _ (hK _ _ _ _ (hK _ _ _ _ (⟨x_vp (a := k) rfl (show k < 24 by omega) (by decide), ?_⟩)))))))
        rw [x_cl (j := Int32.ofNat k) (a := k) rfl (by omega), f1 46 0 k (fun z => absurd z.1 (by decide)), hl1]
        refine hK _ _ _ _ (hK _ _ _ _ (hK _ _ _ _ (⟨x_vp (a := 20 + lm e.2.1.1 e.2.1.2.1 e.2.1.2.2 l) x_20b (by omega) (by decide), ?_⟩)))
        rw [x_cl (x_20b (c := lm e.2.1.1 e.2.1.2.1 e.2.1.2.2 l)) (by omega)]
        have g1 : ∀ q i j, ¬ q = 37 → (a_pI M1 37 0 (20 + lm e.2.1.1 e.2.1.2.1 e.2.1.2.2 l) (Int32.ofNat t)).1 q i j = M.1 q i j := fun q i j hq => (x_pn (fun z => hq z.1)).trans (f1 q i j (fun z => hq z.1))
        have hc := r_lists (nS := nS) hw r d (k + 1) (a_pI M1 37 0 (20 + lm e.2.1.1 e.2.1.2.1 e.2.1.2.2 l) (Int32.ofNat t)) (updn A l t) (rB_fr hB (fun j _ p _ _ => (x_pn (fun z => by have := z.2.2; omega)).trans (f1 37 0 j (fun z => by obtain ⟨-, x, -, e9⟩ := z; omega)))) (updn_lt hA hto) (fun x hx => hr x (List.mem_cons_of_mem l hx)) (by omega) (frM_f (fun j => g1 46 0 j (by decide)) r (k + 1) hfr2) ((g1 36 0 23 (by decide)).trans (hf.trans (congrArg Int32.ofNat (show k + (r.length + 1) = k + 1 + r.length by omega)))) (fun x x32 xv hx => by
          by_cases e9 : x = l
          · rw [e9, x_pe, show updn A l t l = t from if_pos rfl]
          · have hx2 : ¬ x ∈ l :: r := fun z => by
              rcases List.mem_cons.mp z with z | z
              · exact e9 z
              · exact hx z
            rw [show updn A l t x = A x from if_neg e9, x_pn (fun z => e9 (lm_inj w1 w3 h1 h3 s2 x32 l32 xv lv (by have := z.2.2; omega))), f1 37 0 _ (fun z => by
              obtain ⟨-, y, z2, z3⟩ := z
              obtain ⟨y32, yv⟩ := hr y z2
              have e8 := lm_inj w1 w3 h1 h3 s2 x32 y32 xv yv (by omega)
              rw [e8] at hx2
              exact hx2 z2)]
            exact hn x x32 xv hx2)
        rw [← hI_s (a := k)] at hc
        refine hK _ _ _ _ (hK _ _ _ _ (hK _ _ _ _ (hK _ _ _ _ (hK _ _ _ _ (hK _ _ _ _ (⟨_, hc, rfl, fun v50 M50 g50 => ?_⟩))))))
        obtain ⟨rfl, f2⟩ := g50
        refine hK _ _ _ _ (hK _ _ _ _ (hK _ _ _ _ (hK _ _ _ _ (?_))))
        refine ih (t + 1) _ _ _ (by omega) (by omega) ?_ hI_s (fun q i j hq => ?_)
        · rw [hS]
          exact (Int64.ofNat_add _ _).symm
        · refine (f2 q i j (fun z => hq ?_)).trans ((x_pn (fun z => hq ?_)).trans (f1 q i j hq))
          · obtain ⟨z1, x, z2, z3⟩ := z
            exact ⟨z1, x, List.mem_cons_of_mem l z2, z3⟩
          · exact ⟨z.1, l, List.mem_cons_self, z.2.2⟩
    refine hK _ _ _ _ (hK _ _ _ _ (hK _ _ _ _ (hK _ _ _ _ (⟨fun h9 => ?_, fun h9 => ?_⟩))))
    · refine hK _ _ _ _ (hK _ _ _ _ (hK _ _ _ _ (hK _ _ _ _ (?_))))
      exact lp _ 0 _ _ _ rfl (Nat.zero_le _) rfl rfl (fun _ _ _ _ => rfl)
    · rw [hf] at h9
      have h8 := x_inj (x := k) (y := k + (l :: r).length) (by omega) (by show k + (r.length + 1) < 2147483648; omega) h9
      have h8 : k = k + (r.length + 1) := h8
      omega
theorem r_freesX {nS w h s : Nat} {M : aM} (hT : z_MT (zTb, [], []) M) (hs : rS M w h s) (w1 : 1 ≤ w) (w3 : w ≤ 3) (h1 : 1 ≤ h) (h3 : h ≤ 3) (s2 : s ≤ 2) (h4 : w * h ≤ 4) : aC nS 59 241 [vR 36 0] M (fun v M' => v = none ∧ z_M (zTb, [(45, 0, 15), (46, 0, 23), (36, 23, 23)], []) M [] M' ∧ M'.1 36 0 23 = Int32.ofNat (frl w h s).length ∧ frM w h s M' 0 (frl w h s)) (fun _ _ => False) := by
  rcases (show w = 1 ∨ w = 2 ∨ w = 3 by omega) with rfl | rfl | rfl <;> rcases (show h = 1 ∨ h = 2 ∨ h = 3 by omega) with rfl | rfl | rfl <;> rcases (show s = 0 ∨ s = 1 ∨ s = 2 by omega) with rfl | rfl | rfl
  · exact aC_post (h_one hct_frees_1_1_0 rfl (show (4 : Nat) ≤ 59 by decide) (h_R trivial) hT (h_G1 (k := 37) (j := 3) (by decide) (by decide) rfl hs.1 (h_G1 (k := 37) (j := 4) (by decide) (by decide) rfl hs.2.1 (h_G1 (k := 37) (j := 5) (by decide) (by decide) rfl hs.2.2 h_MG0)))) (fun v M' z => ⟨h_ovN z.1, h_Md z.2, h_celN (k := 36) (j := 23) (D := 1) z.2 (by decide) (by decide) rfl (by decide +kernel), (by rw [show frl 1 1 0 = [8] from by decide]; exact ⟨h_celN (k := 46) (j := 0) (D := 1) z.2 (by decide) (by decide) rfl (by decide +kernel), trivial⟩)⟩) (fun _ _ z => z)
  · exact aC_post (h_one hct_frees_1_1_1 rfl (show (4 : Nat) ≤ 59 by decide) (h_R trivial) hT (h_G1 (k := 37) (j := 3) (by decide) (by decide) rfl hs.1 (h_G1 (k := 37) (j := 4) (by decide) (by decide) rfl hs.2.1 (h_G1 (k := 37) (j := 5) (by decide) (by decide) rfl hs.2.2 h_MG0)))) (fun v M' z => ⟨h_ovN z.1, h_Md z.2, h_celN (k := 36) (j := 23) (D := 2) z.2 (by decide) (by decide) rfl (by decide +kernel), (by rw [show frl 1 1 1 = [0, 8] from by decide]; exact ⟨h_celN (k := 46) (j := 0) (D := 0) z.2 (by decide) (by decide) rfl (by decide +kernel), ⟨h_celN (k := 46) (j := 1) (D := 1) z.2 (by decide) (by decide) rfl (by decide +kernel), trivial⟩⟩)⟩) (fun _ _ z => z)
  · exact aC_post (h_one hct_frees_1_1_2 rfl (show (4 : Nat) ≤ 59 by decide) (h_R trivial) hT (h_G1 (k := 37) (j := 3) (by decide) (by decide) rfl hs.1 (h_G1 (k := 37) (j := 4) (by decide) (by decide) rfl hs.2.1 (h_G1 (k := 37) (j := 5) (by decide) (by decide) rfl hs.2.2 h_MG0)))) (fun v M' z => ⟨h_ovN z.1, h_Md z.2, h_celN (k := 36) (j := 23) (D := 2) z.2 (by decide) (by decide) rfl (by decide +kernel), (by rw [show frl 1 1 2 = [0, 1] from by decide]; exact ⟨h_celN (k := 46) (j := 0) (D := 0) z.2 (by decide) (by decide) rfl (by decide +kernel), ⟨h_celN (k := 46) (j := 1) (D := 1) z.2 (by decide) (by decide) rfl (by decide +kernel), trivial⟩⟩)⟩) (fun _ _ z => z)
  · exact aC_post (h_one hct_frees_1_2_0 rfl (show (4 : Nat) ≤ 59 by decide) (h_R trivial) hT (h_G1 (k := 37) (j := 3) (by decide) (by decide) rfl hs.1 (h_G1 (k := 37) (j := 4) (by decide) (by decide) rfl hs.2.1 (h_G1 (k := 37) (j := 5) (by decide) (by decide) rfl hs.2.2 h_MG0)))) (fun v M' z => ⟨h_ovN z.1, h_Md z.2, h_celN (k := 36) (j := 23) (D := 2) z.2 (by decide) (by decide) rfl (by decide +kernel), (by rw [show frl 1 2 0 = [8, 16] from by decide]; exact ⟨h_celN (k := 46) (j := 0) (D := 1) z.2 (by decide) (by decide) rfl (by decide +kernel), ⟨h_celN (k := 46) (j := 1) (D := 2) z.2 (by decide) (by decide) rfl (by decide +kernel), trivial⟩⟩)⟩) (fun _ _ z => z)
  · exact aC_post (h_one hct_frees_1_2_1 rfl (show (4 : Nat) ≤ 59 by decide) (h_R trivial) hT (h_G1 (k := 37) (j := 3) (by decide) (by decide) rfl hs.1 (h_G1 (k := 37) (j := 4) (by decide) (by decide) rfl hs.2.1 (h_G1 (k := 37) (j := 5) (by decide) (by decide) rfl hs.2.2 h_MG0)))) (fun v M' z => ⟨h_ovN z.1, h_Md z.2, h_celN (k := 36) (j := 23) (D := 3) z.2 (by decide) (by decide) rfl (by decide +kernel), (by rw [show frl 1 2 1 = [0, 8, 16] from by decide]; exact ⟨h_celN (k := 46) (j := 0) (D := 0) z.2 (by decide) (by decide) rfl (by decide +kernel), ⟨h_celN (k := 46) (j := 1) (D := 1) z.2 (by decide) (by decide) rfl (by decide +kernel), ⟨h_celN (k := 46) (j := 2) (D := 2) z.2 (by decide) (by decide) rfl (by decide +kernel), trivial⟩⟩⟩)⟩) (fun _ _ z => z)
  · exact aC_post (h_one hct_frees_1_2_2 rfl (show (4 : Nat) ≤ 59 by decide) (h_R trivial) hT (h_G1 (k := 37) (j := 3) (by decide) (by decide) rfl hs.1 (h_G1 (k := 37) (j := 4) (by decide) (by decide) rfl hs.2.1 (h_G1 (k := 37) (j := 5) (by decide) (by decide) rfl hs.2.2 h_MG0)))) (fun v M' z => ⟨h_ovN z.1, h_Md z.2, h_celN (k := 36) (j := 23) (D := 3) z.2 (by decide) (by decide) rfl (by decide +kernel), (by rw [show frl 1 2 2 = [0, 8, 9] from by decide]; exact ⟨h_celN (k := 46) (j := 0) (D := 0) z.2 (by decide) (by decide) rfl (by decide +kernel), ⟨h_celN (k := 46) (j := 1) (D := 1) z.2 (by decide) (by decide) rfl (by decide +kernel), ⟨h_celN (k := 46) (j := 2) (D := 3) z.2 (by decide) (by decide) rfl (by decide +kernel), trivial⟩⟩⟩)⟩) (fun _ _ z => z)
  · exact aC_post (h_one hct_frees_1_3_0 rfl (show (4 : Nat) ≤ 59 by decide) (h_R trivial) hT (h_G1 (k := 37) (j := 3) (by decide) (by decide) rfl hs.1 (h_G1 (k := 37) (j := 4) (by decide) (by decide) rfl hs.2.1 (h_G1 (k := 37) (j := 5) (by decide) (by decide) rfl hs.2.2 h_MG0)))) (fun v M' z => ⟨h_ovN z.1, h_Md z.2, h_celN (k := 36) (j := 23) (D := 3) z.2 (by decide) (by decide) rfl (by decide +kernel), (by rw [show frl 1 3 0 = [8, 16, 24] from by decide]; exact ⟨h_celN (k := 46) (j := 0) (D := 1) z.2 (by decide) (by decide) rfl (by decide +kernel), ⟨h_celN (k := 46) (j := 1) (D := 2) z.2 (by decide) (by decide) rfl (by decide +kernel), ⟨h_celN (k := 46) (j := 2) (D := 3) z.2 (by decide) (by decide) rfl (by decide +kernel), trivial⟩⟩⟩)⟩) (fun _ _ z => z)
  · exact aC_post (h_one hct_frees_1_3_1 rfl (show (4 : Nat) ≤ 59 by decide) (h_R trivial) hT (h_G1 (k := 37) (j := 3) (by decide) (by decide) rfl hs.1 (h_G1 (k := 37) (j := 4) (by decide) (by decide) rfl hs.2.1 (h_G1 (k := 37) (j := 5) (by decide) (by decide) rfl hs.2.2 h_MG0)))) (fun v M' z => ⟨h_ovN z.1, h_Md z.2, h_celN (k := 36) (j := 23) (D := 4) z.2 (by decide) (by decide) rfl (by decide +kernel), (by rw [show frl 1 3 1 = [0, 8, 16, 24] from by decide]; exact ⟨h_celN (k := 46) (j := 0) (D := 0) z.2 (by decide) (by decide) rfl (by decide +kernel), ⟨h_celN (k := 46) (j := 1) (D := 1) z.2 (by decide) (by decide) rfl (by decide +kernel), ⟨h_celN (k := 46) (j := 2) (D := 2) z.2 (by decide) (by decide) rfl (by decide +kernel), ⟨h_celN (k := 46) (j := 3) (D := 3) z.2 (by decide) (by decide) rfl (by decide +kernel), trivial⟩⟩⟩⟩)⟩) (fun _ _ z => z)
  · exact aC_post (h_one hct_frees_1_3_2 rfl (show (4 : Nat) ≤ 59 by decide) (h_R trivial) hT (h_G1 (k := 37) (j := 3) (by decide) (by decide) rfl hs.1 (h_G1 (k := 37) (j := 4) (by decide) (by decide) rfl hs.2.1 (h_G1 (k := 37) (j := 5) (by decide) (by decide) rfl hs.2.2 h_MG0)))) (fun v M' z => ⟨h_ovN z.1, h_Md z.2, h_celN (k := 36) (j := 23) (D := 4) z.2 (by decide) (by decide) rfl (by decide +kernel), (by rw [show frl 1 3 2 = [0, 8, 16, 17] from by decide]; exact ⟨h_celN (k := 46) (j := 0) (D := 0) z.2 (by decide) (by decide) rfl (by decide +kernel), ⟨h_celN (k := 46) (j := 1) (D := 1) z.2 (by decide) (by decide) rfl (by decide +kernel), ⟨h_celN (k := 46) (j := 2) (D := 2) z.2 (by decide) (by decide) rfl (by decide +kernel), ⟨h_celN (k := 46) (j := 3) (D := 5) z.2 (by decide) (by decide) rfl (by decide +kernel), trivial⟩⟩⟩⟩)⟩) (fun _ _ z => z)
  · exact aC_post (h_one hct_frees_2_1_0 rfl (show (4 : Nat) ≤ 59 by decide) (h_R trivial) hT (h_G1 (k := 37) (j := 3) (by decide) (by decide) rfl hs.1 (h_G1 (k := 37) (j := 4) (by decide) (by decide) rfl hs.2.1 (h_G1 (k := 37) (j := 5) (by decide) (by decide) rfl hs.2.2 h_MG0)))) (fun v M' z => ⟨h_ovN z.1, h_Md z.2, h_celN (k := 36) (j := 23) (D := 2) z.2 (by decide) (by decide) rfl (by decide +kernel), (by rw [show frl 2 1 0 = [8, 10] from by decide]; exact ⟨h_celN (k := 46) (j := 0) (D := 2) z.2 (by decide) (by decide) rfl (by decide +kernel), ⟨h_celN (k := 46) (j := 1) (D := 3) z.2 (by decide) (by decide) rfl (by decide +kernel), trivial⟩⟩)⟩) (fun _ _ z => z)
  · exact aC_post (h_one hct_frees_2_1_1 rfl (show (4 : Nat) ≤ 59 by decide) (h_R trivial) hT (h_G1 (k := 37) (j := 3) (by decide) (by decide) rfl hs.1 (h_G1 (k := 37) (j := 4) (by decide) (by decide) rfl hs.2.1 (h_G1 (k := 37) (j := 5) (by decide) (by decide) rfl hs.2.2 h_MG0)))) (fun v M' z => ⟨h_ovN z.1, h_Md z.2, h_celN (k := 36) (j := 23) (D := 3) z.2 (by decide) (by decide) rfl (by decide +kernel), (by rw [show frl 2 1 1 = [2, 8, 10] from by decide]; exact ⟨h_celN (k := 46) (j := 0) (D := 1) z.2 (by decide) (by decide) rfl (by decide +kernel), ⟨h_celN (k := 46) (j := 1) (D := 2) z.2 (by decide) (by decide) rfl (by decide +kernel), ⟨h_celN (k := 46) (j := 2) (D := 3) z.2 (by decide) (by decide) rfl (by decide +kernel), trivial⟩⟩⟩)⟩) (fun _ _ z => z)
  · exact aC_post (h_one hct_frees_2_1_2 rfl (show (4 : Nat) ≤ 59 by decide) (h_R trivial) hT (h_G1 (k := 37) (j := 3) (by decide) (by decide) rfl hs.1 (h_G1 (k := 37) (j := 4) (by decide) (by decide) rfl hs.2.1 (h_G1 (k := 37) (j := 5) (by decide) (by decide) rfl hs.2.2 h_MG0)))) (fun v M' z => ⟨h_ovN z.1, h_Md z.2, h_celN (k := 36) (j := 23) (D := 3) z.2 (by decide) (by decide) rfl (by decide +kernel), (by rw [show frl 2 1 2 = [2, 1, 3] from by decide]; exact ⟨h_celN (k := 46) (j := 0) (D := 1) z.2 (by decide) (by decide) rfl (by decide +kernel), ⟨h_celN (k := 46) (j := 1) (D := 2) z.2 (by decide) (by decide) rfl (by decide +kernel), ⟨h_celN (k := 46) (j := 2) (D := 3) z.2 (by decide) (by decide) rfl (by decide +kernel), trivial⟩⟩⟩)⟩) (fun _ _ z => z)
  · exact aC_post (h_one hct_frees_2_2_0 rfl (show (4 : Nat) ≤ 59 by decide) (h_R trivial) hT (h_G1 (k := 37) (j := 3) (by decide) (by decide) rfl hs.1 (h_G1 (k := 37) (j := 4) (by decide) (by decide) rfl hs.2.1 (h_G1 (k := 37) (j := 5) (by decide) (by decide) rfl hs.2.2 h_MG0)))) (fun v M' z => ⟨h_ovN z.1, h_Md z.2, h_celN (k := 36) (j := 23) (D := 4) z.2 (by decide) (by decide) rfl (by decide +kernel), (by rw [show frl 2 2 0 = [8, 10, 16, 18] from by decide]; exact ⟨h_celN (k := 46) (j := 0) (D := 2) z.2 (by decide) (by decide) rfl (by decide +kernel), ⟨h_celN (k := 46) (j := 1) (D := 3) z.2 (by decide) (by decide) rfl (by decide +kernel), ⟨h_celN (k := 46) (j := 2) (D := 4) z.2 (by decide) (by decide) rfl (by decide +kernel), ⟨h_celN (k := 46) (j := 3) (D := 5) z.2 (by decide) (by decide) rfl (by decide +kernel), trivial⟩⟩⟩⟩)⟩) (fun _ _ z => z)
  · exact aC_post (h_one hct_frees_2_2_1 rfl (show (4 : Nat) ≤ 59 by decide) (h_R trivial) hT (h_G1 (k := 37) (j := 3) (by decide) (by decide) rfl hs.1 (h_G1 (k := 37) (j := 4) (by decide) (by decide) rfl hs.2.1 (h_G1 (k := 37) (j := 5) (by decide) (by decide) rfl hs.2.2 h_MG0)))) (fun v M' z => ⟨h_ovN z.1, h_Md z.2, h_celN (k := 36) (j := 23) (D := 5) z.2 (by decide) (by decide) rfl (by decide +kernel), (by rw [show frl 2 2 1 = [2, 8, 10, 16, 18] from by decide]; exact ⟨h_celN (k := 46) (j := 0) (D := 1) z.2 (by decide) (by decide) rfl (by decide +kernel), ⟨h_celN (k := 46) (j := 1) (D := 2) z.2 (by decide) (by decide) rfl (by decide +kernel), ⟨h_celN (k := 46) (j := 2) (D := 3) z.2 (by decide) (by decide) rfl (by decide +kernel), ⟨h_celN (k := 46) (j := 3) (D := 4) z.2 (by decide) (by decide) rfl (by decide +kernel), ⟨h_celN (k := 46) (j := 4) (D := 5) z.2 (by decide) (by decide) rfl (by decide +kernel), trivial⟩⟩⟩⟩⟩)⟩) (fun _ _ z => z)
  · exact aC_post (h_one hct_frees_2_2_2 rfl (show (4 : Nat) ≤ 59 by decide) (h_R trivial) hT (h_G1 (k := 37) (j := 3) (by decide) (by decide) rfl hs.1 (h_G1 (k := 37) (j := 4) (by decide) (by decide) rfl hs.2.1 (h_G1 (k := 37) (j := 5) (by decide) (by decide) rfl hs.2.2 h_MG0)))) (fun v M' z => ⟨h_ovN z.1, h_Md z.2, h_celN (k := 36) (j := 23) (D := 5) z.2 (by decide) (by decide) rfl (by decide +kernel), (by rw [show frl 2 2 2 = [2, 8, 10, 9, 11] from by decide]; exact ⟨h_celN (k := 46) (j := 0) (D := 1) z.2 (by decide) (by decide) rfl (by decide +kernel), ⟨h_celN (k := 46) (j := 1) (D := 2) z.2 (by decide) (by decide) rfl (by decide +kernel), ⟨h_celN (k := 46) (j := 2) (D := 3) z.2 (by decide) (by decide) rfl (by decide +kernel), ⟨h_celN (k := 46) (j := 3) (D := 6) z.2 (by decide) (by decide) rfl (by decide +kernel), ⟨h_celN (k := 46) (j := 4) (D := 7) z.2 (by decide) (by decide) rfl (by decide +kernel), trivial⟩⟩⟩⟩⟩)⟩) (fun _ _ z => z)
  · exact absurd h4 (by decide)
  · exact absurd h4 (by decide)
  · exact absurd h4 (by decide)
  · exact aC_post (h_one hct_frees_3_1_0 rfl (show (4 : Nat) ≤ 59 by decide) (h_R trivial) hT (h_G1 (k := 37) (j := 3) (by decide) (by decide) rfl hs.1 (h_G1 (k := 37) (j := 4) (by decide) (by decide) rfl hs.2.1 (h_G1 (k := 37) (j := 5) (by decide) (by decide) rfl hs.2.2 h_MG0)))) (fun v M' z => ⟨h_ovN z.1, h_Md z.2, h_celN (k := 36) (j := 23) (D := 3) z.2 (by decide) (by decide) rfl (by decide +kernel), (by rw [show frl 3 1 0 = [8, 10, 12] from by decide]; exact ⟨h_celN (k := 46) (j := 0) (D := 3) z.2 (by decide) (by decide) rfl (by decide +kernel), ⟨h_celN (k := 46) (j := 1) (D := 4) z.2 (by decide) (by decide) rfl (by decide +kernel), ⟨h_celN (k := 46) (j := 2) (D := 5) z.2 (by decide) (by decide) rfl (by decide +kernel), trivial⟩⟩⟩)⟩) (fun _ _ z => z)
  · exact aC_post (h_one hct_frees_3_1_1 rfl (show (4 : Nat) ≤ 59 by decide) (h_R trivial) hT (h_G1 (k := 37) (j := 3) (by decide) (by decide) rfl hs.1 (h_G1 (k := 37) (j := 4) (by decide) (by decide) rfl hs.2.1 (h_G1 (k := 37) (j := 5) (by decide) (by decide) rfl hs.2.2 h_MG0)))) (fun v M' z => ⟨h_ovN z.1, h_Md z.2, h_celN (k := 36) (j := 23) (D := 4) z.2 (by decide) (by decide) rfl (by decide +kernel), (by rw [show frl 3 1 1 = [4, 8, 10, 12] from by decide]; exact ⟨h_celN (k := 46) (j := 0) (D := 2) z.2 (by decide) (by decide) rfl (by decide +kernel), ⟨h_celN (k := 46) (j := 1) (D := 3) z.2 (by decide) (by decide) rfl (by decide +kernel), ⟨h_celN (k := 46) (j := 2) (D := 4) z.2 (by decide) (by decide) rfl (by decide +kernel), ⟨h_celN (k := 46) (j := 3) (D := 5) z.2 (by decide) (by decide) rfl (by decide +kernel), trivial⟩⟩⟩⟩)⟩) (fun _ _ z => z)
  · exact aC_post (h_one hct_frees_3_1_2 rfl (show (4 : Nat) ≤ 59 by decide) (h_R trivial) hT (h_G1 (k := 37) (j := 3) (by decide) (by decide) rfl hs.1 (h_G1 (k := 37) (j := 4) (by decide) (by decide) rfl hs.2.1 (h_G1 (k := 37) (j := 5) (by decide) (by decide) rfl hs.2.2 h_MG0)))) (fun v M' z => ⟨h_ovN z.1, h_Md z.2, h_celN (k := 36) (j := 23) (D := 4) z.2 (by decide) (by decide) rfl (by decide +kernel), (by rw [show frl 3 1 2 = [4, 1, 3, 5] from by decide]; exact ⟨h_celN (k := 46) (j := 0) (D := 2) z.2 (by decide) (by decide) rfl (by decide +kernel), ⟨h_celN (k := 46) (j := 1) (D := 3) z.2 (by decide) (by decide) rfl (by decide +kernel), ⟨h_celN (k := 46) (j := 2) (D := 4) z.2 (by decide) (by decide) rfl (by decide +kernel), ⟨h_celN (k := 46) (j := 3) (D := 5) z.2 (by decide) (by decide) rfl (by decide +kernel), trivial⟩⟩⟩⟩)⟩) (fun _ _ z => z)
  · exact absurd h4 (by decide)
  · exact absurd h4 (by decide)
  · exact absurd h4 (by decide)
  · exact absurd h4 (by decide)
  · exact absurd h4 (by decide)
  · exact absurd h4 (by decide)
theorem frl_c {w h s : Nat} (w1 : 1 ≤ w) (w3 : w ≤ 3) (h1 : 1 ≤ h) (h3 : h ≤ 3) (s2 : s ≤ 2) : (frl w h s).length ≤ 5 ∧ ∀ l, l ∈ frl w h s → l < 32 ∧ hl w h s l = true := by
  have t := sz_all (P := fun w h s => Nat.ble (frl w h s).length 5 && (frl w h s).all (fun l => Nat.blt l 32 && hl w h s l)) (by decide +kernel) w1 w3 h1 h3 s2
  rw [Bool.and_eq_true] at t
  refine ⟨Nat.le_of_ble_eq_true t.1, fun l hz => ?_⟩
  have t2 := List.all_eq_true.mp t.2 l hz
  rw [Bool.and_eq_true] at t2
  exact ⟨Nat.le_of_ble_eq_true t2.1, t2.2⟩
theorem r_listedX {nS : Nat} {M : aM} {e : xB} (hT : z_MT (zTb, [], []) M) (hB : rB 37 M e) (hw : wOK e) : aC nS 60 243 [vR 36 0] M (fun v M' => (4 < e.2.1.1 * e.2.1.2.1 ∧ v = some (vL 0) ∧ M'.1 36 0 0 = 1) ∨ (e.2.1.1 * e.2.1.2.1 ≤ 4 ∧ v = some (vL (lsv e (frl e.2.1.1 e.2.1.2.1 e.2.1.2.2))) ∧ M'.1 36 0 0 = 0)) (fun _ _ => False) := by
  obtain ⟨ho, o2, o8, hs, w1, w3, h1, h3, s2⟩ := rB_h hB
  have m9 : e.2.1.1 * e.2.1.2.1 ≤ 3 * 3 := Nat.mul_le_mul w3 h3
  refine aC_mk rfl rfl ?_
  intro K hK _
  refine hK _ _ _ _ (hK _ _ _ _ (hK _ _ _ _ (hK _ _ _ _ (hK _ _ _ _ (⟨x_vp (a := 3) rfl (by decide) (by decide), ?_⟩)))))
  rw [x_cl (j := 3) (a := 3) rfl (by decide), hs.1]
  refine hK _ _ _ _ (hK _ _ _ _ (hK _ _ _ _ (hK _ _ _ _ (⟨x_vp (a := 4) rfl (by decide) (by decide), ?_⟩))))
  rw [x_cl (j := 4) (a := 4) rfl (by decide), hs.2.1]
  refine hK _ _ _ _ (hK _ _ _ _ (?_))
  rw [x_mul (by omega) (by omega)]
  refine hK _ _ _ _ (⟨fun h9 => ?_, fun h9 => ?_⟩)
  · have h4 := (hI_le (a := e.2.1.1 * e.2.1.2.1) (b := 4) (by omega) (by decide)).mp h9
    clear h9
    refine hK _ _ _ _ (hK _ _ _ _ (hK _ _ _ _ (hK _ _ _ _ (hK _ _ _ _ (⟨fun h9 => ?_, fun h9 => ?_⟩)))))
    · obtain ⟨f5, fC⟩ := frl_c w1 w3 h1 h3 s2
      obtain ⟨T0, hT0⟩ : ∃ T0, T0 = a_pI M 36 0 0 0 := ⟨_, rfl⟩
      have hTT : z_MT (zTb, [], []) T0 := by
        rw [hT0]
        have thr : z_M (zTb, [(36, 0, 0)], []) M [] (a_pI M 36 0 0 0) := h_Mp (v := (0, 4294967295)) (h_M0 hT) (by decide) (z_i_top _)
        exact thr.1
      have t0 : T0.1 36 0 0 = 0 := by
        rw [hT0]
        exact x_pe
      have c0 : ∀ j, T0.1 37 0 j = M.1 37 0 j := fun j => by
        rw [hT0]
        exact x_pn (fun z => absurd z.1 (by decide))
      rw [← hT0]
      have rT : rS T0 e.2.1.1 e.2.1.2.1 e.2.1.2.2 := ⟨(c0 3).trans hs.1, (c0 4).trans hs.2.1, (c0 5).trans hs.2.2⟩
      refine hK _ _ _ _ (hK _ _ _ _ (⟨_, r_freesX hTT rT w1 w3 h1 h3 s2 h4, rfl, fun v36 M36 g36 => ?_⟩))
      obtain ⟨rfl, gM, gf, gr⟩ := g36
      have F36 : ∀ j, M36.1 37 0 j = M.1 37 0 j := fun j => (gM.2.1 37 0 j rfl).1.trans (c0 j)
      have F0 : M36.1 36 0 0 = 0 := (gM.2.1 36 0 0 rfl).1.trans t0
      have l2 : ∀ (m c : Nat) (y : Int32) (x : Int64) (M1 : aM), 24 - c = m → c ≤ 24 → y = Int32.ofNat c → M1.1 36 0 0 = 0 → x = lsv e (frl e.2.1.1 e.2.1.2.1 e.2.1.2.2) → K 89 [some (vR 36 0), some (vL x), none, some (vI y)] [] M1 := by
        intro m
        induction m with
        | zero =>
          intro c y x M1 hm hc hy t1 hx
          subst hy
          refine hK _ _ _ _ (hK _ _ _ _ (hK _ _ _ _ (⟨fun h9 => ?_, fun h9 => ?_⟩)))
          · exact hK _ _ _ _ (hK _ _ _ _ (Or.inr ⟨h4, by rw [hx], t1⟩))
          · exact absurd (x_nge (x := c) (y := 24) rfl rfl (by omega) (by decide) h9) (by omega)
        | succ m ih =>
          intro c y x M1 hm hc hy t1 hx
          subst hy
          refine hK _ _ _ _ (hK _ _ _ _ (hK _ _ _ _ (⟨fun h9 => ?_, fun h9 => ?_⟩)))
          · exact absurd (x_ge (x := c) (y := 24) rfl rfl (by omega) (by decide) h9) (by omega)
          · refine hK _ _ _ _ (hK _ _ _ _ (hK _ _ _ _ (hK _ _ _ _ (hK _ _ _ _ (hK _ _ _ _ (hK _ _ _ _ (hK _ _ _ _ (hK _ _ _ _ (hK _ _ _ _ (hK _ _ _ _ (⟨x_vp (a := 20 + c) (show (20 : Int32) + Int32.ofNat c = Int32.ofNat (20 + c) from hI_ad (a := 20)) (by omega) (by decide), ?_⟩)))))))))))
            rw [x_cl (show (20 : Int32) + Int32.ofNat c = Int32.ofNat (20 + c) from hI_ad (a := 20)) (by omega)]
            refine hK _ _ _ _ (⟨x_vp (a := 20 + c) (show (20 : Int32) + Int32.ofNat c = Int32.ofNat (20 + c) from hI_ad (a := 20)) (by omega) (by decide), ?_⟩)
            rw [x_cl (show (20 : Int32) + Int32.ofNat c = Int32.ofNat (20 + c) from hI_ad (a := 20)) (by omega)]
            refine hK _ _ _ _ (hK _ _ _ _ (?_))
            exact ih (c + 1) _ _ _ (by omega) (by omega) hI_s ((x_pn (fun z => absurd z.1 (by decide))).trans t1) hx
      have l1 : ∀ (m c : Nat) (y : Int32) (M1 : aM), 24 - c = m → c ≤ 24 → y = Int32.ofNat c → (∀ q i j, ¬ q = 39 → ¬ (q = 37 ∧ 20 ≤ j) → M1.1 q i j = M36.1 q i j) → (∀ c2, c2 < c → M1.1 37 0 (20 + c2) = 0) → K 41 [some (vR 36 0), some (vI y), none, none] [] M1 := by
        intro m
        induction m with
        | zero =>
          intro c y M1 hm hc hy hM h0
          subst hy
          refine hK _ _ _ _ (hK _ _ _ _ (hK _ _ _ _ (⟨fun h9 => ?_, fun h9 => ?_⟩)))
          · have hl9 := r_lists (nS := nS) hw (frl e.2.1.1 e.2.1.2.1 e.2.1.2.2) (52 - (frl e.2.1.1 e.2.1.2.1 e.2.1.2.2).length) 0 M1 (fun _ => 0) (rB_fr hB (fun j _ p _ _ => (hM 37 0 j (by decide) (by omega)).trans (F36 j))) (fun _ => by omega) fC (by omega) (frM_f (fun j => hM 46 0 j (by decide) (by omega)) _ _ gr) ((hM 36 0 23 (by decide) (by omega)).trans (gf.trans (congrArg Int32.ofNat (Nat.zero_add _).symm))) (fun l l32 lv _ => h0 _ (Nat.lt_of_lt_of_le (lm24 hB.2.1 l32 lv) (by omega)))
            rw [show 52 - (frl e.2.1.1 e.2.1.2.1 e.2.1.2.2).length + 7 + (frl e.2.1.1 e.2.1.2.1 e.2.1.2.2).length = 59 by omega] at hl9
            refine hK _ _ _ _ (hK _ _ _ _ (hK _ _ _ _ (⟨_, hl9, rfl, fun v83 M83 g83 => ?_⟩)))
            obtain ⟨rfl, f2⟩ := g83
            refine hK _ _ _ _ (hK _ _ _ _ (hK _ _ _ _ (?_)))
            exact l2 _ 0 _ _ _ rfl (Nat.zero_le _) rfl ((f2 36 0 0 (fun z => absurd z.1 (by decide))).trans ((hM 36 0 0 (by decide) (by omega)).trans F0)) rfl
          · exact absurd (x_nge (x := c) (y := 24) rfl rfl (by omega) (by decide) h9) (by omega)
        | succ m ih =>
          intro c y M1 hm hc hy hM h0
          subst hy
          refine hK _ _ _ _ (hK _ _ _ _ (hK _ _ _ _ (⟨fun h9 => ?_, fun h9 => ?_⟩)))
          · exact absurd (x_ge (x := c) (y := 24) rfl rfl (by omega) (by decide) h9) (by omega)
          · refine hK _ _ _ _ (hK _ _ _ _ (hK _ _ _ _ (hK _ _ _ _ (hK _ _ _ _ (hK _ _ _ _ (hK _ _ _ _ (hK _ _ _ _ (hK _ _ _ _ (hK _ _ _ _ (hK _ _ _ _ (⟨x_vp (a := 20 + c) (show (20 : Int32) + Int32.ofNat c = Int32.ofNat (20 + c) from hI_ad (a := 20)) (by omega) (by decide), ?_⟩)))))))))))
            rw [x_cl (show (20 : Int32) + Int32.ofNat c = Int32.ofNat (20 + c) from hI_ad (a := 20)) (by omega)]
            refine hK _ _ _ _ (⟨x_vp (a := 20 + c) (show (20 : Int32) + Int32.ofNat c = Int32.ofNat (20 + c) from hI_ad (a := 20)) (by omega) (by decide), ?_⟩)
            rw [x_cl (show (20 : Int32) + Int32.ofNat c = Int32.ofNat (20 + c) from hI_ad (a := 20)) (by omega)]
            refine hK _ _ _ _ (hK _ _ _ _ (hK _ _ _ _ (hK _ _ _ _ (hK _ _ _ _ (hK _ _ _ _ (hK _ _ _ _ (⟨x_vp (a := 20 + c) (show (20 : Int32) + Int32.ofNat c = Int32.ofNat (20 + c) from hI_ad (a := 20)) (by omega) (by decide), ?_⟩)))))))
            rw [x_cl (show (20 : Int32) + Int32.ofNat c = Int32.ofNat (20 + c) from hI_ad (a := 20)) (by omega)]
            refine hK _ _ _ _ (hK _ _ _ _ (?_))
            refine ih (c + 1) _ _ (by omega) (by omega) hI_s (fun q i j p1 p2 => (x_pn (fun z => p2 ⟨z.1, by have := z.2.2; omega⟩)).trans ((x_pn (fun z => p1 z.1)).trans (hM q i j p1 p2))) (fun c2 hc2 => ?_)
            by_cases he : c2 = c
            · rw [he]
              exact x_pe
            · exact (x_pn (fun z => he (by have := z.2.2; omega))).trans ((x_pn (fun z => absurd z.1 (by decide))).trans (h0 c2 (by omega)))
      refine hK _ _ _ _ (hK _ _ _ _ (?_))
      exact l1 _ 0 _ _ rfl (Nat.zero_le _) rfl (fun _ _ _ _ _ => rfl) (fun c2 hc2 => absurd hc2 (Nat.not_lt_zero _))
    · exact absurd (by first | (rw [x_pe]; decide) | rw [x_pe]) h9
  · have h4 : 4 < e.2.1.1 * e.2.1.2.1 := by
      refine Nat.lt_of_not_le (fun z => h9 ?_)
      exact (hI_le (a := e.2.1.1 * e.2.1.2.1) (b := 4) (by omega) (by decide)).mpr z
    clear h9
    refine hK _ _ _ _ (hK _ _ _ _ (hK _ _ _ _ (hK _ _ _ _ (hK _ _ _ _ (hK _ _ _ _ (⟨fun h9 => ?_, fun h9 => ?_⟩))))))
    · exact absurd h9 (by first | (rw [x_pe]; decide) | rw [x_pe])
    · exact hK _ _ _ _ (hK _ _ _ _ (Or.inl ⟨h4, rfl, x_pe⟩))
