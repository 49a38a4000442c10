/-- turns told by a row -/
def TR (M : aM) (A : Nat → Nat) : Prop := ∀ l, l < 32 → M.1 31 0 l = Int32.ofNat (A l)
theorem l_turnOf {nS d q u : Nat} {M : aM} {e : xB} {A : Nat → Nat} {x : Int32} (hk : okB e) (hq : SQr e M q) (hT : TR M A) (q4 : q < e.2.1.1 * e.2.1.2.1) (h4 : e.2.1.1 * e.2.1.2.1 ≤ 4) (hu : u < 4) (hx : x = Int32.ofNat (q * 4 + u)) : aC nS (d + 2) 88 [vR 28 0, vI x] M (fun v M' => v = some (vI (Int32.ofNat (A (sdl e.2.1.1 e.2.1.2.1 e.2.1.2.2 (q % e.2.1.1) (q / e.2.1.1) u)))) ∧ M = M') (fun _ _ => False) := by
  obtain ⟨w1, w3, h1, h3, s2⟩ := hk
  obtain ⟨hx9, hy9⟩ := q_xy w1 q4
  obtain ⟨s32, -⟩ := sdl_ok w1 w3 h1 h3 s2 hx9 hy9 hu
  refine aC_mk rfl rfl ?_
  intro K hK _
  refine hK _ _ _ _ (hK _ _ _ _ (hK _ _ _ _ (hK _ _ _ _ (hK _ _ _ _ (hK _ _ _ _ (⟨_, g_at32 hx (show q * 4 + u < 16 by omega), rfl, fun v9 M9 g9 => ?_⟩))))))
  obtain ⟨rfl, rfl⟩ := g9
  rw [hq.1 u hu]
  refine hK _ _ _ _ (⟨_, g_at31 rfl s32, rfl, fun v12 M12 g12 => ?_⟩)
  obtain ⟨rfl, rfl⟩ := g12
  rw [hT _ s32]
  exact hK _ _ _ _ (⟨rfl, rfl⟩)
theorem l_comesRound {nS d q : Nat} {M : aM} {e : xB} {A : Nat → Nat} {x : Int32} (hx : x = Int32.ofNat (q * 4)) (hB : cB 0 M e) (hq : SQr e M q) (hT : TR M A) (hA : ∀ l, A l < e.1.2) (q4 : q < e.2.1.1 * e.2.1.2.1) (h4 : e.2.1.1 * e.2.1.2.1 ≤ 4) : aC nS (d + 3) 87 [vR 28 0, vI x] M (fun v M' => v = some (vI (Int32.ofNat (rdv e.1.1 e.1.2 A e.2.1.1 e.2.1.2.1 e.2.1.2.2 (q % e.2.1.1) (q / e.2.1.1)))) ∧ M = M') (fun _ _ => False) := by
  have hF := hB.1
  have hq1 := hF.1.1
  have hk := hB.2.1
  subst hx
  refine aC_mk rfl rfl ?_
  intro K hK _
  refine hK _ _ _ _ (hK _ _ _ _ (hK _ _ _ _ (⟨_, l_turnOf hk hq hT q4 h4 (show 0 < 4 by decide) rfl, rfl, fun v2 M2 g2 => ?_⟩)))
  obtain ⟨rfl, rfl⟩ := g2
  refine hK _ _ _ _ (hK _ _ _ _ (hK _ _ _ _ (hK _ _ _ _ (hK _ _ _ _ (hK _ _ _ _ (⟨_, l_turnOf hk hq hT q4 h4 (show 1 < 4 by decide) hI_s, rfl, fun v10 M10 g10 => ?_⟩))))))
  obtain ⟨rfl, rfl⟩ := g10
  refine hK _ _ _ _ (hK _ _ _ _ (hK _ _ _ _ (hK _ _ _ _ (hK _ _ _ _ (hK _ _ _ _ (hK _ _ _ _ (hK _ _ _ _ (⟨_, l_turnOf hk hq hT q4 h4 (show 2 < 4 by decide) (hI_ad (b := 2)), rfl, fun v22 M22 g22 => ?_⟩))))))))
  obtain ⟨rfl, rfl⟩ := g22
  refine hK _ _ _ _ (⟨_, g_cagainst hq1 hF.2.1 rfl (hA _), rfl, fun v25 M25 g25 => ?_⟩)
  obtain ⟨rfl, rfl⟩ := g25
  refine hK _ _ _ _ (hK _ _ _ _ (hK _ _ _ _ (hK _ _ _ _ (hK _ _ _ _ (hK _ _ _ _ (hK _ _ _ _ (hK _ _ _ _ (⟨_, l_turnOf hk hq hT q4 h4 (show 3 < 4 by decide) (hI_ad (b := 3)), rfl, fun v38 M38 g38 => ?_⟩))))))))
  obtain ⟨rfl, rfl⟩ := g38
  refine hK _ _ _ _ (⟨_, g_cagainst hq1 hF.2.1 rfl (hA _), rfl, fun v41 M41 g41 => ?_⟩)
  obtain ⟨rfl, rfl⟩ := g41
  refine hK _ _ _ _ (hK _ _ _ _ (hK _ _ _ _ (hK _ _ _ _ (hK _ _ _ _ (hK _ _ _ _ (hK _ _ _ _ (hK _ _ _ _ (⟨_, g_ctimes hq1 hF.2.1 rfl rfl (hA _) (hA _), rfl, fun v56 M56 g56 => ?_⟩))))))))
  obtain ⟨rfl, rfl⟩ := g56
  refine hK _ _ _ _ (hK _ _ _ _ (hK _ _ _ _ (hK _ _ _ _ (hK _ _ _ _ (⟨_, g_ctimes hq1 hF.2.1 rfl rfl (ag_lt hq1 (hA _)) (ag_lt hq1 (hA _)), rfl, fun v67 M67 g67 => ?_⟩)))))
  obtain ⟨rfl, rfl⟩ := g67
  refine hK _ _ _ _ (⟨_, g_ctimes hq1 hF.2.1 rfl rfl (rt_lt hq1 (hA _) (hA _)) (rt_lt hq1 (ag_lt hq1 (hA _)) (ag_lt hq1 (hA _))), rfl, fun v70 M70 g70 => ?_⟩)
  obtain ⟨rfl, rfl⟩ := g70
  exact hK _ _ _ _ (⟨rfl, rfl⟩)
theorem l_weighFrom {nS d k : Nat} {M : aM} {e : xB} {A : Nat → Nat} {k0 : Int32} (hB : cB 0 M e) (hw : wOK e) (hn : M.1 28 0 2 = Int32.ofNat (fcl e.2.1.1 e.2.1.2.1 e.2.1.2.2).length) (n5 : (fcl e.2.1.1 e.2.1.2.1 e.2.1.2.2).length ≤ 5) (hs : M.1 28 0 3 = Int32.ofNat (e.2.1.1 * e.2.1.2.1)) (hq : ∀ q, q < e.2.1.1 * e.2.1.2.1 → SQr e M q) (h4 : e.2.1.1 * e.2.1.2.1 ≤ 4) (hT : TR M A) (hA : ∀ l, A l < e.1.2) (hk0 : k0 = Int32.ofNat k) (hk : k ≤ (fcl e.2.1.1 e.2.1.2.1 e.2.1.2.2).length) (hW : ∀ L, L ≤ k → M.2 35 0 L = Int64.ofNat (Wp e A L)) : aC nS (d + 4) 86 [vR 28 0, vI k0] M (fun v M' => v = none ∧ M'.1 = M.1 ∧ ∀ L, L ≤ (fcl e.2.1.1 e.2.1.2.1 e.2.1.2.2).length → M'.2 35 0 L = Int64.ofNat (Wp e A L)) (fun _ _ => False) := by
  obtain ⟨ho, o2, o8, hS, w1, w3, h1, h3, s2⟩ := cB_h hB
  have hq1 := hB.1.1.1
  refine aC_mk rfl rfl ?_
  intro K hK _
  have lp : ∀ (m L : Nat) (z : Int32) (l3 l4 l5 : Option aV) (M1 : aM), (fcl e.2.1.1 e.2.1.2.1 e.2.1.2.2).length - L = m → L ≤ (fcl e.2.1.1 e.2.1.2.1 e.2.1.2.2).length → z = Int32.ofNat L → M1.1 = M.1 → (∀ j, j ≤ L → M1.2 35 0 j = Int64.ofNat (Wp e A j)) → K 2 [some (vR 28 0), some (vI k0), some (vI z), l3, l4, l5] [] M1 := by
    intro m
    induction m with
    | zero =>
      intro L z l3 l4 l5 M1 hm hL hz e1 hW1
      subst hz
      refine hK _ _ _ _ (hK _ _ _ _ (hK _ _ _ _ (hK _ _ _ _ (⟨fun h9 => ?_, fun h9 => ?_⟩))))
      · exact hK _ _ _ _ (⟨rfl, e1, fun j hj => hW1 j (by omega)⟩)
      · rw [e1, hn] at h9
        exact absurd (x_nge (x := L) (y := (fcl e.2.1.1 e.2.1.2.1 e.2.1.2.2).length) rfl rfl (by omega) (by omega) h9) (by omega)
    | succ m ih =>
      intro L z l3 l4 l5 M1 hm hL hz e1 hW1
      subst hz
      refine hK _ _ _ _ (hK _ _ _ _ (hK _ _ _ _ (hK _ _ _ _ (⟨fun h9 => ?_, fun h9 => ?_⟩))))
      · rw [e1, hn] at h9
        exact absurd (x_ge (x := L) (y := (fcl e.2.1.1 e.2.1.2.1 e.2.1.2.2).length) rfl rfl (by omega) (by omega) h9) (by omega)
      clear h9
      have B1 := cB_1 hB e1
      have T1 : TR M1 A := fun l hl9 => by
        rw [e1]
        exact hT l hl9
      have Q1 : ∀ q, q < e.2.1.1 * e.2.1.2.1 → SQr e M1 q := fun q hq9 => SQr_f (fun k j _ _ => by rw [e1]) (hq q hq9)
      have xl : ∀ (m q : Nat) (z : Int32) (V : Int64), e.2.1.1 * e.2.1.2.1 - q = m → q ≤ e.2.1.1 * e.2.1.2.1 → z = Int32.ofNat q → V = Int64.ofNat (Wp e A L * pq e A (fun q => Nat.beq (laz e q) L) q) → K 22 [some (vR 28 0), some (vI k0), some (vI (Int32.ofNat L)), some (vL V), none, some (vI z)] [] M1 := by
        intro m
        induction m with
        | zero =>
          intro q z V hm hq9 hz hV
          subst hz
          refine hK _ _ _ _ (hK _ _ _ _ (hK _ _ _ _ (hK _ _ _ _ (⟨fun h9 => ?_, fun h9 => ?_⟩))))
          · refine hK _ _ _ _ (hK _ _ _ _ (hK _ _ _ _ (hK _ _ _ _ (hK _ _ _ _ (hK _ _ _ _ (hK _ _ _ _ (⟨_, l_put35 hI_s (show L + 1 < 33 by omega), rfl, fun v83 M83 g83 => ?_⟩)))))))
            obtain ⟨rfl, rfl⟩ := g83
            refine hK _ _ _ _ (hK _ _ _ _ (?_))
            refine ih (L + 1) _ _ _ _ _ (by omega) (by omega) hI_s e1 (fun j hj => ?_)
            by_cases he : j = L + 1
            · rw [he]
              refine x_Le.trans ?_
              rw [hV, show q = e.2.1.1 * e.2.1.2.1 by omega, Wp_s]
            · exact (x_Ln (fun z => he z.2.2)).trans (hW1 j (by omega))
          · rw [e1, hs] at h9
            exact absurd (x_nge (x := q) (y := e.2.1.1 * e.2.1.2.1) rfl rfl (by omega) (by omega) h9) (by omega)
        | succ m ihq =>
          intro q z V hm hq9 hz hV
          subst hz
          have hqs : q < e.2.1.1 * e.2.1.2.1 := by omega
          refine hK _ _ _ _ (hK _ _ _ _ (hK _ _ _ _ (hK _ _ _ _ (⟨fun h9 => ?_, fun h9 => ?_⟩))))
          · rw [e1, hs] at h9
            exact absurd (x_ge (x := q) (y := e.2.1.1 * e.2.1.2.1) rfl rfl (by omega) (by omega) h9) (by omega)
          clear h9
          obtain ⟨hx9, hy9⟩ := q_xy w1 hqs
          have hla : laz e q < (fcl e.2.1.1 e.2.1.2.1 e.2.1.2.2).length := laq_lt w1 w3 h1 h3 s2 h4 hx9 hy9
          have hr : rdv e.1.1 e.1.2 A e.2.1.1 e.2.1.2.1 e.2.1.2.2 (q % e.2.1.1) (q / e.2.1.1) < e.1.2 := rdv_n hq1 hA
          refine hK _ _ _ _ (hK _ _ _ _ (hK _ _ _ _ (hK _ _ _ _ (⟨_, g_at33 (a := q) rfl (by omega), rfl, fun v37 M37 g37 => ?_⟩))))
          obtain ⟨rfl, rfl⟩ := g37
          rw [(Q1 q hqs).2.1]
          refine hK _ _ _ _ (hK _ _ _ _ (⟨fun h8 => ?_, fun h8 => ?_⟩))
          · refine hK _ _ _ _ (hK _ _ _ _ (?_))
            refine ihq (q + 1) _ _ (by omega) (by omega) hI_s ?_
            show V = Int64.ofNat (Wp e A L * (pq e A (fun q => Nat.beq (laz e q) L) q * (bif Nat.beq (laz e q) L then qv e A q else 1)))
            rw [x_nbeq (show ¬ laz e q = L from fun z => h8 (by rw [z])), hV]
            show _ = Int64.ofNat (Wp e A L * (pq e A (fun q => Nat.beq (laz e q) L) q * 1))
            rw [Nat.mul_one]
          · have h7 := x_inj (x := laz e q) (y := L) (by omega) (by omega) h8
            have ej : Int32.ofNat q * 8 + Int32.ofNat (rdv e.1.1 e.1.2 A e.2.1.1 e.2.1.2.1 e.2.1.2.2 (q % e.2.1.1) (q / e.2.1.1)) = Int32.ofNat (q * 8 + rdv e.1.1 e.1.2 A e.2.1.1 e.2.1.2.1 e.2.1.2.2 (q % e.2.1.1) (q / e.2.1.1)) := by
              rw [show Int32.ofNat q * 8 = Int32.ofNat (q * 8) from x_mul (b := 8) (by omega) (by decide), hI_ad]
            refine hK _ _ _ _ (hK _ _ _ _ (hK _ _ _ _ (hK _ _ _ _ (hK _ _ _ _ (hK _ _ _ _ (hK _ _ _ _ (hK _ _ _ _ (hK _ _ _ _ (hK _ _ _ _ (hK _ _ _ _ (⟨_, l_comesRound (x_mul (b := 4) (by omega) (by decide)) B1 (Q1 q hqs) T1 hA hqs h4, rfl, fun v59 M59 g59 => ?_⟩)))))))))))
            obtain ⟨rfl, rfl⟩ := g59
            refine hK _ _ _ _ (hK _ _ _ _ (⟨_, g_at34 (a := q * 8 + rdv e.1.1 e.1.2 A e.2.1.1 e.2.1.2.1 e.2.1.2.2 (q % e.2.1.1) (q / e.2.1.1)) ej (by omega), rfl, fun v63 M63 g63 => ?_⟩))
            obtain ⟨rfl, rfl⟩ := g63
            rw [(Q1 q hqs).2.2 _ hr]
            refine hK _ _ _ _ (hK _ _ _ _ (hK _ _ _ _ (hK _ _ _ _ (hK _ _ _ _ (?_)))))
            refine ihq (q + 1) _ _ (by omega) (by omega) hI_s ?_
            rw [w64 hw (Nat.lt_of_lt_of_le hr o8), hV, ← Int64.ofNat_mul]
            show Int64.ofNat (Wp e A L * pq e A (fun q => Nat.beq (laz e q) L) q * qv e A q) = Int64.ofNat (Wp e A L * (pq e A (fun q => Nat.beq (laz e q) L) q * (bif Nat.beq (laz e q) L then qv e A q else 1)))
            rw [x_beq h7, cond_true, Nat.mul_assoc]
      refine hK _ _ _ _ (hK _ _ _ _ (hK _ _ _ _ (hK _ _ _ _ (⟨_, l_at35 (a := L) rfl (by omega), rfl, fun v15 M15 g15 => ?_⟩))))
      obtain ⟨rfl, rfl⟩ := g15
      refine hK _ _ _ _ (hK _ _ _ _ (hK _ _ _ _ (?_)))
      exact xl _ 0 _ _ rfl (Nat.zero_le _) rfl (by rw [hW1 L (Nat.le_refl _)]; show Int64.ofNat (Wp e A L) = Int64.ofNat (Wp e A L * 1); rw [Nat.mul_one])
  refine hK _ _ _ _ (hK _ _ _ _ (?_))
  exact lp _ k _ _ _ _ _ rfl hk hk0 rfl hW
theorem mem_g : ∀ (F : List Nat) (j x : Nat), x ∈ F.drop j → ∃ L, j ≤ L ∧ L < F.length ∧ x = F.getD L 99
  | [], _, _, h => by
    rw [List.drop_nil] at h
    exact absurd h List.not_mem_nil
  | y :: F, 0, x, h => by
    rcases List.mem_cons.mp (show x ∈ y :: F from h) with h | h
    · exact ⟨0, Nat.le_refl _, Nat.succ_pos _, h⟩
    · obtain ⟨L, -, h2, h3⟩ := mem_g F 0 x h
      exact ⟨L + 1, Nat.zero_le _, Nat.succ_lt_succ h2, h3⟩
  | y :: F, j + 1, x, h => by
    obtain ⟨L, h1, h2, h3⟩ := mem_g F j x h
    exact ⟨L + 1, Nat.succ_le_succ h1, Nat.succ_lt_succ h2, h3⟩
theorem l_goOn {nS d : Nat} {M : aM} {e : xB} {A : Nat → Nat} (hB : cB 0 M e) (hn : M.1 28 0 2 = Int32.ofNat (fcl e.2.1.1 e.2.1.2.1 e.2.1.2.2).length) (n5 : (fcl e.2.1.1 e.2.1.2.1 e.2.1.2.2).length ≤ 5) (hL : ∀ L, L < (fcl e.2.1.1 e.2.1.2.1 e.2.1.2.2).length → M.1 29 0 L = Int32.ofNat (fl e.2.1.1 e.2.1.2.1 e.2.1.2.2 L)) (h32 : ∀ L, L < (fcl e.2.1.1 e.2.1.2.1 e.2.1.2.2).length → fl e.2.1.1 e.2.1.2.1 e.2.1.2.2 L < 32) (hd : (fcl e.2.1.1 e.2.1.2.1 e.2.1.2.2).Nodup) (hT : TR M A) (hA : ∀ l, A l < e.1.2) : aC nS (d + 2) 85 [vR 28 0] M (fun v M' => (∀ q i j, ¬ q = 31 → M'.1 q i j = M.1 q i j) ∧ M'.2 = M.2 ∧ (((∀ x, x ∈ (fcl e.2.1.1 e.2.1.2.1 e.2.1.2.2) → A x + 1 = e.1.2) ∧ v = some (vI (-1))) ∨ ∃ k, k < (fcl e.2.1.1 e.2.1.2.1 e.2.1.2.2).length ∧ A (fl e.2.1.1 e.2.1.2.1 e.2.1.2.2 k) + 1 < e.1.2 ∧ (∀ x, x ∈ (fcl e.2.1.1 e.2.1.2.1 e.2.1.2.2).drop (k + 1) → A x + 1 = e.1.2) ∧ v = some (vI (Int32.ofNat k)) ∧ TR M' (updn (zr ((fcl e.2.1.1 e.2.1.2.1 e.2.1.2.2).drop (k + 1)) A) (fl e.2.1.1 e.2.1.2.1 e.2.1.2.2 k) (A (fl e.2.1.1 e.2.1.2.1 e.2.1.2.2 k) + 1)))) (fun _ _ => False) := by
  obtain ⟨ho, o2, o8, hS, w1, w3, h1, h3, s2⟩ := cB_h hB
  refine aC_mk rfl rfl ?_
  intro K hK _
  have lp : ∀ (k : Nat) (z : Int32) (l2 l3 : Option aV) (M1 : aM), k ≤ (fcl e.2.1.1 e.2.1.2.1 e.2.1.2.2).length → z = Int32.ofNat k - 1 → (∀ q i j, ¬ q = 31 → M1.1 q i j = M.1 q i j) → M1.2 = M.2 → TR M1 (zr ((fcl e.2.1.1 e.2.1.2.1 e.2.1.2.2).drop k) A) → (∀ x, x ∈ (fcl e.2.1.1 e.2.1.2.1 e.2.1.2.2).drop k → A x + 1 = e.1.2) → K 7 [some (vR 28 0), some (vI z), l2, l3] [] M1 := by
    intro k
    induction k with
    | zero =>
      intro z l2 l3 M1 hk hz hM hM2 hT1 hx
      subst hz
      refine hK _ _ _ _ (hK _ _ _ _ (⟨fun _ => ?_, fun q => (by first | exact absurd q (by decide) | exact absurd rfl q | exact absurd (by decide) q)⟩))
      exact hK _ _ _ _ (hK _ _ _ _ (⟨hM, hM2, Or.inl ⟨fun x hx2 => hx x hx2, rfl⟩⟩))
    | succ k ih =>
      intro z l2 l3 M1 hk hz hM hM2 hT1 hx
      have hz : z = Int32.ofNat k := hz.trans (x_sub (y := 1) (Nat.le_add_left 1 k) (by omega))
      subst hz
      have hkl : k < (fcl e.2.1.1 e.2.1.2.1 e.2.1.2.2).length := hk
      have hdr := drop_g (fcl e.2.1.1 e.2.1.2.1 e.2.1.2.2) k hkl
      have hnd : ((fcl e.2.1.1 e.2.1.2.1 e.2.1.2.2).drop k).Nodup := List.Nodup.sublist (List.drop_sublist k _) hd
      rw [hdr] at hnd
      have hni : ¬ fl e.2.1.1 e.2.1.2.1 e.2.1.2.2 k ∈ (fcl e.2.1.1 e.2.1.2.1 e.2.1.2.2).drop (k + 1) := (List.nodup_cons.mp hnd).1
      have hav : zr ((fcl e.2.1.1 e.2.1.2.1 e.2.1.2.2).drop (k + 1)) A (fl e.2.1.1 e.2.1.2.1 e.2.1.2.2 k) = A (fl e.2.1.1 e.2.1.2.1 e.2.1.2.2 k) := if_neg hni
      have k32 := h32 k hkl
      have ha := hA (fl e.2.1.1 e.2.1.2.1 e.2.1.2.2 k)
      refine hK _ _ _ _ (hK _ _ _ _ (⟨fun h9 => ?_, fun h9 => ?_⟩))
      · exact absurd (x_lt (x := k) (y := 0) rfl rfl (by omega) (by decide) h9) (Nat.not_lt_zero _)
      refine hK _ _ _ _ (hK _ _ _ _ (hK _ _ _ _ (hK _ _ _ _ (⟨_, g_at29 (a := k) rfl (by omega), rfl, fun v16 M16 g16 => ?_⟩))))
      obtain ⟨rfl, rfl⟩ := g16
      rw [(hM 29 0 k (by decide)).trans (hL k hkl)]
      refine hK _ _ _ _ (hK _ _ _ _ (hK _ _ _ _ (hK _ _ _ _ (hK _ _ _ _ (⟨_, g_at31 rfl k32, rfl, fun v25 M25 g25 => ?_⟩)))))
      obtain ⟨rfl, rfl⟩ := g25
      rw [hT1 _ k32, hav]
      refine hK _ _ _ _ (hK _ _ _ _ (hK _ _ _ _ (hK _ _ _ _ (hK _ _ _ _ (hK _ _ _ _ (hK _ _ _ _ (⟨_, b_order, rfl, fun v36 M36 g36 => ?_⟩)))))))
      obtain ⟨rfl, rfl⟩ := g36
      rw [hI_s, (hM 5 0 1 (by decide)).trans ho]
      refine hK _ _ _ _ (⟨fun h8 => ?_, fun h8 => ?_⟩)
      · have h6 := x_ge (x := A (fl e.2.1.1 e.2.1.2.1 e.2.1.2.2 k) + 1) (y := e.1.2) rfl rfl (by omega) (by omega) h8
        refine hK _ _ _ _ (hK _ _ _ _ (hK _ _ _ _ (hK _ _ _ _ (hK _ _ _ _ (⟨_, g_put31 rfl k32, rfl, fun v59 M59 g59 => ?_⟩)))))
        obtain ⟨rfl, rfl⟩ := g59
        refine hK _ _ _ _ (hK _ _ _ _ (?_))
        refine ih _ _ _ _ (by omega) (Int32.sub_eq_add_neg _ _).symm (fun q i j hq => (x_pn (fun z => hq z.1)).trans (hM q i j hq)) hM2 (fun l hl9 => ?_) (fun x hx2 => ?_)
        · rw [hdr, ← zr_s]
          show (a_pI M1 31 0 (fl e.2.1.1 e.2.1.2.1 e.2.1.2.2 k) 0).1 31 0 l = Int32.ofNat (if l = fl e.2.1.1 e.2.1.2.1 e.2.1.2.2 k then 0 else zr ((fcl e.2.1.1 e.2.1.2.1 e.2.1.2.2).drop (k + 1)) A l)
          by_cases he : l = fl e.2.1.1 e.2.1.2.1 e.2.1.2.2 k
          · rw [if_pos he, he]
            exact x_pe
          · rw [if_neg he]
            exact (x_pn (fun z => he z.2.2)).trans (hT1 l hl9)
        · rw [hdr] at hx2
          rcases List.mem_cons.mp hx2 with hx2 | hx2
          · rw [hx2]
            show A (fl e.2.1.1 e.2.1.2.1 e.2.1.2.2 k) + 1 = e.1.2
            omega
          · exact hx x hx2
      · have h6 := x_nge (x := A (fl e.2.1.1 e.2.1.2.1 e.2.1.2.2 k) + 1) (y := e.1.2) rfl rfl (by omega) (by omega) h8
        refine hK _ _ _ _ (hK _ _ _ _ (hK _ _ _ _ (hK _ _ _ _ (hK _ _ _ _ (⟨_, g_put31 rfl k32, rfl, fun v48 M48 g48 => ?_⟩)))))
        obtain ⟨rfl, rfl⟩ := g48
        refine hK _ _ _ _ (hK _ _ _ _ (⟨fun q i j hq => (x_pn (fun z => hq z.1)).trans (hM q i j hq), hM2, Or.inr ⟨k, hkl, h6, hx, rfl, fun l hl9 => ?_⟩⟩))
        show (a_pI M1 31 0 (fl e.2.1.1 e.2.1.2.1 e.2.1.2.2 k) (Int32.ofNat (A (fl e.2.1.1 e.2.1.2.1 e.2.1.2.2 k) + 1))).1 31 0 l = Int32.ofNat (if l = fl e.2.1.1 e.2.1.2.1 e.2.1.2.2 k then A (fl e.2.1.1 e.2.1.2.1 e.2.1.2.2 k) + 1 else zr ((fcl e.2.1.1 e.2.1.2.1 e.2.1.2.2).drop (k + 1)) A l)
        by_cases he : l = fl e.2.1.1 e.2.1.2.1 e.2.1.2.2 k
        · rw [if_pos he, he]
          exact x_pe
        · rw [if_neg he]
          exact (x_pn (fun z => he z.2.2)).trans (hT1 l hl9)
  refine hK _ _ _ _ (hK _ _ _ _ (hK _ _ _ _ (hK _ _ _ _ (hK _ _ _ _ (?_)))))
  rw [hn]
  refine lp _ _ _ _ _ (Nat.le_refl _) rfl (fun _ _ _ _ => rfl) rfl ?_ (fun x hx => ?_)
  · rw [List.drop_length, zr_n]
    exact hT
  · rw [List.drop_length] at hx
    exact absurd hx List.not_mem_nil
theorem l_ofStates4 {nS d : Nat} {M : aM} {e : xB} (hB : cB 0 M e) (hw : wOK e) (h4 : e.2.1.1 * e.2.1.2.1 ≤ 4) : aC nS (d + 7) 81 [vR 28 0] M (fun v M' => v = some (vL (lsv e (fcl e.2.1.1 e.2.1.2.1 e.2.1.2.2)))) (fun _ _ => False) := by
  obtain ⟨ho, o2, o8, hS, w1, w3, h1, h3, s2⟩ := cB_h hB
  have hk := hB.2.1
  obtain ⟨⟨b1, n5⟩, ⟨b3, hd⟩, b5⟩ := ftab w1 w3 h1 h3 s2 h4
  have hpow : e.1.2 ^ (fcl e.2.1.1 e.2.1.2.1 e.2.1.2.2).length ≤ 32768 := Nat.le_trans (Nat.pow_le_pow_left o8 _) (Nat.le_trans (Nat.pow_le_pow_right (by decide) n5) (by decide))
  refine aC_mk rfl rfl ?_
  intro K hK _
  have lp : ∀ (m tog N k : Nat) (T : Int64) (A : Nat → Nat) (M1 : aM), T = Int64.ofNat tog → aft e.1.2 (fun _ => 1) (fcl e.2.1.1 e.2.1.2.1 e.2.1.2.2) A = m → cB 0 M1 e → M1.1 28 0 2 = Int32.ofNat (fcl e.2.1.1 e.2.1.2.1 e.2.1.2.2).length → (∀ L, L < (fcl e.2.1.1 e.2.1.2.1 e.2.1.2.2).length → M1.1 29 0 L = Int32.ofNat (fl e.2.1.1 e.2.1.2.1 e.2.1.2.2 L)) → M1.1 28 0 3 = Int32.ofNat (e.2.1.1 * e.2.1.2.1) → (∀ q, q < e.2.1.1 * e.2.1.2.1 → SQr e M1 q) → TR M1 A → (∀ l, A l < e.1.2) → k ≤ (fcl e.2.1.1 e.2.1.2.1 e.2.1.2.2).length → (∀ L, L ≤ k → M1.2 35 0 L = Int64.ofNat (Wp e A L)) → N + 1 + m = e.1.2 ^ (fcl e.2.1.1 e.2.1.2.1 e.2.1.2.2).length → tog + wNy e A e.2.1.2.1 + aft e.1.2 (fun A => wNy e A e.2.1.2.1) (fcl e.2.1.1 e.2.1.2.1 e.2.1.2.2) A = sov e.1.2 (fun A => wNy e A e.2.1.2.1) (fcl e.2.1.1 e.2.1.2.1 e.2.1.2.2) (fun _ => 0) → K 24 [some (vR 28 0), some (vL T), none, some (vI (Int32.ofNat k)), some (vI (Int32.ofNat N))] [] M1 := by
    intro m
    induction m using Nat.strongRecOn with
    | ind m ih =>
    intro tog N k T A M1 hTg hm B1 c1 c2 c3 c4 hT hA hkn hW hN hS9
    refine hK _ _ _ _ (hK _ _ _ _ (hK _ _ _ _ (⟨fun h9 => ?_, fun h9 => ?_⟩)))
    · exact absurd (x_ge (x := N) (y := 32768) rfl rfl (by omega) (by decide) h9) (by omega)
    clear h9
    refine hK _ _ _ _ (hK _ _ _ _ (hK _ _ _ _ (⟨fun q9 => absurd q9 (x_m1 (by omega)), fun _ => ?_⟩)))
    refine hK _ _ _ _ (hK _ _ _ _ (hK _ _ _ _ (⟨_, l_weighFrom B1 hw c1 n5 c3 c4 h4 hT hA rfl hkn hW, rfl, fun v38 M38 g38 => ?_⟩)))
    obtain ⟨rfl, e1, hW2⟩ := g38
    have B2 := cB_1 B1 e1
    refine hK _ _ _ _ (hK _ _ _ _ (hK _ _ _ _ (hK _ _ _ _ (hK _ _ _ _ (hK _ _ _ _ (⟨_, l_at35 (M := M38) ((congrFun (congrFun (congrFun e1 28) 0) 2).trans c1) (show (fcl e.2.1.1 e.2.1.2.1 e.2.1.2.2).length < 33 by omega), rfl, fun v50 M50 g50 => ?_⟩))))))
    obtain ⟨rfl, rfl⟩ := g50
    rw [hW2 _ (Nat.le_refl _), Wp_n hk h4]
    refine hK _ _ _ _ (hK _ _ _ _ (hK _ _ _ _ (hK _ _ _ _ (⟨_, l_goOn (M := M38) B2 ((congrFun (congrFun (congrFun e1 28) 0) 2).trans c1) n5 (fun L hL => (congrFun (congrFun (congrFun e1 29) 0) L).trans (c2 L hL)) (fun L hL => (b5 L hL).1) hd (fun l hl9 => (congrFun (congrFun (congrFun e1 31) 0) l).trans (hT l hl9)) hA, rfl, fun v56 M56 g56 => ?_⟩))))
    obtain ⟨k1, k2, g56⟩ := g56
    rcases g56 with ⟨hx, rfl⟩ | ⟨j, hj, hj2, hx, rfl, hT3⟩
    · have h0 := aft_m (Φ := (fun A => wNy e A e.2.1.2.1)) (fcl e.2.1.1 e.2.1.2.1 e.2.1.2.2) A hx
      have hfin : T + Int64.ofNat (wNy e A e.2.1.2.1) = lsv e (fcl e.2.1.1 e.2.1.2.1 e.2.1.2.2) := by
        unfold lsv
        rw [← hS9, h0, Nat.add_zero, hTg, Int64.ofNat_add]
      refine hK _ _ _ _ (hK _ _ _ _ (hK _ _ _ _ (hK _ _ _ _ (hK _ _ _ _ (hK _ _ _ _ (⟨fun h9 => ?_, fun h9 => ?_⟩))))))
      · exact hK _ _ _ _ (hK _ _ _ _ ((show some (vL (T + Int64.ofNat (wNy e A e.2.1.2.1))) = some (vL (lsv e (fcl e.2.1.1 e.2.1.2.1 e.2.1.2.2))) from by rw [hfin])))
      · refine hK _ _ _ _ (hK _ _ _ _ (hK _ _ _ _ (⟨fun _ => ?_, fun q9 => absurd rfl q9⟩)))
        exact hK _ _ _ _ (hK _ _ _ _ ((show some (vL (T + Int64.ofNat (wNy e A e.2.1.2.1))) = some (vL (lsv e (fcl e.2.1.1 e.2.1.2.1 e.2.1.2.2))) from by rw [hfin])))
    · have hsp : (fcl e.2.1.1 e.2.1.2.1 e.2.1.2.2) = (fcl e.2.1.1 e.2.1.2.1 e.2.1.2.2).take j ++ fl e.2.1.1 e.2.1.2.1 e.2.1.2.2 j :: (fcl e.2.1.1 e.2.1.2.1 e.2.1.2.2).drop (j + 1) := by
        rw [show fl e.2.1.1 e.2.1.2.1 e.2.1.2.2 j :: (fcl e.2.1.1 e.2.1.2.1 e.2.1.2.2).drop (j + 1) = (fcl e.2.1.1 e.2.1.2.1 e.2.1.2.2).drop j from (drop_g _ j hj).symm, List.take_append_drop]
      have hd2 : ((fcl e.2.1.1 e.2.1.2.1 e.2.1.2.2).take j ++ fl e.2.1.1 e.2.1.2.1 e.2.1.2.2 j :: (fcl e.2.1.1 e.2.1.2.1 e.2.1.2.2).drop (j + 1)).Nodup := by
        rw [← hsp]
        exact hd
      have a1 := aft_s (Φ := fun _ => 1) hj2 hx _ hd2
      have a2 := aft_s (Φ := (fun A => wNy e A e.2.1.2.1)) hj2 hx _ hd2
      rw [← hsp] at a1 a2
      rw [hm] at a1
      refine hK _ _ _ _ (hK _ _ _ _ (hK _ _ _ _ (?_)))
      rw [hI_s]
      obtain ⟨j1, j3, j5⟩ := b5 j hj
      have hA2 : ∀ l, updn (zr ((fcl e.2.1.1 e.2.1.2.1 e.2.1.2.2).drop (j + 1)) A) (fl e.2.1.1 e.2.1.2.1 e.2.1.2.2 j) (A (fl e.2.1.1 e.2.1.2.1 e.2.1.2.2 j) + 1) l < e.1.2 := updn_lt (fun l => by
        show (if l ∈ (fcl e.2.1.1 e.2.1.2.1 e.2.1.2.2).drop (j + 1) then 0 else A l) < e.1.2
        by_cases hl9 : l ∈ (fcl e.2.1.1 e.2.1.2.1 e.2.1.2.2).drop (j + 1)
        · rw [if_pos hl9]
          omega
        · rw [if_neg hl9]
          exact hA l) hj2
      refine ih _ (by omega) (tog + wNy e A e.2.1.2.1) (N + 1) j _ _ _ (by rw [hTg, Int64.ofNat_add]) rfl (cB_fr B2 (fun q j9 a b _ => k1 q 0 j9 (by omega))) ((k1 28 0 2 (by decide)).trans ((congrFun (congrFun (congrFun e1 28) 0) 2).trans c1)) (fun L hL => (k1 29 0 L (by decide)).trans ((congrFun (congrFun (congrFun e1 29) 0) L).trans (c2 L hL))) ((k1 28 0 3 (by decide)).trans ((congrFun (congrFun (congrFun e1 28) 0) 3).trans c3)) (fun q hq => SQr_f (fun k9 j9 a b => (k1 k9 0 j9 (by omega)).trans (congrFun (congrFun (congrFun e1 k9) 0) j9)) (c4 q hq)) hT3 hA2 (Nat.le_of_lt hj) (fun L hL => ?_) (by omega) (by rw [← hS9, a2]; omega)
      rw [k2, hW2 L (by omega)]
      congr 1
      refine Wp_d hk (fun l l32 hn9 => ?_)
      have l1 : ¬ l = fl e.2.1.1 e.2.1.2.1 e.2.1.2.2 j := fun z => hn9 (by
        rw [z]
        exact ⟨j3, by omega⟩)
      have l2 : ¬ l ∈ (fcl e.2.1.1 e.2.1.2.1 e.2.1.2.2).drop (j + 1) := fun z => by
        obtain ⟨L2, z1, z2, z3⟩ := mem_g _ _ _ z
        obtain ⟨y1, y2, y3⟩ := b5 L2 z2
        have z3 : l = fl e.2.1.1 e.2.1.2.1 e.2.1.2.2 L2 := z3
        refine hn9 ?_
        rw [z3]
        exact ⟨y2, by omega⟩
      exact ((if_neg l1).trans (if_neg l2)).symm
  refine hK _ _ _ _ (hK _ _ _ _ (⟨_, l_findLevels hB h4, rfl, fun v1 M1 g1 => ?_⟩))
  obtain ⟨rfl, f1, lv⟩ := g1
  refine hK _ _ _ _ (hK _ _ _ _ (⟨_, l_findSquares (cB_L f1 hB) lv h4, rfl, fun v5 M5 g5 => ?_⟩))
  obtain ⟨rfl, f5, lv5, s5, q5⟩ := g5
  have B5 := cB_L (fr_t f1 f5) hB
  refine hK _ _ _ _ (hK _ _ _ _ (hK _ _ _ _ (hK _ _ _ _ (hK _ _ _ _ (⟨_, l_put35 (a := 0) rfl (by decide), rfl, fun v14 M14 g14 => ?_⟩)))))
  obtain ⟨rfl, rfl⟩ := g14
  refine hK _ _ _ _ (hK _ _ _ _ (hK _ _ _ _ (hK _ _ _ _ (hK _ _ _ _ (hK _ _ _ _ (?_))))))
  refine lp _ 0 0 0 _ (fun _ => 0) _ rfl rfl (cB_1 B5 rfl) lv5.1 lv5.2.2.2 s5 (fun q hq => q5 q hq) (fun l hl9 => lv5.2.2.1 l hl9) (fun _ => by omega) (Nat.zero_le _) (fun L hL => ?_) ?_ ?_
  · rw [Nat.le_zero.mp hL, Wp_0]
    exact x_Le
  · have h9 := aft_0 (Φ := fun _ => 1) (o := e.1.2) (by omega) (fcl e.2.1.1 e.2.1.2.1 e.2.1.2.2) (fun _ => 0) (fun _ _ => rfl)
    rw [sov_1] at h9
    omega
  · have h9 := aft_0 (Φ := (fun A => wNy e A e.2.1.2.1)) (o := e.1.2) (by omega) (fcl e.2.1.1 e.2.1.2.1 e.2.1.2.2) (fun _ => 0) (fun _ _ => rfl)
    rw [← h9, Nat.zero_add]
theorem b_squares4 {nS d : Nat} {M : aM} : aC nS (d + 1) 11 [vR 4 0] M (fun v M' => v = some (vI (M.1 4 0 1 * M.1 4 0 2)) ∧ M = M') (fun _ _ => False) := by
  refine aC_mk rfl rfl ?_
  intro K hK _
  exact hK _ _ _ _ (hK _ _ _ _ (hK _ _ _ _ (hK _ _ _ _ (hK _ _ _ _ (hK _ _ _ _ (⟨rfl, rfl⟩))))))
theorem c_listedX {nS : Nat} {M : aM} {e : xB} (hB : cB 0 M e) (hw : wOK e) : aC nS 60 167 [vR 0 0] M (fun v M' => e.2.1.1 * e.2.1.2.1 ≤ 4 ∧ v = some (vL (lsv e (fcl e.2.1.1 e.2.1.2.1 e.2.1.2.2)))) (fun x M' => x = 4 ∧ 4 < e.2.1.1 * e.2.1.2.1) := by
  obtain ⟨ho, o2, o8, hS, w1, w3, h1, h3, s2⟩ := cB_h hB
  have m9 : e.2.1.1 * e.2.1.2.1 ≤ 3 * 3 := Nat.mul_le_mul w3 h3
  refine aC_mk rfl rfl ?_
  intro K hK _
  refine hK _ _ _ _ (hK _ _ _ _ (hK _ _ _ _ (⟨_, b_squares4, rfl, fun v4 M4 g4 => ?_⟩)))
  obtain ⟨rfl, rfl⟩ := g4
  rw [hS.1, hS.2.1, x_mul (by omega) (by omega)]
  refine hK _ _ _ _ (hK _ _ _ _ (⟨fun h9 => ?_, fun h9 => ?_⟩))
  · have h4 := (hI_le (a := e.2.1.1 * e.2.1.2.1) (b := 4) (by omega) (by decide)).mp h9
    refine hK _ _ _ _ (hK _ _ _ _ (hK _ _ _ _ (⟨_, l_ofStates4 (d := 52) hB hw h4, rfl, fun v25 M25 g25 => ?_⟩)))
    obtain rfl := g25
    exact hK _ _ _ _ (⟨h4, rfl⟩)
  · have h4 : 4 < e.2.1.1 * e.2.1.2.1 := Nat.lt_of_not_le (fun z => h9 ((hI_le (a := e.2.1.1 * e.2.1.2.1) (b := 4) (by omega) (by decide)).mpr z))
    exact hK _ _ _ _ (⟨rfl, rfl, h4⟩)
