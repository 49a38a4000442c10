/-- a pair is the least of its kin -/
def lsf (k o a b : Nat) : Nat → Bool
  | 0 => true
  | c + 1 => lsf k o a b c && (Nat.blt a (rt k o (rt k o c a) (ag k o c)) || (Nat.beq (rt k o (rt k o c a) (ag k o c)) a && Nat.ble b (rt k o (rt k o c b) (ag k o c))))
def rpf (k o : Nat) (ob : Bool) (a b : Nat) : Bool := lkb k o a b && (lsf k o a b o || !ob)
def su (g : Nat → Nat) : Nat → Nat
  | 0 => 0
  | n + 1 => su g n + g n
def cbf (k o a b : Nat) : Nat → Bool := fun c => lkb k o c a && lkb k o c b
def cbg (k o a b : Nat) : Nat := bif lkb k o a b then cnt (cbf k o a b) o else 0
theorem rp_0 {k o : Nat} (hq : (k, o) ∈ gP) : cs (rpf k o false) o o = cmo k o 0 o := Nat.eq_of_beq_eq_true (gP_all (P := fun k o => Nat.beq (cs (rpf k o false) o o) (cmo k o 0 o)) (by decide +kernel) hq)
theorem rp_1 {k o : Nat} (hq : (k, o) ∈ gP) : cs (rpf k o true) o o = su (fun a => su (cbg k o a) o) o / o := Nat.eq_of_beq_eq_true (gP_all (P := fun k o => Nat.beq (cs (rpf k o true) o o) (su (fun a => su (cbg k o a) o) o / o)) (by decide +kernel) hq)
theorem su_b {k o : Nat} (hq : (k, o) ∈ gP) : su (fun a => su (cbg k o a) o) o < 1000 := Nat.le_of_ble_eq_true (gP_all (P := fun k o => Nat.ble (su (fun a => su (cbg k o a) o) o + 1) 1000) (by decide +kernel) hq)
/-- what rests answers -/
def rsv (k o s : Nat) (ob : Bool) : Nat := bif Nat.beq s 0 then 1 else bif Nat.beq s 1 then (bif ob then kc k o else o) else cs (rpf k o ob) o o
def i01 (b : Bool) : Int32 := bif b then 1 else 0
theorem x_b0 : ((0 : Int32) == 1) = false := by decide
theorem x_b1 : ((1 : Int32) == 1) = true := by decide
theorem b_isClosed {nS d i s : Nat} {M : aM} (hs : M.1 4 i 3 = Int32.ofNat s) (s2 : s ≤ 2) : aC nS (d + 1) 13 [vR 4 i] M (fun v M' => ((s = 2 ∧ v = some (vI 1)) ∨ (¬ s = 2 ∧ v = some (vI 0))) ∧ M = M') (fun _ _ => False) := by
  refine aC_mk rfl rfl ?_
  intro K hK _
  refine hK _ _ _ _ (hK _ _ _ _ (hK _ _ _ _ (hK _ _ _ _ (⟨fun q => ?_, fun q => ?_⟩))))
  · exact hK _ _ _ _ (hK _ _ _ _ (⟨Or.inl rfl, Or.inr ⟨fun z => q (by rw [hs, z]; rfl), rfl⟩, rfl⟩))
  · exact hK _ _ _ _ (hK _ _ _ _ (hK _ _ _ _ (⟨Or.inr rfl, Or.inl ⟨x_eq (y := 2) hs rfl (by omega) (by decide) q, rfl⟩, rfl⟩)))
theorem b_pairsOnce {nS d k o : Nat} {M : aM} (hF : gF 0 M k o) : aC nS (d + 3) 126 [vR 24 0] M (fun v M' => v = some (vI (Int32.ofNat (cs (rpf k o true) o o))) ∧ M = M') (fun _ _ => False) := by
  have hq := hF.1.1
  obtain ⟨o2, o8, k3⟩ := gP_o hq
  rw [rp_1 hq]
  have sb := su_b hq
  refine aC_mk rfl rfl ?_
  intro K hK _
  have il : ∀ (a b : Nat), a < o → b < o → lkb k o a b = true → ∀ (L0 : Nat), (∀ (x : Int32) (l5 : Option aV), x = Int32.ofNat (L0 + cnt (cbf k o a b) o) → K 89 [some (vR 24 0), some (vI (Int32.ofNat o)), some (vI x), some (vI (Int32.ofNat a)), some (vI (Int32.ofNat b)), l5] [] M) → ∀ (m c : Nat) (x y : Int32), o - c = m → c ≤ o → x = Int32.ofNat (L0 + cnt (cbf k o a b) c) → y = Int32.ofNat c → K 29 [some (vR 24 0), some (vI (Int32.ofNat o)), some (vI x), some (vI (Int32.ofNat a)), some (vI (Int32.ofNat b)), some (vI y)] [] M := by
    intro a b ha hb hl L0 out m
    induction m with
    | zero =>
      intro c x y hm hc hx hy
      subst hx
      subst hy
      refine hK _ _ _ _ (hK _ _ _ _ (hK _ _ _ _ (⟨fun h => ?_, fun h => ?_⟩)))
      · exact out _ _ (by rw [show c = o by omega])
      · exact absurd (x_nge (x := c) (y := o) rfl rfl (by omega) (by omega) h) (by omega)
    | succ m ih =>
      intro c x y hm hc hx hy
      subst hx
      subst hy
      have hco : c < o := by omega
      refine hK _ _ _ _ (hK _ _ _ _ (hK _ _ _ _ (⟨fun h => ?_, fun h => ?_⟩)))
      · exact absurd (x_ge (x := c) (y := o) rfl rfl (by omega) (by omega) h) (by omega)
      · refine hK _ _ _ _ (hK _ _ _ _ (hK _ _ _ _ (hK _ _ _ _ (hK _ _ _ _ (⟨_, b_commute hF rfl rfl ha hb, rfl, fun v42 M42 g42 => ?_⟩)))))
        obtain ⟨g42, rfl⟩ := g42
        rcases g42 with ⟨-, rfl⟩ | ⟨z, -⟩
        · refine hK _ _ _ _ (⟨fun q => ?_, fun q => ?_⟩)
          · exact absurd q (by decide)
          · refine hK _ _ _ _ (hK _ _ _ _ (hK _ _ _ _ (hK _ _ _ _ (hK _ _ _ _ (hK _ _ _ _ (⟨_, b_commute hF rfl rfl hco ha, rfl, fun v56 M56 g56 => ?_⟩))))))
            obtain ⟨g56, rfl⟩ := g56
            rcases g56 with ⟨z1, rfl⟩ | ⟨z1, rfl⟩
            · refine hK _ _ _ _ (⟨fun q => ?_, fun q => ?_⟩)
              · exact absurd q (by decide)
              · refine hK _ _ _ _ (hK _ _ _ _ (hK _ _ _ _ (hK _ _ _ _ (hK _ _ _ _ (⟨_, b_commute hF rfl rfl hco hb, rfl, fun v70 M70 g70 => ?_⟩)))))
                obtain ⟨g70, rfl⟩ := g70
                rcases g70 with ⟨z2, rfl⟩ | ⟨z2, rfl⟩
                · refine hK _ _ _ _ (⟨fun q => ?_, fun q => ?_⟩)
                  · exact absurd q (by decide)
                  · refine hK _ _ _ _ (hK _ _ _ _ (hK _ _ _ _ (hK _ _ _ _ (hK _ _ _ _ (hK _ _ _ _ (?_))))))
                    exact ih (c + 1) _ _ (by omega) (by omega) (cn_t (show (lkb k o c a && lkb k o c b) = true by rw [z1, z2]; rfl)) hI_s
                · refine hK _ _ _ _ (⟨fun q => ?_, fun q => ?_⟩)
                  · refine hK _ _ _ _ (hK _ _ _ _ (hK _ _ _ _ (hK _ _ _ _ (hK _ _ _ _ (?_)))))
                    exact ih (c + 1) _ _ (by omega) (by omega) (cn_f (show (lkb k o c a && lkb k o c b) = false by rw [z1, z2]; rfl)) hI_s
                  · exact absurd rfl q
            · refine hK _ _ _ _ (⟨fun q => ?_, fun q => ?_⟩)
              · refine hK _ _ _ _ (hK _ _ _ _ (hK _ _ _ _ (hK _ _ _ _ (hK _ _ _ _ (?_)))))
                exact ih (c + 1) _ _ (by omega) (by omega) (cn_f (show (lkb k o c a && lkb k o c b) = false by rw [z1]; rfl)) hI_s
              · exact absurd rfl q
        · rw [hl] at z
          cases z
  have ml : ∀ (a : Nat), a < o → (∀ (x : Int32) (l4 l5 : Option aV), x = Int32.ofNat (su (fun a => su (cbg k o a) o) (a + 1)) → K 95 [some (vR 24 0), some (vI (Int32.ofNat o)), some (vI x), some (vI (Int32.ofNat a)), l4, l5] [] M) → ∀ (m b : Nat) (x y : Int32) (l5 : Option aV), o - b = m → b ≤ o → x = Int32.ofNat (su (fun a => su (cbg k o a) o) a + su (cbg k o a) b) → y = Int32.ofNat b → K 20 [some (vR 24 0), some (vI (Int32.ofNat o)), some (vI x), some (vI (Int32.ofNat a)), some (vI y), l5] [] M := by
    intro a ha out m
    induction m with
    | zero =>
      intro b x y l5 hm hb hx hy
      subst hx
      subst hy
      refine hK _ _ _ _ (hK _ _ _ _ (hK _ _ _ _ (⟨fun h => ?_, fun h => ?_⟩)))
      · exact out _ _ _ (by rw [show b = o by omega]; rfl)
      · exact absurd (x_nge (x := b) (y := o) rfl rfl (by omega) (by omega) h) (by omega)
    | succ m ih =>
      intro b x y l5 hm hb hx hy
      subst hx
      subst hy
      have hbo : b < o := by omega
      refine hK _ _ _ _ (hK _ _ _ _ (hK _ _ _ _ (⟨fun h => ?_, fun h => ?_⟩)))
      · exact absurd (x_ge (x := b) (y := o) rfl rfl (by omega) (by omega) h) (by omega)
      · refine hK _ _ _ _ (hK _ _ _ _ (?_))
        cases hl : lkb k o a b with
        | true =>
          refine il a b ha hbo hl (su (fun a => su (cbg k o a) o) a + su (cbg k o a) b) (fun x l5 hx => ?_) _ 0 _ _ rfl (Nat.zero_le _) rfl rfl
          subst hx
          refine hK _ _ _ _ (hK _ _ _ _ (?_))
          refine ih (b + 1) _ _ _ (by omega) (by omega) ?_ hI_s
          show _ = Int32.ofNat (su (fun a => su (cbg k o a) o) a + (su (cbg k o a) b + (bif lkb k o a b then cnt (cbf k o a b) o else 0)))
          rw [hl, cond_true, Nat.add_assoc]
        | false =>
          refine hK _ _ _ _ (hK _ _ _ _ (hK _ _ _ _ (⟨fun h => ?_, fun h => ?_⟩)))
          · exact absurd (x_ge (x := 0) (y := o) rfl rfl (by omega) (by omega) h) (by omega)
          · refine hK _ _ _ _ (hK _ _ _ _ (hK _ _ _ _ (hK _ _ _ _ (hK _ _ _ _ (⟨_, b_commute hF rfl rfl ha hbo, rfl, fun v42 M42 g42 => ?_⟩)))))
            obtain ⟨g42, rfl⟩ := g42
            rcases g42 with ⟨z, -⟩ | ⟨-, rfl⟩
            · rw [hl] at z
              cases z
            · refine hK _ _ _ _ (⟨fun q => ?_, fun q => ?_⟩)
              · refine hK _ _ _ _ (hK _ _ _ _ (?_))
                refine ih (b + 1) _ _ _ (by omega) (by omega) ?_ hI_s
                show _ = Int32.ofNat (su (fun a => su (cbg k o a) o) a + (su (cbg k o a) b + (bif lkb k o a b then cnt (cbf k o a b) o else 0)))
                rw [hl, cond_false, Nat.add_zero]
              · exact absurd rfl q
  have lp : ∀ (m a : Nat) (x y : Int32) (l4 l5 : Option aV), o - a = m → a ≤ o → x = Int32.ofNat (su (fun a => su (cbg k o a) o) a) → y = Int32.ofNat a → K 12 [some (vR 24 0), some (vI (Int32.ofNat o)), some (vI x), some (vI y), l4, l5] [] M := by
    intro m
    induction m with
    | zero =>
      intro a x y l4 l5 hm ha hx hy
      subst hx
      subst hy
      refine hK _ _ _ _ (hK _ _ _ _ (hK _ _ _ _ (⟨fun h => ?_, fun h => ?_⟩)))
      · refine hK _ _ _ _ (hK _ _ _ _ (hK _ _ _ _ (⟨fun h => ?_, fun h => ?_⟩)))
        · refine hK _ _ _ _ (hK _ _ _ _ (hK _ _ _ _ (⟨x_ne0 (by omega) (by omega), ?_⟩)))
          rw [x_div (show su (fun a => su (cbg k o a) o) a < 2147483648 by rw [show a = o by omega]; omega) (by omega)]
          exact hK _ _ _ _ (⟨by rw [show a = o by omega], rfl⟩)
        · exact absurd (x_nge (x := o) (y := 1) rfl rfl (by omega) (by decide) h) (by omega)
      · exact absurd (x_nge (x := a) (y := o) rfl rfl (by omega) (by omega) h) (by omega)
    | succ m ih =>
      intro a x y l4 l5 hm ha hx hy
      subst hx
      subst hy
      refine hK _ _ _ _ (hK _ _ _ _ (hK _ _ _ _ (⟨fun h => ?_, fun h => ?_⟩)))
      · exact absurd (x_ge (x := a) (y := o) rfl rfl (by omega) (by omega) h) (by omega)
      · refine hK _ _ _ _ (hK _ _ _ _ (?_))
        refine ml a (by omega) (fun x l4 l5 hx => ?_) _ 0 _ _ _ rfl (Nat.zero_le _) rfl rfl
        subst hx
        refine hK _ _ _ _ (hK _ _ _ _ (?_))
        exact ih (a + 1) _ _ _ _ (by omega) (by omega) rfl hI_s
  refine hK _ _ _ _ (hK _ _ _ _ (hK _ _ _ _ (⟨_, b_order, rfl, fun v4 M4 g4 => ?_⟩)))
  obtain ⟨rfl, rfl⟩ := g4
  rw [hF.1.2.2]
  refine hK _ _ _ _ (hK _ _ _ _ (hK _ _ _ _ (hK _ _ _ _ (hK _ _ _ _ (?_)))))
  exact lp _ 0 _ _ _ _ rfl (Nat.zero_le _) rfl rfl
theorem b_restsInAll {nS d k o s : Nat} {M : aM} (hF : gF 0 M k o) (hs : M.1 4 0 3 = Int32.ofNat s) (s2 : s ≤ 2) : aC nS (d + 4) 124 [vR 24 0] M (fun v M' => v = some (vI (Int32.ofNat (rsv k o s false))) ∧ M = M') (fun _ _ => False) := by
  have hq := hF.1.1
  obtain ⟨o2, o8, k3⟩ := gP_o hq
  refine aC_mk rfl rfl ?_
  intro K hK _
  refine hK _ _ _ _ (hK _ _ _ _ (hK _ _ _ _ (⟨_, b_isFlat hs s2, rfl, fun v4 M4 g4 => ?_⟩)))
  obtain ⟨g4, rfl⟩ := g4
  rcases g4 with ⟨s0, rfl⟩ | ⟨s0, rfl⟩
  · refine hK _ _ _ _ (⟨fun q => ?_, fun q => ?_⟩)
    · exact absurd q (by decide)
    · exact hK _ _ _ _ (hK _ _ _ _ (⟨by rw [s0]; rfl, rfl⟩))
  · refine hK _ _ _ _ (⟨fun q => ?_, fun q => ?_⟩)
    · refine hK _ _ _ _ (hK _ _ _ _ (hK _ _ _ _ (⟨_, b_isClosed hs s2, rfl, fun v16 M16 g16 => ?_⟩)))
      obtain ⟨g16, rfl⟩ := g16
      rcases g16 with ⟨s1, rfl⟩ | ⟨s1, rfl⟩
      · refine hK _ _ _ _ (⟨fun q => ?_, fun q => ?_⟩)
        · exact absurd q (by decide)
        · refine hK _ _ _ _ (hK _ _ _ _ (hK _ _ _ _ (hK _ _ _ _ (⟨_, b_commutators (t := 0) hF rfl (by decide), rfl, fun v27 M27 g27 => ?_⟩))))
          obtain ⟨rfl, rfl⟩ := g27
          exact hK _ _ _ _ (hK _ _ _ _ (⟨by rw [s1, ← rp_0 hq]; rfl, rfl⟩))
      · refine hK _ _ _ _ (⟨fun q => ?_, fun q => ?_⟩)
        · refine hK _ _ _ _ (hK _ _ _ _ (hK _ _ _ _ (⟨_, b_order, rfl, fun v37 M37 g37 => ?_⟩)))
          obtain ⟨rfl, rfl⟩ := g37
          rw [hF.1.2.2]
          exact hK _ _ _ _ (⟨by rw [show s = 1 by omega]; rfl, rfl⟩)
        · exact absurd rfl q
    · exact absurd rfl q
theorem b_restsOnce {nS d k o s : Nat} {M : aM} (hF : gF 0 M k o) (hs : M.1 4 0 3 = Int32.ofNat s) (s2 : s ≤ 2) : aC nS (d + 4) 125 [vR 24 0] M (fun v M' => v = some (vI (Int32.ofNat (rsv k o s true))) ∧ M = M') (fun _ _ => False) := by
  have hq := hF.1.1
  obtain ⟨o2, o8, k3⟩ := gP_o hq
  refine aC_mk rfl rfl ?_
  intro K hK _
  refine hK _ _ _ _ (hK _ _ _ _ (hK _ _ _ _ (⟨_, b_isFlat hs s2, rfl, fun v4 M4 g4 => ?_⟩)))
  obtain ⟨g4, rfl⟩ := g4
  rcases g4 with ⟨s0, rfl⟩ | ⟨s0, rfl⟩
  · refine hK _ _ _ _ (⟨fun q => ?_, fun q => ?_⟩)
    · exact absurd q (by decide)
    · exact hK _ _ _ _ (hK _ _ _ _ (⟨by rw [s0]; rfl, rfl⟩))
  · refine hK _ _ _ _ (⟨fun q => ?_, fun q => ?_⟩)
    · refine hK _ _ _ _ (hK _ _ _ _ (hK _ _ _ _ (⟨_, b_isClosed hs s2, rfl, fun v16 M16 g16 => ?_⟩)))
      obtain ⟨g16, rfl⟩ := g16
      rcases g16 with ⟨s1, rfl⟩ | ⟨s1, rfl⟩
      · refine hK _ _ _ _ (⟨fun q => ?_, fun q => ?_⟩)
        · exact absurd q (by decide)
        · refine hK _ _ _ _ (hK _ _ _ _ (⟨_, b_pairsOnce hF, rfl, fun v23 M23 g23 => ?_⟩))
          obtain ⟨rfl, rfl⟩ := g23
          exact hK _ _ _ _ (hK _ _ _ _ (⟨by rw [s1]; rfl, rfl⟩))
      · refine hK _ _ _ _ (⟨fun q => ?_, fun q => ?_⟩)
        · refine hK _ _ _ _ (hK _ _ _ _ (hK _ _ _ _ (⟨_, b_kins, rfl, fun v33 M33 g33 => ?_⟩)))
          obtain ⟨rfl, rfl⟩ := g33
          rw [hF.2.2.1]
          exact hK _ _ _ _ (⟨by rw [show s = 1 by omega]; rfl, rfl⟩)
        · exact absurd rfl q
    · exact absurd rfl q
theorem c_restsX {nS : Nat} {M : aM} {a1 : Int32} {e : xB} (hB : cB 0 M e) (b1 : a1 = 0 ∨ a1 = 1) : aC nS 60 170 [vR 0 0, vI a1] M (fun v M' => v = some (vI (Int32.ofNat (rsv e.1.1 e.1.2 e.2.1.2.2 (a1 == 1)))) ∧ M = M') (fun _ _ => False) := by
  obtain ⟨ho, o2, o8, hS, -, -, -, -, s2⟩ := cB_h hB
  rcases b1 with rfl | rfl
  · rw [x_b0]
    refine aC_mk rfl rfl ?_
    intro K hK _
    refine hK _ _ _ _ (hK _ _ _ _ (⟨fun q => ?_, fun q => ?_⟩))
    · refine hK _ _ _ _ (hK _ _ _ _ (hK _ _ _ _ (⟨_, b_restsInAll (d := 55) hB.1 hS.2.2.1 s2, rfl, fun v18 M18 g18 => ?_⟩)))
      obtain ⟨rfl, rfl⟩ := g18
      exact hK _ _ _ _ (⟨rfl, rfl⟩)
    · exact absurd rfl q
  · rw [x_b1]
    refine aC_mk rfl rfl ?_
    intro K hK _
    refine hK _ _ _ _ (hK _ _ _ _ (⟨fun q => ?_, fun q => ?_⟩))
    · exact absurd q (by decide)
    · refine hK _ _ _ _ (hK _ _ _ _ (hK _ _ _ _ (⟨_, b_restsOnce (d := 55) hB.1 hS.2.2.1 s2, rfl, fun v8 M8 g8 => ?_⟩)))
      obtain ⟨rfl, rfl⟩ := g8
      exact hK _ _ _ _ (hK _ _ _ _ (⟨rfl, rfl⟩))
theorem r_restsN {nS d k o s : Nat} {M : aM} {ob : Bool} (hg : gM (a_pI M 36 0 0 0) k o) (hs : (a_pI M 36 0 0 0).1 37 0 5 = Int32.ofNat s) (s2 : s ≤ 2) : aC nS (d + 6) 248 [vR 36 0, vI (i01 ob)] M (fun v M' => v = some (vI (Int32.ofNat (rsv k o s ob))) ∧ M' = a_pI M 36 0 0 0) (fun _ _ => False) := by
  have hq := hg.1
  obtain ⟨o2, o8, k3⟩ := gP_o hq
  refine aC_mk rfl rfl ?_
  intro K hK _
  have il : ∀ (a b n : Nat), a < o → b < o → (∀ (x : Int32) (l6 l7 l8 : Option aV), x = i01 (lsf k o a b o) → K 178 [some (vR 36 0), some (vI (i01 ob)), some (vI (Int32.ofNat n)), some (vI (Int32.ofNat a)), some (vI (Int32.ofNat b)), some (vI x), l6, l7, l8] [] (a_pI M 36 0 0 0)) → ∀ (m c : Nat) (x y : Int32) (l7 l8 : Option aV), o - c = m → c ≤ o → x = i01 (lsf k o a b c) → y = Int32.ofNat c → K 91 [some (vR 36 0), some (vI (i01 ob)), some (vI (Int32.ofNat n)), some (vI (Int32.ofNat a)), some (vI (Int32.ofNat b)), some (vI x), some (vI y), l7, l8] [] (a_pI M 36 0 0 0) := by
    intro a b n ha hb out m
    induction m with
    | zero =>
      intro c x y l7 l8 hm hc hx hy
      subst hx
      subst hy
      refine hK _ _ _ _ (hK _ _ _ _ (hK _ _ _ _ (hK _ _ _ _ (hK _ _ _ _ (⟨x_vp (a := 2) rfl (by decide) (by decide), ?_⟩)))))
      rw [x_cl (j := 2) (a := 2) rfl (by decide), hg.2.2]
      refine hK _ _ _ _ (⟨fun h => ?_, fun h => ?_⟩)
      · exact out _ _ _ _ (by rw [show c = o by omega])
      · exact absurd (x_nge (x := c) (y := o) rfl rfl (by omega) (by omega) h) (by omega)
    | succ m ih =>
      intro c x y l7 l8 hm hc hx hy
      subst hx
      subst hy
      have hco : c < o := by omega
      have r1 := rt_lt hq hco ha
      have r2 := ag_lt hq hco
      have r3 := rt_lt hq r1 r2
      have r4 := rt_lt hq hco hb
      have r5 := rt_lt hq r4 r2
      refine hK _ _ _ _ (hK _ _ _ _ (hK _ _ _ _ (hK _ _ _ _ (hK _ _ _ _ (⟨x_vp (a := 2) rfl (by decide) (by decide), ?_⟩)))))
      rw [x_cl (j := 2) (a := 2) rfl (by decide), hg.2.2]
      refine hK _ _ _ _ (⟨fun h => ?_, fun h => ?_⟩)
      · exact absurd (x_ge (x := c) (y := o) rfl rfl (by omega) (by omega) h) (by omega)
      · refine hK _ _ _ _ (hK _ _ _ _ (hK _ _ _ _ (hK _ _ _ _ (hK _ _ _ _ (⟨_, g_times hg hco ha, rfl, fun v107 M107 g107 => ?_⟩)))))
        obtain ⟨rfl, rfl⟩ := g107
        refine hK _ _ _ _ (hK _ _ _ _ (hK _ _ _ _ (⟨_, g_against hg hco, rfl, fun v113 M113 g113 => ?_⟩)))
        obtain ⟨rfl, rfl⟩ := g113
        refine hK _ _ _ _ (⟨_, g_times hg r1 r2, rfl, fun v116 M116 g116 => ?_⟩)
        obtain ⟨rfl, rfl⟩ := g116
        refine hK _ _ _ _ (hK _ _ _ _ (hK _ _ _ _ (hK _ _ _ _ (hK _ _ _ _ (hK _ _ _ _ (⟨_, g_times hg hco hb, rfl, fun v127 M127 g127 => ?_⟩))))))
        obtain ⟨rfl, rfl⟩ := g127
        refine hK _ _ _ _ (hK _ _ _ _ (hK _ _ _ _ (⟨_, g_against hg hco, rfl, fun v133 M133 g133 => ?_⟩)))
        obtain ⟨rfl, rfl⟩ := g133
        refine hK _ _ _ _ (⟨_, g_times hg r4 r2, rfl, fun v136 M136 g136 => ?_⟩)
        obtain ⟨rfl, rfl⟩ := g136
        have e9 : lsf k o a b (c + 1) = (lsf k o a b c && (Nat.blt a (rt k o (rt k o c a) (ag k o c)) || (Nat.beq (rt k o (rt k o c a) (ag k o c)) a && Nat.ble b (rt k o (rt k o c b) (ag k o c))))) := rfl
        cases hl : lsf k o a b c with
        | false =>
          refine hK _ _ _ _ (hK _ _ _ _ (hK _ _ _ _ (⟨fun q => ?_, fun q => ?_⟩)))
          · refine hK _ _ _ _ (hK _ _ _ _ (hK _ _ _ _ (hK _ _ _ _ (?_))))
            exact ih (c + 1) _ _ _ _ (by omega) (by omega) (by rw [e9, hl]; rfl) hI_s
          · exact absurd rfl q
        | true =>
          refine hK _ _ _ _ (hK _ _ _ _ (hK _ _ _ _ (⟨fun q => ?_, fun q => ?_⟩)))
          · exact absurd q (by decide)
          · refine hK _ _ _ _ (hK _ _ _ _ (hK _ _ _ _ (⟨fun h => ?_, fun h => ?_⟩)))
            · refine hK _ _ _ _ (hK _ _ _ _ (hK _ _ _ _ (hK _ _ _ _ (hK _ _ _ _ (?_)))))
              exact ih (c + 1) _ _ _ _ (by omega) (by omega) (by rw [e9, hl, x_blt (x_lt (x := a) rfl rfl (by omega) (by omega) h)]; rfl) hI_s
            · have z1 := x_nlt (x := a) rfl rfl (by omega) (by omega) h
              refine hK _ _ _ _ (hK _ _ _ _ (hK _ _ _ _ (⟨fun q => ?_, fun q => ?_⟩)))
              · refine hK _ _ _ _ (hK _ _ _ _ (hK _ _ _ _ (hK _ _ _ _ (?_))))
                exact ih (c + 1) _ _ _ _ (by omega) (by omega) (by rw [e9, hl, x_nblt (show ¬ a < rt k o (rt k o c a) (ag k o c) by omega), x_nbq (show ¬ rt k o (rt k o c a) (ag k o c) = a from fun z => q (by rw [z]))]; rfl) hI_s
              · have z2 := x_eq rfl rfl (by omega) (by omega) q
                refine hK _ _ _ _ (hK _ _ _ _ (hK _ _ _ _ (⟨fun h => ?_, fun h => ?_⟩)))
                · have z3 := x_lt rfl rfl (by omega) (by omega) h
                  refine hK _ _ _ _ (hK _ _ _ _ (hK _ _ _ _ (hK _ _ _ _ (?_))))
                  exact ih (c + 1) _ _ _ _ (by omega) (by omega) (by rw [e9, hl, x_nblt (show ¬ a < rt k o (rt k o c a) (ag k o c) by omega), x_nble (show ¬ b ≤ rt k o (rt k o c b) (ag k o c) by omega), Bool.and_false]; rfl) hI_s
                · have z3 := x_nlt rfl rfl (by omega) (by omega) h
                  refine hK _ _ _ _ (hK _ _ _ _ (hK _ _ _ _ (hK _ _ _ _ (hK _ _ _ _ (?_)))))
                  exact ih (c + 1) _ _ _ _ (by omega) (by omega) (by rw [e9, hl, x_beq z2, Nat.ble_eq_true_of_le z3, Bool.and_self, Bool.or_true]; rfl) hI_s
  have ml : ∀ (a : Nat), a < o → (∀ (x : Int32) (l4 l5 l6 l7 l8 : Option aV), x = Int32.ofNat (cs (rpf k o ob) o (a + 1)) → K 201 [some (vR 36 0), some (vI (i01 ob)), some (vI x), some (vI (Int32.ofNat a)), l4, l5, l6, l7, l8] [] (a_pI M 36 0 0 0)) → ∀ (m b : Nat) (x y : Int32) (l5 l6 l7 l8 : Option aV), o - b = m → b ≤ o → x = Int32.ofNat (cs (rpf k o ob) o a + cnt (rpf k o ob a) b) → y = Int32.ofNat b → K 61 [some (vR 36 0), some (vI (i01 ob)), some (vI x), some (vI (Int32.ofNat a)), some (vI y), l5, l6, l7, l8] [] (a_pI M 36 0 0 0) := by
    intro a ha out m
    induction m with
    | zero =>
      intro b x y l5 l6 l7 l8 hm hb hx hy
      subst hx
      subst hy
      refine hK _ _ _ _ (hK _ _ _ _ (hK _ _ _ _ (hK _ _ _ _ (hK _ _ _ _ (⟨x_vp (a := 2) rfl (by decide) (by decide), ?_⟩)))))
      rw [x_cl (j := 2) (a := 2) rfl (by decide), hg.2.2]
      refine hK _ _ _ _ (⟨fun h => ?_, fun h => ?_⟩)
      · exact out _ _ _ _ _ _ (by rw [show b = o by omega]; rfl)
      · exact absurd (x_nge (x := b) (y := o) rfl rfl (by omega) (by omega) h) (by omega)
    | succ m ih =>
      intro b x y l5 l6 l7 l8 hm hb hx hy
      subst hx
      subst hy
      have hbo : b < o := by omega
      refine hK _ _ _ _ (hK _ _ _ _ (hK _ _ _ _ (hK _ _ _ _ (hK _ _ _ _ (⟨x_vp (a := 2) rfl (by decide) (by decide), ?_⟩)))))
      rw [x_cl (j := 2) (a := 2) rfl (by decide), hg.2.2]
      refine hK _ _ _ _ (⟨fun h => ?_, fun h => ?_⟩)
      · exact absurd (x_ge (x := b) (y := o) rfl rfl (by omega) (by omega) h) (by omega)
      · refine hK _ _ _ _ (hK _ _ _ _ (hK _ _ _ _ (hK _ _ _ _ (⟨_, r_areLike hg ha hbo, rfl, fun v76 M76 g76 => ?_⟩))))
        obtain ⟨g76, rfl⟩ := g76
        rcases g76 with ⟨z1, rfl⟩ | ⟨z1, rfl⟩
        · refine hK _ _ _ _ (⟨fun q => ?_, fun q => ?_⟩)
          · refine hK _ _ _ _ (hK _ _ _ _ (hK _ _ _ _ (hK _ _ _ _ (?_))))
            refine il a b _ ha hbo (fun x l6 l7 l8 hx => ?_) _ 0 _ _ _ _ rfl (Nat.zero_le _) rfl rfl
            subst hx
            cases hl : lsf k o a b o with
            | true =>
              refine hK _ _ _ _ (hK _ _ _ _ (hK _ _ _ _ (⟨fun q => ?_, fun q => ?_⟩)))
              · refine hK _ _ _ _ (hK _ _ _ _ (hK _ _ _ _ (hK _ _ _ _ (hK _ _ _ _ (hK _ _ _ _ (?_))))))
                exact ih (b + 1) _ _ _ _ _ _ (by omega) (by omega) (cn_t (show (lkb k o a b && (lsf k o a b o || !ob)) = true by rw [z1, hl]; rfl)) hI_s
              · exact absurd q (by decide)
            | false =>
              refine hK _ _ _ _ (hK _ _ _ _ (hK _ _ _ _ (⟨fun q => ?_, fun q => ?_⟩)))
              · exact absurd rfl q
              · cases ob with
                | true =>
                  refine hK _ _ _ _ (hK _ _ _ _ (⟨fun q => ?_, fun q => ?_⟩))
                  · refine hK _ _ _ _ (hK _ _ _ _ (hK _ _ _ _ (hK _ _ _ _ (hK _ _ _ _ (?_)))))
                    exact ih (b + 1) _ _ _ _ _ _ (by omega) (by omega) (cn_f (show (lkb k o a b && (lsf k o a b o || !true)) = false by rw [z1, hl]; rfl)) hI_s
                  · exact absurd q (by decide)
                | false =>
                  refine hK _ _ _ _ (hK _ _ _ _ (⟨fun q => ?_, fun q => ?_⟩))
                  · exact absurd rfl q
                  · refine hK _ _ _ _ (hK _ _ _ _ (hK _ _ _ _ (hK _ _ _ _ (hK _ _ _ _ (hK _ _ _ _ (?_))))))
                    exact ih (b + 1) _ _ _ _ _ _ (by omega) (by omega) (cn_t (show (lkb k o a b && (lsf k o a b o || !false)) = true by rw [z1, hl]; rfl)) hI_s
          · exact absurd q (by decide)
        · refine hK _ _ _ _ (⟨fun q => ?_, fun q => ?_⟩)
          · exact absurd rfl q
          · refine hK _ _ _ _ (hK _ _ _ _ (hK _ _ _ _ (?_)))
            refine ih (b + 1) _ _ _ _ _ _ (by omega) (by omega) ?_ hI_s
            show _ = Int32.ofNat (cs (rpf k o ob) o a + (cnt (rpf k o ob a) b + (bif (lkb k o a b && (lsf k o a b o || !ob)) then 1 else 0)))
            rw [z1, Bool.false_and, cond_false, Nat.add_zero]
  have lp : ∀ (m a : Nat) (x y : Int32) (l4 l5 l6 l7 l8 : Option aV), ¬ s = 0 → ¬ s = 1 → o - a = m → a ≤ o → x = Int32.ofNat (cs (rpf k o ob) o a) → y = Int32.ofNat a → K 48 [some (vR 36 0), some (vI (i01 ob)), some (vI x), some (vI y), l4, l5, l6, l7, l8] [] (a_pI M 36 0 0 0) := by
    intro m
    induction m with
    | zero =>
      intro a x y l4 l5 l6 l7 l8 s0 s1 hm ha hx hy
      subst hx
      subst hy
      refine hK _ _ _ _ (hK _ _ _ _ (hK _ _ _ _ (hK _ _ _ _ (hK _ _ _ _ (⟨x_vp (a := 2) rfl (by decide) (by decide), ?_⟩)))))
      rw [x_cl (j := 2) (a := 2) rfl (by decide), hg.2.2]
      refine hK _ _ _ _ (⟨fun h => ?_, fun h => ?_⟩)
      · exact hK _ _ _ _ (hK _ _ _ _ (⟨by rw [show a = o by omega, show s = 2 by omega]; rfl, rfl⟩))
      · exact absurd (x_nge (x := a) (y := o) rfl rfl (by omega) (by omega) h) (by omega)
    | succ m ih =>
      intro a x y l4 l5 l6 l7 l8 s0 s1 hm ha hx hy
      subst hx
      subst hy
      refine hK _ _ _ _ (hK _ _ _ _ (hK _ _ _ _ (hK _ _ _ _ (hK _ _ _ _ (⟨x_vp (a := 2) rfl (by decide) (by decide), ?_⟩)))))
      rw [x_cl (j := 2) (a := 2) rfl (by decide), hg.2.2]
      refine hK _ _ _ _ (⟨fun h => ?_, fun h => ?_⟩)
      · exact absurd (x_ge (x := a) (y := o) rfl rfl (by omega) (by omega) h) (by omega)
      · refine hK _ _ _ _ (hK _ _ _ _ (?_))
        refine ml a (by omega) (fun x l4 l5 l6 l7 l8 hx => ?_) _ 0 _ _ _ _ _ _ rfl (Nat.zero_le _) rfl rfl
        subst hx
        refine hK _ _ _ _ (hK _ _ _ _ (?_))
        exact ih (a + 1) _ _ _ _ _ _ _ s0 s1 (by omega) (by omega) rfl hI_s
  refine hK _ _ _ _ (hK _ _ _ _ (hK _ _ _ _ (hK _ _ _ _ (hK _ _ _ _ (hK _ _ _ _ (hK _ _ _ _ (⟨x_vp (a := 5) rfl (by decide) (by decide), ?_⟩)))))))
  rw [x_cl (j := 5) (a := 5) rfl (by decide), hs]
  refine hK _ _ _ _ (⟨fun q => ?_, fun q => ?_⟩)
  · have s0 : ¬ s = 0 := fun z => q (by rw [z]; rfl)
    refine hK _ _ _ _ (hK _ _ _ _ (hK _ _ _ _ (hK _ _ _ _ (⟨x_vp (a := 5) rfl (by decide) (by decide), ?_⟩))))
    rw [x_cl (j := 5) (a := 5) rfl (by decide), hs]
    refine hK _ _ _ _ (hK _ _ _ _ (⟨fun q => ?_, fun q => ?_⟩))
    · have s1 : ¬ s = 1 := fun z => q (by rw [z]; rfl)
      refine hK _ _ _ _ (hK _ _ _ _ (hK _ _ _ _ (hK _ _ _ _ (?_))))
      exact lp _ 0 _ _ _ _ _ _ _ s0 s1 rfl (Nat.zero_le _) rfl rfl
    · have s1 : s = 1 := x_eq (y := 1) rfl rfl (by omega) (by decide) q
      cases ob with
      | true =>
        refine hK _ _ _ _ (hK _ _ _ _ (⟨fun q => ?_, fun q => ?_⟩))
        · exact absurd q (by decide)
        · refine hK _ _ _ _ (hK _ _ _ _ (⟨_, r_kins hg, rfl, fun v31 M31 g31 => ?_⟩))
          obtain ⟨rfl, rfl⟩ := g31
          exact hK _ _ _ _ (hK _ _ _ _ (⟨by rw [s1, rkc_kc hq]; rfl, rfl⟩))
      | false =>
        refine hK _ _ _ _ (hK _ _ _ _ (⟨fun q => ?_, fun q => ?_⟩))
        · refine hK _ _ _ _ (hK _ _ _ _ (hK _ _ _ _ (hK _ _ _ _ (⟨x_vp (a := 2) rfl (by decide) (by decide), ?_⟩))))
          rw [x_cl (j := 2) (a := 2) rfl (by decide), hg.2.2]
          exact hK _ _ _ _ (⟨by rw [s1]; rfl, rfl⟩)
        · exact absurd rfl q
  · have s0 : s = 0 := x_eq (y := 0) rfl rfl (by omega) (by decide) q
    exact hK _ _ _ _ (hK _ _ _ _ (⟨by rw [s0]; rfl, rfl⟩))
theorem r_restsX {nS : Nat} {M : aM} {a1 : Int32} {e : xB} (hB : rB 37 M e) (b1 : a1 = 0 ∨ a1 = 1) : aC nS 60 248 [vR 36 0, vI a1] M (fun v M' => v = some (vI (Int32.ofNat (rsv e.1.1 e.1.2 e.2.1.2.2 (a1 == 1)))) ∧ M' = a_pI M 36 0 0 0) (fun _ _ => False) := by
  obtain ⟨ho, o2, o8, hS, -, -, -, -, s2⟩ := rB_h hB
  have hs : (a_pI M 36 0 0 0).1 37 0 5 = Int32.ofNat e.2.1.2.2 := (x_pn (fun z => absurd z.1 (by decide))).trans hS.2.2
  rcases b1 with rfl | rfl
  · rw [x_b0]
    exact r_restsN (d := 54) (ob := false) (gM_p (rB_g hB)) hs s2
  · rw [x_b1]
    exact r_restsN (d := 54) (ob := true) (gM_p (rB_g hB)) hs s2
