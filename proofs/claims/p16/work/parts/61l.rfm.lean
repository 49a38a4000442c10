theorem cnt_P {f : Nat → Bool} : ∀ n, cnt f n = (List.range n).countP f
  | 0 => rfl
  | n + 1 => by
    rw [List.range_succ, List.countP_append, ← cnt_P n, List.countP_singleton]
    show cnt f n + (bif f n then 1 else 0) = _
    cases f n <;> rfl
theorem cnt_pe {w h s : Nat} {g : Nat → Bool} (w1 : 1 ≤ w) (w3 : w ≤ 3) (h1 : 1 ≤ h) (h3 : h ≤ 3) (s2 : s ≤ 2) : cnt (fun l => g (lm w h s l) && hl w h s l) 32 = cnt g (lmy w h s) := by
  have hp := sz_all (P := fun w h s => (((List.range 32).filter (hl w h s)).map (lm w h s)).isPerm (List.range (lmy w h s))) (by decide +kernel) w1 w3 h1 h3 s2
  have hp := List.isPerm_iff.mp hp
  rw [cnt_P, cnt_P, ← hp.countP_eq g, List.countP_map, List.countP_filter]
  rfl
theorem cnt_e {f g : Nat → Bool} : ∀ n, (∀ i, i < n → f i = g i) → cnt f n = cnt g n
  | 0, _ => rfl
  | n + 1, h => by
    show cnt f n + (bif f n then 1 else 0) = cnt g n + (bif g n then 1 else 0)
    rw [cnt_e n (fun i hi => h i (by omega)), h n (by omega)]
/-- a turn behind a change of frames: p, q: whether the line begins, ends there -/
def rf (k o : Nat) (p q : Bool) (u a : Nat) : Nat := bif q then rt k o (bif p then rt k o u a else a) (ag k o u) else bif p then rt k o u a else a
theorem rf_lt {k o u a : Nat} {p q : Bool} (hq : (k, o) ∈ gP) (hu : u < o) (ha : a < o) : rf k o p q u a < o := by
  have h1 : (bif p then rt k o u a else a) < o := by
    cases p with
    | true => exact rt_lt hq hu ha
    | false => exact ha
  cases q with
  | true => exact rt_lt hq h1 (ag_lt hq hu)
  | false => exact h1
theorem rf_inv {k o u a : Nat} {p q : Bool} (hq : (k, o) ∈ gP) (hu : u < o) (ha : a < o) : rf k o p q (ag k o u) (rf k o p q u a) = a := by
  have h := gT_all (P := fun k o u a => (Nat.beq (rf k o true true (ag k o u) (rf k o true true u a)) a && Nat.beq (rf k o true false (ag k o u) (rf k o true false u a)) a) && (Nat.beq (rf k o false true (ag k o u) (rf k o false true u a)) a && Nat.beq (rf k o false false (ag k o u) (rf k o false false u a)) a)) (by decide +kernel) hq hu ha
  rw [Bool.and_eq_true, Bool.and_eq_true, Bool.and_eq_true] at h
  cases p with
  | true => cases q with
    | true => exact Nat.eq_of_beq_eq_true h.1.1
    | false => exact Nat.eq_of_beq_eq_true h.1.2
  | false => cases q with
    | true => exact Nat.eq_of_beq_eq_true h.2.1
    | false => exact Nat.eq_of_beq_eq_true h.2.2
def rfv (k o w h s c u l : Nat) (v : Int32) : Int32 := Int32.ofNat (rf k o (Nat.beq (l / 2) c) (Nat.beq (len w h s l) c) u (xn v))
theorem xn_o {a : Nat} (ha : a < 1000) : xn (Int32.ofNat a) = a := x_cl rfl (by omega)
/-- what differs behind a change of frames -/
def rfd (k o w h s c u : Nat) (S : Nat → Int32) (l : Nat) : Bool := hl w h s l && !(Nat.beq (rf k o (Nat.beq (l / 2) c) (Nat.beq (len w h s l) c) u (xn (S l))) (xn (S l)))
theorem len_lt {w h s l : Nat} (w1 : 1 ≤ w) (w3 : w ≤ 3) (h1 : 1 ≤ h) (h3 : h ≤ 3) (hv : hl w h s l = true) : len w h s l < 16 := by
  have hb := hl_b w1 w3 h1 h3 hv
  unfold len
  rcases hb with ⟨h4, h5, h6⟩ | ⟨h4, h5, h6⟩
  · rw [x_beq h4, cond_true]
    have p1 := (xcx_b (s := s) w1 w3 h5).2
    have p2 := (xcy_b (s := s) h1 h3 h6).2
    show xcy h s (l / 2 / 4) * 4 + xcx w s (l / 2 % 4 + 1) < 16
    omega
  · rw [x_nbeq (show ¬ l % 2 = 0 by omega), cond_false]
    have p1 := (xcx_b (s := s) w1 w3 h5).2
    have p2 := (xcy_b (s := s) h1 h3 h6).2
    show xcy h s (l / 2 / 4 + 1) * 4 + xcx w s (l / 2 % 4) < 16
    omega
theorem b_reframe {nS d i w h s k o c u : Nat} {M : aM} {x t : Int32} (hs : cS i M w h s) (w1 : 1 ≤ w) (w3 : w ≤ 3) (h1 : 1 ≤ h) (h3 : h ≤ 3) (hF : gF i M k o) (hO : lO w h s o (M.1 12 i)) (hx : x = Int32.ofNat c) (hc : c < 16) (ht : t = Int32.ofNat u) (hu : u < o) : aC nS (d + 4) 37 [vR 4 i, vI x, vI t] M (fun v M' => v = some (vI (Int32.ofNat (cnt (rfd k o w h s c u (M.1 12 i)) 32))) ∧ fr (PR 12 i) M M' ∧ ∀ l, l < 32 → M'.1 12 i l = if hl w h s l = true then rfv k o w h s c u l (M.1 12 i l) else M.1 12 i l) (fun _ _ => False) := by
  subst hx
  subst ht
  obtain ⟨o2, o8, k3⟩ := gP_o hF.1.1
  refine aC_mk rfl rfl ?_
  intro K hK _
  have lp : ∀ (m j : Nat) (y ch : Int32) (l5 l6 : Option aV) (M1 : aM), 32 - j = m → j ≤ 32 → y = Int32.ofNat j → ch = Int32.ofNat (cnt (rfd k o w h s c u (M.1 12 i)) j) → fr (PR 12 i) M M1 → (∀ l, l < 32 → M1.1 12 i l = if l < j ∧ hl w h s l = true then rfv k o w h s c u l (M.1 12 i l) else M.1 12 i l) → K 5 [some (vR 4 i), some (vI (Int32.ofNat c)), some (vI (Int32.ofNat u)), some (vI ch), some (vI y), l5, l6] [] M1 := by
    intro m
    induction m with
    | zero =>
      intro j y ch l5 l6 M1 hm hj hy hch hf hC
      subst hy
      subst hch
      refine hK _ _ _ _ (hK _ _ _ _ (hK _ _ _ _ (⟨fun h9 => ?_, fun h9 => ?_⟩)))
      · refine hK _ _ _ _ (hK _ _ _ _ (⟨?_, hf, fun l hl9 => ?_⟩))
        · rw [show j = 32 by omega]
        · rw [hC l hl9]
          by_cases hv : hl w h s l = true
          · rw [if_pos hv, if_pos ⟨by omega, hv⟩]
          · rw [if_neg hv, if_neg (fun z => hv z.2)]
      · exact absurd (x_nge (x := j) (y := 32) rfl rfl (by omega) (by decide) h9) (by omega)
    | succ m ih =>
      intro j y ch l5 l6 M1 hm hj hy hch hf hC
      subst hy
      subst hch
      have hs1 : cS i M1 w h s := ⟨(hf.1 4 i 1 rfl).trans hs.1, (hf.1 4 i 2 rfl).trans hs.2.1, (hf.1 4 i 3 rfl).trans hs.2.2.1, (hf.1 4 i 5 rfl).trans hs.2.2.2.1, (hf.1 4 i 6 rfl).trans hs.2.2.2.2⟩
      have hF1 : gF i M1 k o := gF_fr hF (fun q j a b => hf.1 q i j (by rw [PR_n (by omega)]))
      have cn : ∀ {b : Bool}, rfd k o w h s c u (M.1 12 i) j = b → cnt (rfd k o w h s c u (M.1 12 i)) (j + 1) = cnt (rfd k o w h s c u (M.1 12 i)) j + (bif b then 1 else 0) := fun e => by rw [← e]; rfl
      refine hK _ _ _ _ (hK _ _ _ _ (hK _ _ _ _ (⟨fun h9 => ?_, fun h9 => ?_⟩)))
      · exact absurd (x_ge (x := j) (y := 32) rfl rfl (by omega) (by decide) h9) (by omega)
      · refine hK _ _ _ _ (hK _ _ _ _ (hK _ _ _ _ (⟨_, b_hasL (d := d + 1) hs1 w1 w3 h1 h3 (show j < 32 by omega) rfl, rfl, fun v15 M15 g15 => ?_⟩)))
        obtain ⟨rfl, rfl⟩ := g15
        by_cases hv : hl w h s j = true
        case neg =>
          rw [if_neg hv]
          refine hK _ _ _ _ (⟨fun q => ?_, fun q => ?_⟩)
          · exact absurd rfl q
          · refine hK _ _ _ _ (hK _ _ _ _ (hK _ _ _ _ (?_)))
            have hv0 : hl w h s j = false := by
              cases hb : hl w h s j with
              | true => exact absurd hb hv
              | false => rfl
            refine ih (j + 1) _ _ _ _ _ (by omega) (by omega) hI_s ?_ hf (fun l hl9 => ?_)
            · rw [cn (b := false) (by unfold rfd; rw [hv0]; rfl)]
              rfl
            · rw [hC l hl9]
              by_cases hl8 : l < j ∧ hl w h s l = true
              · rw [if_pos hl8, if_pos ⟨by omega, hl8.2⟩]
              · rw [if_neg hl8, if_neg (fun z => hl8 ⟨by have := z.1; have h7 : l ≠ j := fun z2 => hv (by rw [← z2]; exact z.2); omega, z.2⟩)]
        case pos =>
          rw [if_pos hv]
          obtain ⟨ea, ha⟩ := okT_n o8 (hO j (by omega) hv)
          have hM1 : M1.1 12 i j = Int32.ofNat (xn (M.1 12 i j)) := by rw [hC j (by omega), if_neg (fun z => absurd z.1 (Nat.lt_irrefl j))]; exact ea
          refine hK _ _ _ _ (⟨fun _ => ?_, fun q => absurd q (by decide)⟩)
          refine hK _ _ _ _ (hK _ _ _ _ (hK _ _ _ _ (⟨_, b_turnOn (d := d + 1) rfl (show j < 32 by omega), rfl, fun v27 M27 g27 => ?_⟩)))
          obtain ⟨rfl, rfl⟩ := g27
          rw [hM1]
          generalize he : xn (M.1 12 i j) = a at ha
          -- behind both ends
          have fin : ∀ a2, a2 = rf k o (Nat.beq (j / 2) c) (Nat.beq (len w h s j) c) u a → K 86 [some (vR 4 i), some (vI (Int32.ofNat c)), some (vI (Int32.ofNat u)), some (vI (Int32.ofNat (cnt (rfd k o w h s c u (M.1 12 i)) j))), some (vI (Int32.ofNat j)), some (vI (Int32.ofNat a)), some (vI (Int32.ofNat a2))] [] M1 := by
            intro a2 e2
            have a2o : a2 < o := by rw [e2]; exact rf_lt hF.1.1 hu ha
            have fr2 : fr (PR 12 i) M (a_pI M1 12 i j (Int32.ofNat a2)) := fr_p hf PR_t
            have C2 : ∀ l, l < 32 → (a_pI M1 12 i j (Int32.ofNat a2)).1 12 i l = if l < j + 1 ∧ hl w h s l = true then rfv k o w h s c u l (M.1 12 i l) else M.1 12 i l := fun l hl9 => by
              by_cases h7 : l = j
              · rw [h7, x_pe, if_pos ⟨Nat.lt_succ_self j, hv⟩]
                unfold rfv
                rw [he, e2]
              · rw [x_pn (fun z => h7 z.2.2), hC l hl9]
                by_cases hl8 : l < j ∧ hl w h s l = true
                · rw [if_pos hl8, if_pos ⟨by omega, hl8.2⟩]
                · rw [if_neg hl8, if_neg (fun z => hl8 ⟨by have := z.1; omega, z.2⟩)]
            refine hK _ _ _ _ (hK _ _ _ _ (hK _ _ _ _ (hK _ _ _ _ (⟨_, b_putTurn (d := d + 1) rfl (show j < 32 by omega), rfl, fun v91 M91 g91 => ?_⟩))))
            obtain ⟨rfl, rfl⟩ := g91
            have rd : rfd k o w h s c u (M.1 12 i) j = !(Nat.beq a2 a) := by
              unfold rfd
              rw [hv, he, ← e2]
              rfl
            refine hK _ _ _ _ (hK _ _ _ _ (hK _ _ _ _ (hK _ _ _ _ (⟨fun q => ?_, fun q => ?_⟩))))
            · refine hK _ _ _ _ (hK _ _ _ _ (hK _ _ _ _ (hK _ _ _ _ (hK _ _ _ _ (?_)))))
              refine ih (j + 1) _ _ _ _ _ (by omega) (by omega) hI_s ?_ fr2 C2
              rw [cn (b := true) (by rw [rd, x_nbeq (fun z => q (by rw [z]))]; rfl)]
              exact hI_s
            · refine hK _ _ _ _ (hK _ _ _ _ (hK _ _ _ _ (hK _ _ _ _ (hK _ _ _ _ (hK _ _ _ _ (?_))))))
              refine ih (j + 1) _ _ _ _ _ (by omega) (by omega) hI_s ?_ fr2 C2
              rw [cn (b := false) (by rw [rd, x_beq (x_inj (by omega) (by omega) q)]; rfl)]
              exact Int32.add_zero _
          have two : ∀ a1, a1 = (bif Nat.beq (j / 2) c then rt k o u a else a) → K 57 [some (vR 4 i), some (vI (Int32.ofNat c)), some (vI (Int32.ofNat u)), some (vI (Int32.ofNat (cnt (rfd k o w h s c u (M.1 12 i)) j))), some (vI (Int32.ofNat j)), some (vI (Int32.ofNat a)), some (vI (Int32.ofNat a1))] [] M1 := by
            intro a1 e1
            have a1o : a1 < o := by
              rw [e1]
              cases Nat.beq (j / 2) c with
              | true => exact rt_lt hF.1.1 hu ha
              | false => exact ha
            refine hK _ _ _ _ (hK _ _ _ _ (hK _ _ _ _ (⟨_, b_endOf (d := d + 1) hs1 w1 w3 h1 h3 (show j < 32 by omega) hv rfl, rfl, fun v60 M60 g60 => ?_⟩)))
            obtain ⟨rfl, rfl⟩ := g60
            refine hK _ _ _ _ (hK _ _ _ _ (⟨fun q => ?_, fun q => ?_⟩))
            · refine ?_
              refine fin a1 ?_
              unfold rf
              rw [x_nbeq (fun z => q (by rw [z])), e1]
              rfl
            · refine hK _ _ _ _ (hK _ _ _ _ (hK _ _ _ _ (hK _ _ _ _ (hK _ _ _ _ (hK _ _ _ _ (hK _ _ _ _ (⟨_, g_cagainst (d := d + 2) hF1.1.1 hF1.2.1 rfl hu, rfl, fun v78 M78 g78 => ?_⟩)))))))
              obtain ⟨rfl, rfl⟩ := g78
              refine hK _ _ _ _ (⟨_, g_ctimes (d := d + 2) hF1.1.1 hF1.2.1 rfl rfl a1o (ag_lt hF.1.1 hu), rfl, fun v81 M81 g81 => ?_⟩)
              obtain ⟨rfl, rfl⟩ := g81
              refine hK _ _ _ _ (?_)
              refine fin _ ?_
              have el : len w h s j < 1000 := by
                have := len_lt w1 w3 h1 h3 hv
                omega
              unfold rf
              rw [x_beq (x_inj (x := len w h s j) (y := c) (by omega) (by omega) q), ← e1]
              rfl
          refine hK _ _ _ _ (hK _ _ _ _ (hK _ _ _ _ (hK _ _ _ _ (hK _ _ _ _ (⟨_, b_beginOf (d := d + 2) rfl (show j < 2147483648 by omega), rfl, fun v38 M38 g38 => ?_⟩)))))
          obtain ⟨rfl, rfl⟩ := g38
          refine hK _ _ _ _ (hK _ _ _ _ (⟨fun q => ?_, fun q => ?_⟩))
          · refine ?_
            refine two a ?_
            rw [x_nbeq (fun z => q (by rw [z]))]
            rfl
          · refine hK _ _ _ _ (hK _ _ _ _ (hK _ _ _ _ (hK _ _ _ _ (hK _ _ _ _ (⟨_, g_ctimes (d := d + 2) hF1.1.1 hF1.2.1 rfl rfl hu ha, rfl, fun v52 M52 g52 => ?_⟩)))))
            obtain ⟨rfl, rfl⟩ := g52
            refine hK _ _ _ _ (?_)
            refine two _ ?_
            rw [x_beq (x_inj (x := j / 2) (y := c) (by omega) (by omega) q)]
            rfl
  refine hK _ _ _ _ (hK _ _ _ _ (hK _ _ _ _ (hK _ _ _ _ (?_))))
  exact lp _ 0 _ _ _ _ M rfl (Nat.zero_le _) rfl rfl fr_r (fun l hl9 => by rw [if_neg (fun z => absurd z.1 (Nat.not_lt_zero l))])
