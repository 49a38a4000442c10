/-- how many hold -/
def cnt (f : Nat → Bool) : Nat → Nat
  | 0 => 0
  | n + 1 => cnt f n + (bif f n then 1 else 0)
theorem cnt_t {f : Nat → Bool} {b : Nat} (h : f b = true) : Int32.ofNat (cnt f b) + 1 = Int32.ofNat (cnt f (b + 1)) := by
  show _ = Int32.ofNat (cnt f b + (bif f b then 1 else 0))
  rw [h]
  exact hI_s
theorem cnt_f {f : Nat → Bool} {b : Nat} (h : f b = false) : Int32.ofNat (cnt f b) + 0 = Int32.ofNat (cnt f (b + 1)) := by
  show _ = Int32.ofNat (cnt f b + (bif f b then 1 else 0))
  rw [h]
  exact Int32.add_zero _
theorem cn_t {f : Nat → Bool} {c b : Nat} (h : f b = true) : Int32.ofNat (c + cnt f b) + 1 = Int32.ofNat (c + cnt f (b + 1)) := by
  show _ = Int32.ofNat (c + (cnt f b + (bif f b then 1 else 0)))
  rw [h]
  exact hI_s
theorem cn_f {f : Nat → Bool} {c b : Nat} (h : f b = false) : Int32.ofNat (c + cnt f b) + 0 = Int32.ofNat (c + cnt f (b + 1)) := by
  show _ = Int32.ofNat (c + (cnt f b + (bif f b then 1 else 0)))
  rw [h]
  exact Int32.add_zero _
/-- of pairs -/
def cs (f : Nat → Nat → Bool) (o : Nat) : Nat → Nat
  | 0 => 0
  | n + 1 => cs f o n + cnt (f n) o
theorem gP_all {P : Nat → Nat → Bool} (h : gP.all (fun e => P e.1 e.2) = true) {k o : Nat} (hq : (k, o) ∈ gP) : P k o = true := List.all_eq_true.mp h _ hq
def rkc (k o n : Nat) : Nat := cnt (fun b => Nat.beq (lk k o b) b) n
theorem rkc_kc {k o : Nat} (hq : (k, o) ∈ gP) : rkc k o o = kc k o := Nat.eq_of_beq_eq_true (gP_all (P := fun k o => Nat.beq (rkc k o o) (kc k o)) (by decide +kernel) hq)
theorem rkc_kn {k o a : Nat} (hq : (k, o) ∈ gP) (ha : a < o) : rkc k o (lk k o a) = kn k o a := Nat.eq_of_beq_eq_true (gA_all (P := fun k o a => Nat.beq (rkc k o (lk k o a)) (kn k o a)) (by decide +kernel) hq ha)
def rcf (k o t a b : Nat) : Bool := Nat.beq (rt k o (rt k o (rt k o a b) (ag k o a)) (ag k o b)) t
theorem rcm_cmo {k o t : Nat} (hq : (k, o) ∈ gP) (ht : t < o) : cs (rcf k o t) o o = cmo k o t o := Nat.eq_of_beq_eq_true (gA_all (P := fun k o t => Nat.beq (cs (rcf k o t) o o) (cmo k o t o)) (by decide +kernel) hq ht)
theorem rro_rso {k o t : Nat} (hq : (k, o) ∈ gP) (ht : t < o) : cnt (fun a => Nat.beq (rt k o a a) t) o = rso k o t o := Nat.eq_of_beq_eq_true (gA_all (P := fun k o t => Nat.beq (cnt (fun a => Nat.beq (rt k o a a) t) o) (rso k o t o)) (by decide +kernel) hq ht)
theorem rks_ksf {k o t : Nat} (hq : (k, o) ∈ gP) (ht : t < o) : cnt (fun b => isk k o t b o) o = ksf k o (kn k o t) o := Nat.eq_of_beq_eq_true (gA_all (P := fun k o t => Nat.beq (cnt (fun b => isk k o t b o) o) (ksf k o (kn k o t) o)) (by decide +kernel) hq ht)
/-- how often a turn till it rests -/
def trf (k o t : Nat) : Nat → Nat → Nat → Nat
  | 0, _, n => n
  | f + 1, r, n => bif Nat.beq r 0 then n else trf k o t f (rt k o r t) (n + 1)
def trz (k o t : Nat) : Nat → Nat → Bool
  | 0, r => Nat.beq r 0
  | f + 1, r => Nat.beq r 0 || trz k o t f (rt k o r t)
theorem trz_ok {k o t : Nat} (hq : (k, o) ∈ gP) (ht : t < o) : trz k o t 7 t = true := gA_all (P := fun k o t => trz k o t 7 t) (by decide +kernel) hq ht
theorem lk_8 {k o a : Nat} (hq : (k, o) ∈ gP) (ha : a < o) : lk k o a < 2147483648 := Nat.lt_of_lt_of_le (lk_lt hq ha) (by decide)
theorem lk_o {k o a : Nat} (hq : (k, o) ∈ gP) (ha : a < o) : lk k o a < o := Nat.le_of_ble_eq_true (gA_all (P := fun k o a => Nat.ble (lk k o a + 1) o) (by decide +kernel) hq ha)
theorem r_kins {nS d k o : Nat} {M : aM} (hg : gM M k o) : aC nS (d + 5) 185 [vR 36 0] M (fun v M' => v = some (vI (Int32.ofNat (rkc k o o))) ∧ M = M') (fun _ _ => False) := by
  obtain ⟨o2, o8, k3⟩ := gP_o hg.1
  refine aC_mk rfl rfl ?_
  intro K hK _
  have lp : ∀ (m b : Nat) (x y : Int32), o - b = m → b ≤ o → x = Int32.ofNat (rkc k o b) → y = Int32.ofNat b → K 4 [some (vR 36 0), some (vI x), some (vI y)] [] M := by
    intro m
    induction m with
    | zero =>
      intro b x y hm hb hx hy
      subst hx
      subst hy
      refine hK _ _ _ _ (hK _ _ _ _ (hK _ _ _ _ (hK _ _ _ _ (hK _ _ _ _ (⟨x_vp (a := 2) rfl (by decide) (by decide), ?_⟩)))))
      rw [x_cl (j := 2) (a := 2) rfl (by decide), hg.2.2]
      refine hK _ _ _ _ (⟨fun h => ?_, fun h => ?_⟩)
      · exact hK _ _ _ _ (hK _ _ _ _ (⟨by rw [show b = o by omega], rfl⟩))
      · exact absurd (x_nge (x := b) (y := o) rfl rfl (by omega) (by omega) h) (by omega)
    | succ m ih =>
      intro b x y hm hb hx hy
      subst hx
      subst hy
      have hbo : b < o := by omega
      refine hK _ _ _ _ (hK _ _ _ _ (hK _ _ _ _ (hK _ _ _ _ (hK _ _ _ _ (⟨x_vp (a := 2) rfl (by decide) (by decide), ?_⟩)))))
      rw [x_cl (j := 2) (a := 2) rfl (by decide), hg.2.2]
      refine hK _ _ _ _ (⟨fun h => ?_, fun h => ?_⟩)
      · exact absurd (x_ge (x := b) (y := o) rfl rfl (by omega) (by omega) h) (by omega)
      · refine hK _ _ _ _ (hK _ _ _ _ (hK _ _ _ _ (hK _ _ _ _ (⟨_, r_leastOf hg hbo, rfl, fun v17 M17 g17 => ?_⟩))))
        obtain ⟨rfl, rfl⟩ := g17
        refine hK _ _ _ _ (hK _ _ _ _ (⟨fun q => ?_, fun q => ?_⟩))
        · refine hK _ _ _ _ (hK _ _ _ _ (hK _ _ _ _ (hK _ _ _ _ (hK _ _ _ _ (?_)))))
          exact ih (b + 1) _ _ (by omega) (by omega) (cnt_f (x_nbq (fun z => q (by rw [z])))) hI_s
        · refine hK _ _ _ _ (hK _ _ _ _ (hK _ _ _ _ (hK _ _ _ _ (hK _ _ _ _ (hK _ _ _ _ (?_))))))
          exact ih (b + 1) _ _ (by omega) (by omega) (cnt_t (x_beq (x_eq rfl rfl (lk_8 hg.1 hbo) (by omega) q))) hI_s
  refine hK _ _ _ _ (hK _ _ _ _ (hK _ _ _ _ (hK _ _ _ _ (?_))))
  exact lp _ 0 _ _ rfl (Nat.zero_le _) rfl rfl
theorem r_kinOf {nS d k o a : Nat} {M : aM} (hg : gM M k o) (ha : a < o) : aC nS (d + 5) 184 [vR 36 0, vI (Int32.ofNat a)] M (fun v M' => v = some (vI (Int32.ofNat (kn k o a))) ∧ M = M') (fun _ _ => False) := by
  obtain ⟨o2, o8, k3⟩ := gP_o hg.1
  have hl := lk_o hg.1 ha
  refine aC_mk rfl rfl ?_
  intro K hK _
  have lp : ∀ (m b : Nat) (x y : Int32), lk k o a - b = m → b ≤ lk k o a → x = Int32.ofNat (rkc k o b) → y = Int32.ofNat b → K 11 [some (vR 36 0), some (vI (Int32.ofNat a)), some (vI (Int32.ofNat (lk k o a))), some (vI x), some (vI y)] [] M := by
    intro m
    induction m with
    | zero =>
      intro b x y hm hb hx hy
      subst hx
      subst hy
      refine hK _ _ _ _ (hK _ _ _ _ (hK _ _ _ _ (⟨fun h => ?_, fun h => ?_⟩)))
      · exact hK _ _ _ _ (hK _ _ _ _ (⟨by rw [show b = lk k o a by omega, rkc_kn hg.1 ha], rfl⟩))
      · exact absurd (x_nge (x := b) (y := lk k o a) rfl rfl (by omega) (by omega) h) (by omega)
    | succ m ih =>
      intro b x y hm hb hx hy
      subst hx
      subst hy
      have hbo : b < o := by omega
      refine hK _ _ _ _ (hK _ _ _ _ (hK _ _ _ _ (⟨fun h => ?_, fun h => ?_⟩)))
      · exact absurd (x_ge (x := b) (y := lk k o a) rfl rfl (by omega) (by omega) h) (by omega)
      · refine hK _ _ _ _ (hK _ _ _ _ (hK _ _ _ _ (hK _ _ _ _ (⟨_, r_leastOf hg hbo, rfl, fun v21 M21 g21 => ?_⟩))))
        obtain ⟨rfl, rfl⟩ := g21
        refine hK _ _ _ _ (hK _ _ _ _ (⟨fun q => ?_, fun q => ?_⟩))
        · refine hK _ _ _ _ (hK _ _ _ _ (hK _ _ _ _ (hK _ _ _ _ (hK _ _ _ _ (?_)))))
          exact ih (b + 1) _ _ (by omega) (by omega) (cnt_f (x_nbq (fun z => q (by rw [z])))) hI_s
        · refine hK _ _ _ _ (hK _ _ _ _ (hK _ _ _ _ (hK _ _ _ _ (hK _ _ _ _ (hK _ _ _ _ (?_))))))
          exact ih (b + 1) _ _ (by omega) (by omega) (cnt_t (x_beq (x_eq rfl rfl (lk_8 hg.1 hbo) (by omega) q))) hI_s
  refine hK _ _ _ _ (hK _ _ _ _ (hK _ _ _ _ (⟨_, r_leastOf hg ha, rfl, fun v2 M2 g2 => ?_⟩)))
  obtain ⟨rfl, rfl⟩ := g2
  refine hK _ _ _ _ (hK _ _ _ _ (hK _ _ _ _ (hK _ _ _ _ (hK _ _ _ _ (?_)))))
  exact lp _ 0 _ _ rfl (Nat.zero_le _) rfl rfl
theorem r_commutators {nS d k o t : Nat} {M : aM} (hg : gM M k o) (ht : t < o) : aC nS (d + 4) 186 [vR 36 0, vI (Int32.ofNat t)] M (fun v M' => v = some (vI (Int32.ofNat (cmo k o t o))) ∧ M = M') (fun _ _ => False) := by
  obtain ⟨o2, o8, k3⟩ := gP_o hg.1
  refine aC_mk rfl rfl ?_
  intro K hK _
  have inn : ∀ (a : Nat), a < o → (∀ (x : Int32) (l : Option aV), x = Int32.ofNat (cs (rcf k o t) o (a + 1)) → K 72 [some (vR 36 0), some (vI (Int32.ofNat t)), some (vI x), some (vI (Int32.ofNat a)), l] [] M) → ∀ (m b : Nat) (x y : Int32), o - b = m → b ≤ o → x = Int32.ofNat (cs (rcf k o t) o a + cnt (rcf k o t a) b) → y = Int32.ofNat b → K 17 [some (vR 36 0), some (vI (Int32.ofNat t)), some (vI x), some (vI (Int32.ofNat a)), some (vI y)] [] M := by
    intro a ha out m
    induction m with
    | zero =>
      intro b x y hm hb hx hy
      subst hx
      subst hy
      refine hK _ _ _ _ (hK _ _ _ _ (hK _ _ _ _ (hK _ _ _ _ (hK _ _ _ _ (⟨x_vp (a := 2) rfl (by decide) (by decide), ?_⟩)))))
      rw [x_cl (j := 2) (a := 2) rfl (by decide), hg.2.2]
      refine hK _ _ _ _ (⟨fun h => ?_, fun h => ?_⟩)
      · exact out _ _ (by rw [show b = o by omega]; rfl)
      · exact absurd (x_nge (x := b) (y := o) rfl rfl (by omega) (by omega) h) (by omega)
    | succ m ih =>
      intro b x y hm hb hx hy
      subst hx
      subst hy
      have hbo : b < o := by omega
      have r1 := rt_lt hg.1 ha hbo
      have r2 := ag_lt hg.1 ha
      have r3 := ag_lt hg.1 hbo
      have r4 := rt_lt hg.1 r1 r2
      have r5 := rt_lt hg.1 r4 r3
      refine hK _ _ _ _ (hK _ _ _ _ (hK _ _ _ _ (hK _ _ _ _ (hK _ _ _ _ (⟨x_vp (a := 2) rfl (by decide) (by decide), ?_⟩)))))
      rw [x_cl (j := 2) (a := 2) rfl (by decide), hg.2.2]
      refine hK _ _ _ _ (⟨fun h => ?_, fun h => ?_⟩)
      · exact absurd (x_ge (x := b) (y := o) rfl rfl (by omega) (by omega) h) (by omega)
      · refine hK _ _ _ _ (hK _ _ _ _ (hK _ _ _ _ (hK _ _ _ _ (hK _ _ _ _ (hK _ _ _ _ (hK _ _ _ _ (⟨_, g_times hg ha hbo, rfl, fun v35 M35 g35 => ?_⟩)))))))
        obtain ⟨rfl, rfl⟩ := g35
        refine hK _ _ _ _ (hK _ _ _ _ (hK _ _ _ _ (⟨_, g_against hg ha, rfl, fun v40 M40 g40 => ?_⟩)))
        obtain ⟨rfl, rfl⟩ := g40
        refine hK _ _ _ _ (⟨_, g_times hg r1 r2, rfl, fun v43 M43 g43 => ?_⟩)
        obtain ⟨rfl, rfl⟩ := g43
        refine hK _ _ _ _ (hK _ _ _ _ (hK _ _ _ _ (⟨_, g_against hg hbo, rfl, fun v49 M49 g49 => ?_⟩)))
        obtain ⟨rfl, rfl⟩ := g49
        refine hK _ _ _ _ (⟨_, g_times hg r4 r3, rfl, fun v52 M52 g52 => ?_⟩)
        obtain ⟨rfl, rfl⟩ := g52
        refine hK _ _ _ _ (hK _ _ _ _ (⟨fun q => ?_, fun q => ?_⟩))
        · refine hK _ _ _ _ (hK _ _ _ _ (hK _ _ _ _ (hK _ _ _ _ (hK _ _ _ _ (?_)))))
          exact ih (b + 1) _ _ (by omega) (by omega) (cn_f (x_nbq (fun z => q (by rw [z])))) hI_s
        · refine hK _ _ _ _ (hK _ _ _ _ (hK _ _ _ _ (hK _ _ _ _ (hK _ _ _ _ (hK _ _ _ _ (?_))))))
          exact ih (b + 1) _ _ (by omega) (by omega) (cn_t (x_beq (x_eq rfl rfl (by omega) (by omega) q))) hI_s
  have lp : ∀ (m a : Nat) (x y : Int32) (l : Option aV), o - a = m → a ≤ o → x = Int32.ofNat (cs (rcf k o t) o a) → y = Int32.ofNat a → K 4 [some (vR 36 0), some (vI (Int32.ofNat t)), some (vI x), some (vI y), l] [] M := by
    intro m
    induction m with
    | zero =>
      intro a x y l hm ha hx hy
      subst hx
      subst hy
      refine hK _ _ _ _ (hK _ _ _ _ (hK _ _ _ _ (hK _ _ _ _ (hK _ _ _ _ (⟨x_vp (a := 2) rfl (by decide) (by decide), ?_⟩)))))
      rw [x_cl (j := 2) (a := 2) rfl (by decide), hg.2.2]
      refine hK _ _ _ _ (⟨fun h => ?_, fun h => ?_⟩)
      · exact hK _ _ _ _ (hK _ _ _ _ (⟨by rw [show a = o by omega, rcm_cmo hg.1 ht], rfl⟩))
      · exact absurd (x_nge (x := a) (y := o) rfl rfl (by omega) (by omega) h) (by omega)
    | succ m ih =>
      intro a x y l hm ha hx hy
      subst hx
      subst hy
      refine hK _ _ _ _ (hK _ _ _ _ (hK _ _ _ _ (hK _ _ _ _ (hK _ _ _ _ (⟨x_vp (a := 2) rfl (by decide) (by decide), ?_⟩)))))
      rw [x_cl (j := 2) (a := 2) rfl (by decide), hg.2.2]
      refine hK _ _ _ _ (⟨fun h => ?_, fun h => ?_⟩)
      · exact absurd (x_ge (x := a) (y := o) rfl rfl (by omega) (by omega) h) (by omega)
      · refine hK _ _ _ _ (hK _ _ _ _ (?_))
        refine inn a (by omega) (fun x l2 hx => ?_) _ 0 _ _ rfl (Nat.zero_le _) rfl rfl
        subst hx
        refine hK _ _ _ _ (hK _ _ _ _ (?_))
        exact ih (a + 1) _ _ _ (by omega) (by omega) rfl hI_s
  refine hK _ _ _ _ (hK _ _ _ _ (hK _ _ _ _ (hK _ _ _ _ (?_))))
  exact lp _ 0 _ _ _ rfl (Nat.zero_le _) rfl rfl
theorem r_roots {nS d k o t : Nat} {M : aM} (hg : gM M k o) (ht : t < o) : aC nS (d + 2) 187 [vR 36 0, vI (Int32.ofNat t)] M (fun v M' => v = some (vI (Int32.ofNat (rso k o t o))) ∧ M = M') (fun _ _ => False) := by
  obtain ⟨o2, o8, k3⟩ := gP_o hg.1
  refine aC_mk rfl rfl ?_
  intro K hK _
  have lp : ∀ (m a : Nat) (x y : Int32), o - a = m → a ≤ o → x = Int32.ofNat (cnt (fun a => Nat.beq (rt k o a a) t) a) → y = Int32.ofNat a → K 4 [some (vR 36 0), some (vI (Int32.ofNat t)), some (vI x), some (vI y)] [] M := by
    intro m
    induction m with
    | zero =>
      intro a x y hm ha hx hy
      subst hx
      subst hy
      refine hK _ _ _ _ (hK _ _ _ _ (hK _ _ _ _ (hK _ _ _ _ (hK _ _ _ _ (⟨x_vp (a := 2) rfl (by decide) (by decide), ?_⟩)))))
      rw [x_cl (j := 2) (a := 2) rfl (by decide), hg.2.2]
      refine hK _ _ _ _ (⟨fun h => ?_, fun h => ?_⟩)
      · exact hK _ _ _ _ (hK _ _ _ _ (⟨by rw [show a = o by omega, rro_rso hg.1 ht], rfl⟩))
      · exact absurd (x_nge (x := a) (y := o) rfl rfl (by omega) (by omega) h) (by omega)
    | succ m ih =>
      intro a x y hm ha hx hy
      subst hx
      subst hy
      have hao : a < o := by omega
      have r1 := rt_lt hg.1 hao hao
      refine hK _ _ _ _ (hK _ _ _ _ (hK _ _ _ _ (hK _ _ _ _ (hK _ _ _ _ (⟨x_vp (a := 2) rfl (by decide) (by decide), ?_⟩)))))
      rw [x_cl (j := 2) (a := 2) rfl (by decide), hg.2.2]
      refine hK _ _ _ _ (⟨fun h => ?_, fun h => ?_⟩)
      · exact absurd (x_ge (x := a) (y := o) rfl rfl (by omega) (by omega) h) (by omega)
      · refine hK _ _ _ _ (hK _ _ _ _ (hK _ _ _ _ (hK _ _ _ _ (hK _ _ _ _ (⟨_, g_times hg hao hao, rfl, fun v18 M18 g18 => ?_⟩)))))
        obtain ⟨rfl, rfl⟩ := g18
        refine hK _ _ _ _ (hK _ _ _ _ (⟨fun q => ?_, fun q => ?_⟩))
        · refine hK _ _ _ _ (hK _ _ _ _ (hK _ _ _ _ (hK _ _ _ _ (hK _ _ _ _ (?_)))))
          exact ih (a + 1) _ _ (by omega) (by omega) (cnt_f (x_nbq (fun z => q (by rw [z])))) hI_s
        · refine hK _ _ _ _ (hK _ _ _ _ (hK _ _ _ _ (hK _ _ _ _ (hK _ _ _ _ (hK _ _ _ _ (?_))))))
          exact ih (a + 1) _ _ (by omega) (by omega) (cnt_t (x_beq (x_eq rfl rfl (by omega) (by omega) q))) hI_s
  refine hK _ _ _ _ (hK _ _ _ _ (hK _ _ _ _ (hK _ _ _ _ (?_))))
  exact lp _ 0 _ _ rfl (Nat.zero_le _) rfl rfl
def lkb (k o a b : Nat) : Bool := Nat.beq (rt k o a b) (rt k o b a)
theorem r_areLike {nS d k o a b : Nat} {M : aM} (hg : gM M k o) (ha : a < o) (hb : b < o) : aC nS (d + 2) 247 [vR 36 0, vI (Int32.ofNat a), vI (Int32.ofNat b)] M (fun v M' => ((lkb k o a b = true ∧ v = some (vI 1)) ∨ (lkb k o a b = false ∧ v = some (vI 0))) ∧ M = M') (fun _ _ => False) := by
  obtain ⟨o2, o8, k3⟩ := gP_o hg.1
  have r1 := rt_lt hg.1 ha hb
  have r2 := rt_lt hg.1 hb ha
  refine aC_mk rfl rfl ?_
  intro K hK _
  refine hK _ _ _ _ (hK _ _ _ _ (hK _ _ _ _ (hK _ _ _ _ (⟨_, g_times hg ha hb, rfl, fun v3 M3 g3 => ?_⟩))))
  obtain ⟨rfl, rfl⟩ := g3
  refine hK _ _ _ _ (hK _ _ _ _ (hK _ _ _ _ (hK _ _ _ _ (⟨_, g_times hg hb ha, rfl, fun v9 M9 g9 => ?_⟩))))
  obtain ⟨rfl, rfl⟩ := g9
  refine hK _ _ _ _ (⟨fun q => ?_, fun q => ?_⟩)
  · exact hK _ _ _ _ (hK _ _ _ _ (⟨Or.inl rfl, Or.inr ⟨x_nbq (fun z => q (by rw [z])), rfl⟩, rfl⟩))
  · exact hK _ _ _ _ (hK _ _ _ _ (hK _ _ _ _ (⟨Or.inr rfl, Or.inl ⟨x_beq (x_eq rfl rfl (by omega) (by omega) q), rfl⟩, rfl⟩)))
theorem b_commute {nS d i k o a b : Nat} {M : aM} {x y : Int32} (hF : gF i M k o) (hx : x = Int32.ofNat a) (hy : y = Int32.ofNat b) (ha : a < o) (hb : b < o) : aC nS (d + 2) 61 [vR 5 i, vI x, vI y] M (fun v M' => ((lkb k o a b = true ∧ v = some (vI 1)) ∨ (lkb k o a b = false ∧ v = some (vI 0))) ∧ M = M') (fun _ _ => False) := by
  have hq := hF.1.1
  obtain ⟨o2, o8, k3⟩ := gP_o hq
  have r1 := rt_lt hq ha hb
  have r2 := rt_lt hq hb ha
  subst hx
  subst hy
  refine aC_mk rfl rfl ?_
  intro K hK _
  refine hK _ _ _ _ (hK _ _ _ _ (hK _ _ _ _ (hK _ _ _ _ (⟨_, g_ctimes hq hF.2.1 rfl rfl ha hb, rfl, fun v3 M3 g3 => ?_⟩))))
  obtain ⟨rfl, rfl⟩ := g3
  refine hK _ _ _ _ (hK _ _ _ _ (hK _ _ _ _ (hK _ _ _ _ (⟨_, g_ctimes hq hF.2.1 rfl rfl hb ha, rfl, fun v9 M9 g9 => ?_⟩))))
  obtain ⟨rfl, rfl⟩ := g9
  refine hK _ _ _ _ (⟨fun q => ?_, fun q => ?_⟩)
  · exact hK _ _ _ _ (hK _ _ _ _ (⟨Or.inl rfl, Or.inr ⟨x_nbq (fun z => q (by rw [z])), rfl⟩, rfl⟩))
  · exact hK _ _ _ _ (hK _ _ _ _ (hK _ _ _ _ (⟨Or.inr rfl, Or.inl ⟨x_beq (x_eq rfl rfl (by omega) (by omega) q), rfl⟩, rfl⟩)))
theorem b_kins {nS d i : Nat} {M : aM} : aC nS (d + 1) 65 [vR 5 i] M (fun v M' => v = some (vI (M.1 5 i 2)) ∧ M = M') (fun _ _ => False) := by
  refine aC_mk rfl rfl ?_
  intro K hK _
  exact hK _ _ _ _ (hK _ _ _ _ (hK _ _ _ _ (⟨rfl, rfl⟩)))
theorem b_commutators {nS d i k o t : Nat} {M : aM} {x : Int32} (hF : gF i M k o) (hx : x = Int32.ofNat t) (ht : t < 8) : aC nS (d + 2) 69 [vR 5 i, vI x] M (fun v M' => v = some (vI (Int32.ofNat (cmo k o t o))) ∧ M = M') (fun _ _ => False) := by
  subst hx
  refine aC_mk rfl rfl ?_
  intro K hK _
  refine hK _ _ _ _ (hK _ _ _ _ (hK _ _ _ _ (hK _ _ _ _ (⟨_, g_at10 rfl ht, rfl, fun v5 M5 g5 => ?_⟩))))
  obtain ⟨rfl, rfl⟩ := g5
  rw [hF.2.2.2.2.2.1 t ht]
  exact hK _ _ _ _ (⟨rfl, rfl⟩)
theorem b_roots {nS d i k o t : Nat} {M : aM} {x : Int32} (hF : gF i M k o) (hx : x = Int32.ofNat t) (ht : t < 8) : aC nS (d + 2) 70 [vR 5 i, vI x] M (fun v M' => v = some (vI (Int32.ofNat (rso k o t o))) ∧ M = M') (fun _ _ => False) := by
  subst hx
  refine aC_mk rfl rfl ?_
  intro K hK _
  refine hK _ _ _ _ (hK _ _ _ _ (hK _ _ _ _ (hK _ _ _ _ (⟨_, g_at11 rfl ht, rfl, fun v5 M5 g5 => ?_⟩))))
  obtain ⟨rfl, rfl⟩ := g5
  rw [hF.2.2.2.2.2.2 t ht]
  exact hK _ _ _ _ (⟨rfl, rfl⟩)
theorem b_kinSize {nS d i k o t : Nat} {M : aM} {x : Int32} (hF : gF i M k o) (hx : x = Int32.ofNat t) (ht : t < o) : aC nS (d + 3) 68 [vR 5 i, vI x] M (fun v M' => v = some (vI (Int32.ofNat (ksf k o (kn k o t) o))) ∧ M = M') (fun _ _ => False) := by
  have k8 := kn_lt hF.1.1 ht
  refine aC_mk rfl rfl ?_
  intro K hK _
  refine hK _ _ _ _ (hK _ _ _ _ (hK _ _ _ _ (hK _ _ _ _ (hK _ _ _ _ (⟨_, b_kinOf hF hx ht, rfl, fun v6 M6 g6 => ?_⟩)))))
  obtain ⟨rfl, rfl⟩ := g6
  refine hK _ _ _ _ (⟨_, g_at9 rfl k8, rfl, fun v9 M9 g9 => ?_⟩)
  obtain ⟨rfl, rfl⟩ := g9
  rw [hF.2.2.2.2.1 _ k8]
  exact hK _ _ _ _ (⟨rfl, rfl⟩)
theorem b_timesToRest {nS d i k o t : Nat} {M : aM} {x : Int32} (hF : gF i M k o) (hx : x = Int32.ofNat t) (ht : t < o) : aC nS (d + 2) 62 [vR 5 i, vI x] M (fun v M' => v = some (vI (Int32.ofNat (trf k o t 7 t 1))) ∧ M = M') (fun _ _ => False) := by
  have hq := hF.1.1
  obtain ⟨o2, o8, k3⟩ := gP_o hq
  subst hx
  refine aC_mk rfl rfl ?_
  intro K hK _
  have lp : ∀ (f r n : Nat) (x y : Int32), n + f = 8 → r < o → trf k o t f r n = trf k o t 7 t 1 → x = Int32.ofNat n → y = Int32.ofNat r → K 4 [some (vR 5 i), some (vI (Int32.ofNat t)), some (vI x), some (vI y)] [] M := by
    intro f
    induction f with
    | zero =>
      intro r n x y hn hr he hx hy
      subst hx
      subst hy
      refine hK _ _ _ _ (hK _ _ _ _ (⟨fun q => ?_, fun q => ?_⟩))
      · exact hK _ _ _ _ (hK _ _ _ _ (⟨by rw [← he]; rfl, rfl⟩))
      · refine hK _ _ _ _ (hK _ _ _ _ (hK _ _ _ _ (⟨fun h => ?_, fun h => ?_⟩)))
        · exact hK _ _ _ _ (hK _ _ _ _ (⟨by rw [← he]; rfl, rfl⟩))
        · exact absurd (x_nge (x := n) (y := 8) rfl rfl (by omega) (by decide) h) (by omega)
    | succ f ih =>
      intro r n x y hn hr he hx hy
      subst hx
      subst hy
      have e1 : trf k o t (f + 1) r n = bif Nat.beq r 0 then n else trf k o t f (rt k o r t) (n + 1) := rfl
      refine hK _ _ _ _ (hK _ _ _ _ (⟨fun q => ?_, fun q => ?_⟩))
      · have r0 : r = 0 := x_eq (y := 0) rfl rfl (by omega) (by decide) q
        rw [x_beq r0, cond_true] at e1
        exact hK _ _ _ _ (hK _ _ _ _ (⟨by rw [← he, e1], rfl⟩))
      · have r0 : ¬ r = 0 := fun z => q (by rw [z]; rfl)
        rw [x_nbq r0, cond_false] at e1
        refine hK _ _ _ _ (hK _ _ _ _ (hK _ _ _ _ (⟨fun h => ?_, fun h => ?_⟩)))
        · exact absurd (x_ge (x := n) (y := 8) rfl rfl (by omega) (by decide) h) (by omega)
        · refine hK _ _ _ _ (hK _ _ _ _ (hK _ _ _ _ (hK _ _ _ _ (⟨_, g_ctimes hq hF.2.1 rfl rfl hr ht, rfl, fun v17 M17 g17 => ?_⟩))))
          obtain ⟨rfl, rfl⟩ := g17
          refine hK _ _ _ _ (hK _ _ _ _ (hK _ _ _ _ (?_)))
          exact ih _ (n + 1) _ _ (by omega) (rt_lt hq hr ht) (e1.symm.trans he) hI_s rfl
  refine hK _ _ _ _ (hK _ _ _ _ (hK _ _ _ _ (hK _ _ _ _ (?_))))
  exact lp 7 t 1 _ _ rfl ht rfl rfl rfl
theorem b_halves {nS d i : Nat} {M : aM} : aC nS (d + 1) 63 [vR 5 i] M (fun v M' => v = some (vI (M.1 5 i 0)) ∧ M = M') (fun _ _ => False) := by
  refine aC_mk rfl rfl ?_
  intro K hK _
  exact hK _ _ _ _ (hK _ _ _ _ (hK _ _ _ _ (⟨rfl, rfl⟩)))
