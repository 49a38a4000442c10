/-- a change: its place, what undoes it, what does it again; the lines ahead of it, behind it -/
def opR (k o w h s : Nat) (p b f : Int32) (A B : Nat → Int32) : Prop := (∃ l, l < 32 ∧ hl w h s l = true ∧ p = Int32.ofNat l ∧ b = A l ∧ f = B l ∧ ∀ l2, l2 < 32 → l2 ≠ l → hl w h s l2 = true → B l2 = A l2) ∨ (∃ x y u, x ≤ w ∧ y ≤ h ∧ u < o ∧ p = Int32.ofNat (32 + xco w h s x y) ∧ b = Int32.ofNat (ag k o u) ∧ f = Int32.ofNat u ∧ ∀ l, l < 32 → hl w h s l = true → B l = rfv k o w h s (xco w h s x y) u l (A l))
/-- what both sides hold of changes: n done, m known -/
def hH (k o w h s n m : Nat) (S : Nat → Nat → Int32) (M : aM) : Prop := (∀ i, i ≤ m → lO w h s o (S i)) ∧ (∀ l, l < 32 → hl w h s l = true → M.1 12 0 l = S n l) ∧ lR 37 20 M w h s (S n) ∧ ∀ i, i < m → lR 37 (50 + 48 * i) M w h s (S i) ∧ lR 37 (74 + 48 * i) M w h s (S (i + 1)) ∧ opR k o w h s (M.1 21 0 i) (M.1 22 0 i) (M.1 23 0 i) (S i) (S (i + 1))
theorem rfv_inv {k o w h s c u l : Nat} {v : Int32} (hq : (k, o) ∈ gP) (hu : u < o) (hv : okT o v) : rfv k o w h s c (ag k o u) l (rfv k o w h s c u l v) = v := by
  obtain ⟨o2, o8, -⟩ := gP_o hq
  obtain ⟨e, ha⟩ := okT_n o8 hv
  have hr := rf_lt (p := Nat.beq (l / 2) c) (q := Nat.beq (len w h s l) c) hq hu ha
  unfold rfv
  rw [xn_o (by omega), rf_inv hq hu ha]
  exact e.symm
theorem rfv_ok {k o w h s c u l : Nat} {v : Int32} (hq : (k, o) ∈ gP) (hu : u < o) (hv : okT o v) : okT o (rfv k o w h s c u l v) := by
  obtain ⟨o2, o8, -⟩ := gP_o hq
  exact ⟨_, rf_lt hq hu (okT_n o8 hv).2, rfl⟩
theorem c_apply1 {nS d l : Nat} {M : aM} {p t : Int32} (hp : p = Int32.ofNat l) (hl9 : l < 32) : aC nS (d + 5) 78 [vR 20 0, vI p, vI t] M (fun v M' => v = none ∧ M' = a_pI M 12 0 l t) (fun _ _ => False) := by
  subst hp
  refine aC_mk rfl rfl ?_
  intro K hK _
  refine hK _ _ _ _ (hK _ _ _ _ (hK _ _ _ _ (⟨fun h => ?_, fun h => ?_⟩)))
  · exact absurd (x_ge (x := l) (y := 32) rfl rfl (by omega) (by decide) h) (by omega)
  · refine hK _ _ _ _ (hK _ _ _ _ (hK _ _ _ _ (hK _ _ _ _ (hK _ _ _ _ (⟨_, b_putTurn (d := d + 2) rfl hl9, rfl, fun v12 M12 g12 => ?_⟩)))))
    obtain ⟨rfl, rfl⟩ := g12
    exact hK _ _ _ _ (hK _ _ _ _ (⟨rfl, rfl⟩))
theorem c_apply2 {nS d w h s k o c u : Nat} {M : aM} {p t : Int32} (hs : cS 0 M w h s) (w1 : 1 ≤ w) (w3 : w ≤ 3) (h1 : 1 ≤ h) (h3 : h ≤ 3) (hF : gF 0 M k o) (hO : lO w h s o (M.1 12 0)) (hp : p = Int32.ofNat (32 + c)) (hc : c < 16) (ht : t = Int32.ofNat u) (hu : u < o) : aC nS (d + 5) 78 [vR 20 0, vI p, vI t] M (fun v M' => v = none ∧ fr (PR 12 0) M M' ∧ ∀ l, l < 32 → M'.1 12 0 l = if hl w h s l = true then rfv k o w h s c u l (M.1 12 0 l) else M.1 12 0 l) (fun _ _ => False) := by
  subst hp
  refine aC_mk rfl rfl ?_
  intro K hK _
  refine hK _ _ _ _ (hK _ _ _ _ (hK _ _ _ _ (⟨fun h9 => ?_, fun h9 => ?_⟩)))
  · have e32 : Int32.ofNat (32 + c) - 32 = Int32.ofNat c := by
      rw [show (32 : Int32) = Int32.ofNat 32 from rfl, x_sub (by omega) (by omega)]
      congr 1
      omega
    refine hK _ _ _ _ (hK _ _ _ _ (hK _ _ _ _ (hK _ _ _ _ (hK _ _ _ _ (hK _ _ _ _ (hK _ _ _ _ (⟨_, b_reframe (d := d) hs w1 w3 h1 h3 hF hO e32 hc ht hu, rfl, fun v27 M27 g27 => ?_⟩)))))))
    obtain ⟨rfl, hf, hC⟩ := g27
    exact hK _ _ _ _ (hK _ _ _ _ (⟨rfl, hf, hC⟩))
  · exact absurd (x_nge (x := 32 + c) (y := 32) rfl rfl (by omega) (by decide) h9) (by omega)
theorem c_applyB {nS d w h s k o : Nat} {M : aM} {p b f : Int32} {A B : Nat → Int32} (hs : cS 0 M w h s) (w1 : 1 ≤ w) (w3 : w ≤ 3) (h1 : 1 ≤ h) (h3 : h ≤ 3) (hF : gF 0 M k o) (hA : lO w h s o A) (hB : lO w h s o B) (hM : ∀ l, l < 32 → hl w h s l = true → M.1 12 0 l = B l) (hp : opR k o w h s p b f A B) : aC nS (d + 5) 78 [vR 20 0, vI p, vI b] M (fun v M' => v = none ∧ fr (PR 12 0) M M' ∧ ∀ l, l < 32 → hl w h s l = true → M'.1 12 0 l = A l) (fun _ _ => False) := by
  rcases hp with ⟨l, l32, hv, hp, hb, -, hn⟩ | ⟨x, y, u, hx, hy, hu, hp, hb, -, hr⟩
  · refine aC_post (c_apply1 hp l32) (fun v M' z => ?_) (fun _ _ z => z)
    obtain ⟨rfl, rfl⟩ := z
    refine ⟨rfl, fr_p fr_r PR_t, fun l2 h2 hv2 => ?_⟩
    by_cases he : l2 = l
    · rw [he, x_pe, hb]
    · rw [x_pn (fun z => he z.2.2), hM l2 h2 hv2, hn l2 h2 he hv2]
  · refine aC_post (c_apply2 hs w1 w3 h1 h3 hF (fun l a c => by rw [hM l a c]; exact hB l a c) hp (xco_lt w1 w3 h1 h3 hx hy) hb (ag_lt hF.1.1 hu)) (fun v M' z => ?_) (fun _ _ z => z)
    obtain ⟨rfl, hf, hC⟩ := z
    refine ⟨rfl, hf, fun l a c => ?_⟩
    rw [hC l a, if_pos c, hM l a c, hr l a c]
    exact rfv_inv hF.1.1 hu (hA l a c)
theorem c_applyF {nS d w h s k o : Nat} {M : aM} {p b f : Int32} {A B : Nat → Int32} (hs : cS 0 M w h s) (w1 : 1 ≤ w) (w3 : w ≤ 3) (h1 : 1 ≤ h) (h3 : h ≤ 3) (hF : gF 0 M k o) (hA : lO w h s o A) (hM : ∀ l, l < 32 → hl w h s l = true → M.1 12 0 l = A l) (hp : opR k o w h s p b f A B) : aC nS (d + 5) 78 [vR 20 0, vI p, vI f] M (fun v M' => v = none ∧ fr (PR 12 0) M M' ∧ ∀ l, l < 32 → hl w h s l = true → M'.1 12 0 l = B l) (fun _ _ => False) := by
  rcases hp with ⟨l, l32, hv, hp, -, hb, hn⟩ | ⟨x, y, u, hx, hy, hu, hp, -, hb, hr⟩
  · refine aC_post (c_apply1 hp l32) (fun v M' z => ?_) (fun _ _ z => z)
    obtain ⟨rfl, rfl⟩ := z
    refine ⟨rfl, fr_p fr_r PR_t, fun l2 h2 hv2 => ?_⟩
    by_cases he : l2 = l
    · rw [he, x_pe, hb]
    · rw [x_pn (fun z => he z.2.2), hM l2 h2 hv2, hn l2 h2 he hv2]
  · refine aC_post (c_apply2 hs w1 w3 h1 h3 hF (fun l a c => by rw [hM l a c]; exact hA l a c) hp (xco_lt w1 w3 h1 h3 hx hy) hb hu) (fun v M' z => ?_) (fun _ _ z => z)
    obtain ⟨rfl, hf, hC⟩ := z
    refine ⟨rfl, hf, fun l a c => ?_⟩
    rw [hC l a, if_pos c, hM l a c, hr l a c]
/-- cells that undo and redo write -/
def PHd : xF := fun k i j => (Nat.beq k 12 && Nat.beq i 0) || (Nat.beq k 20 && (Nat.beq i 0 && Nat.beq j 4))
theorem PHd_r {A B : aM} (h : fr (PR 12 0) A B) : fr PHd A B := fr_w h (fun k i j z => by
  have z : ((Nat.beq k 12 && Nat.beq i 0) || (Nat.beq k 20 && (Nat.beq i 0 && Nat.beq j 4))) = false := z
  rw [Bool.or_eq_false_iff] at z
  exact z.1)
theorem c_takeBack {nS d n w h s k o : Nat} {M : aM} {A B : Nat → Int32} (hs : cS 0 M w h s) (w1 : 1 ≤ w) (w3 : w ≤ 3) (h1 : 1 ≤ h) (h3 : h ≤ 3) (hF : gF 0 M k o) (hn : n < 20) (hd : M.1 20 0 4 = Int32.ofNat (n + 1)) (hA : lO w h s o A) (hB : lO w h s o B) (hM : ∀ l, l < 32 → hl w h s l = true → M.1 12 0 l = B l) (hp : opR k o w h s (M.1 21 0 n) (M.1 22 0 n) (M.1 23 0 n) A B) : aC nS (d + 6) 76 [vR 20 0] M (fun v M' => v = some (vI 1) ∧ fr PHd M M' ∧ M'.1 20 0 4 = Int32.ofNat n ∧ ∀ l, l < 32 → hl w h s l = true → M'.1 12 0 l = A l) (fun _ _ => False) := by
  refine aC_mk rfl rfl ?_
  intro K hK _
  refine hK _ _ _ _ (hK _ _ _ _ (hK _ _ _ _ (hK _ _ _ _ (⟨fun h9 => ?_, fun h9 => ?_⟩))))
  · have e1 : M.1 20 0 4 - 1 = Int32.ofNat n := by
      rw [hd, show (1 : Int32) = Int32.ofNat 1 from rfl, x_sub (by omega) (by omega)]
      rfl
    refine hK _ _ _ _ (hK _ _ _ _ (hK _ _ _ _ (hK _ _ _ _ (hK _ _ _ _ (hK _ _ _ _ (hK _ _ _ _ (hK _ _ _ _ (hK _ _ _ _ (hK _ _ _ _ (hK _ _ _ _ (hK _ _ _ _ (⟨_, g_at21 (a := n) (x_pe.trans e1) hn, rfl, fun v29 M29 g29 => ?_⟩))))))))))))
    obtain ⟨rfl, rfl⟩ := g29
    refine hK _ _ _ _ (hK _ _ _ _ (hK _ _ _ _ (hK _ _ _ _ (hK _ _ _ _ (⟨_, g_at22 (a := n) (x_pe.trans e1) hn, rfl, fun v40 M40 g40 => ?_⟩)))))
    obtain ⟨rfl, rfl⟩ := g40
    have F : ∀ {q j : Nat}, ¬ q = 20 → (a_pI M 20 0 4 (M.1 20 0 4 - 1)).1 q 0 j = M.1 q 0 j := fun h9 => x_pn (fun z => h9 z.1)
    rw [F (q := 21) (by decide), F (q := 22) (by decide)]
    have hs1 : cS 0 (a_pI M 20 0 4 (M.1 20 0 4 - 1)) w h s := ⟨(F (by decide)).trans hs.1, (F (by decide)).trans hs.2.1, (F (by decide)).trans hs.2.2.1, (F (by decide)).trans hs.2.2.2.1, (F (by decide)).trans hs.2.2.2.2⟩
    refine hK _ _ _ _ (⟨_, c_applyB (d := d) hs1 w1 w3 h1 h3 (gF_fr hF (fun q j a b => F (by omega))) hA hB (fun l a b => (F (by decide)).trans (hM l a b)) hp, rfl, fun v43 M43 g43 => ?_⟩)
    obtain ⟨rfl, hf, hC⟩ := g43
    exact hK _ _ _ _ (hK _ _ _ _ (⟨Or.inr rfl, rfl, fr_t (fr_p fr_r rfl) (PHd_r hf), (hf.1 20 0 4 rfl).trans (x_pe.trans e1), hC⟩))
  · exact absurd (x_nge (x := n + 1) (y := 1) hd rfl (by omega) (by decide) h9) (by omega)
theorem c_takeBack0 {nS d : Nat} {M : aM} (hd : M.1 20 0 4 = 0) : aC nS (d + 6) 76 [vR 20 0] M (fun v M' => v = some (vI 0) ∧ M = M') (fun _ _ => False) := by
  refine aC_mk rfl rfl ?_
  intro K hK _
  refine hK _ _ _ _ (hK _ _ _ _ (hK _ _ _ _ (hK _ _ _ _ (⟨fun h9 => ?_, fun h9 => ?_⟩))))
  · exact absurd (x_ge (x := 0) (y := 1) hd rfl (by decide) (by decide) h9) (by decide)
  · exact hK _ _ _ _ (hK _ _ _ _ (⟨Or.inl rfl, rfl, rfl⟩))
theorem c_doAgain {nS d n m w h s k o : Nat} {M : aM} {A B : Nat → Int32} (hs : cS 0 M w h s) (w1 : 1 ≤ w) (w3 : w ≤ 3) (h1 : 1 ≤ h) (h3 : h ≤ 3) (hF : gF 0 M k o) (hn : n < m) (hm : m ≤ 20) (hd : M.1 20 0 4 = Int32.ofNat n) (hk : M.1 20 0 5 = Int32.ofNat m) (hA : lO w h s o A) (hM : ∀ l, l < 32 → hl w h s l = true → M.1 12 0 l = A l) (hp : opR k o w h s (M.1 21 0 n) (M.1 22 0 n) (M.1 23 0 n) A B) : aC nS (d + 6) 77 [vR 20 0] M (fun v M' => v = some (vI 1) ∧ fr PHd M M' ∧ M'.1 20 0 4 = Int32.ofNat (n + 1) ∧ ∀ l, l < 32 → hl w h s l = true → M'.1 12 0 l = B l) (fun _ _ => False) := by
  refine aC_mk rfl rfl ?_
  intro K hK _
  refine hK _ _ _ _ (hK _ _ _ _ (hK _ _ _ _ (hK _ _ _ _ (hK _ _ _ _ (⟨fun h9 => ?_, fun h9 => ?_⟩)))))
  · refine hK _ _ _ _ (hK _ _ _ _ (hK _ _ _ _ (hK _ _ _ _ (hK _ _ _ _ (hK _ _ _ _ (⟨_, g_at21 (a := n) hd (by omega), rfl, fun v22 M22 g22 => ?_⟩))))))
    obtain ⟨rfl, rfl⟩ := g22
    refine hK _ _ _ _ (hK _ _ _ _ (hK _ _ _ _ (hK _ _ _ _ (hK _ _ _ _ (⟨_, g_at23 (a := n) hd (by omega), rfl, fun v33 M33 g33 => ?_⟩)))))
    obtain ⟨rfl, rfl⟩ := g33
    refine hK _ _ _ _ (⟨_, c_applyF (d := d) hs w1 w3 h1 h3 hF hA hM hp, rfl, fun v36 M36 g36 => ?_⟩)
    obtain ⟨rfl, hf, hC⟩ := g36
    exact hK _ _ _ _ (hK _ _ _ _ (hK _ _ _ _ (hK _ _ _ _ (hK _ _ _ _ (hK _ _ _ _ (hK _ _ _ _ (hK _ _ _ _ (⟨Or.inr rfl, rfl, fr_p (PHd_r hf) rfl, x_pe.trans (by rw [hf.1 20 0 4 rfl, hd]; exact hI_s), fun l a b => (x_pn (fun z => absurd z.1 (by decide))).trans (hC l a b)⟩))))))))
  · exact absurd (x_nlt (x := n) (y := m) hd hk (by omega) (by omega) h9) (by omega)
theorem c_doAgain0 {nS d n : Nat} {M : aM} (hn : n ≤ 20) (hd : M.1 20 0 4 = Int32.ofNat n) (hk : M.1 20 0 5 = Int32.ofNat n) : aC nS (d + 6) 77 [vR 20 0] M (fun v M' => v = some (vI 0) ∧ M = M') (fun _ _ => False) := by
  refine aC_mk rfl rfl ?_
  intro K hK _
  refine hK _ _ _ _ (hK _ _ _ _ (hK _ _ _ _ (hK _ _ _ _ (hK _ _ _ _ (⟨fun h9 => ?_, fun h9 => ?_⟩)))))
  · exact absurd (x_lt (x := n) (y := n) hd hk (by omega) (by omega) h9) (by omega)
  · exact hK _ _ _ _ (hK _ _ _ _ (⟨Or.inl rfl, rfl, rfl⟩))
theorem c_undoL {nS n m : Nat} {M : aM} {e : xB} {S : Nat → Nat → Int32} (hB : cB 0 M e) (hn : n ≤ m) (hm : m ≤ 20) (hd : M.1 20 0 4 = Int32.ofNat n) (hk : M.1 20 0 5 = Int32.ofNat m) (hH9 : hH e.1.1 e.1.2 e.2.1.1 e.2.1.2.1 e.2.1.2.2 n m S M) : aC nS 60 160 [vR 0 0] M (fun v M' => (n = 0 ∧ v = some (vI 0) ∧ M = M') ∨ (¬ n = 0 ∧ v = some (vI 1) ∧ fr PHd M M' ∧ M'.1 20 0 4 = Int32.ofNat (n - 1) ∧ ∀ l, l < 32 → hl e.2.1.1 e.2.1.2.1 e.2.1.2.2 l = true → M'.1 12 0 l = S (n - 1) l)) (fun _ _ => False) := by
  obtain ⟨ho, o2, o8, hS, w1, w3, h1, h3, s2⟩ := cB_h hB
  obtain ⟨p1, p2, p3, p4⟩ := hH9
  refine aC_mk rfl rfl ?_
  intro K hK _
  by_cases h0 : n = 0
  · refine hK _ _ _ _ (hK _ _ _ _ (hK _ _ _ _ (⟨_, c_takeBack0 (d := 53) (by rw [hd, h0]; rfl), rfl, fun v4 M4 g4 => ?_⟩)))
    obtain ⟨rfl, rfl⟩ := g4
    exact hK _ _ _ _ (⟨Or.inl rfl, Or.inl ⟨h0, rfl, rfl⟩⟩)
  · refine hK _ _ _ _ (hK _ _ _ _ (hK _ _ _ _ (⟨_, c_takeBack (d := 53) (n := n - 1) hS w1 w3 h1 h3 hB.1 (by omega) (by rw [hd]; congr 1; omega) (p1 (n - 1) (by omega)) (p1 n hn) p2 (by have h9 := (p4 (n - 1) (by omega)).2.2; rw [show n - 1 + 1 = n by omega] at h9; exact h9), rfl, fun v4 M4 g4 => ?_⟩)))
    obtain ⟨rfl, hf, q4, qC⟩ := g4
    exact hK _ _ _ _ (⟨Or.inr rfl, Or.inr ⟨h0, rfl, hf, q4, qC⟩⟩)
theorem c_redoL {nS n m : Nat} {M : aM} {e : xB} {S : Nat → Nat → Int32} (hB : cB 0 M e) (hn : n ≤ m) (hm : m ≤ 20) (hd : M.1 20 0 4 = Int32.ofNat n) (hk : M.1 20 0 5 = Int32.ofNat m) (hH9 : hH e.1.1 e.1.2 e.2.1.1 e.2.1.2.1 e.2.1.2.2 n m S M) : aC nS 60 161 [vR 0 0] M (fun v M' => (n = m ∧ v = some (vI 0) ∧ M = M') ∨ (¬ n = m ∧ v = some (vI 1) ∧ fr PHd M M' ∧ M'.1 20 0 4 = Int32.ofNat (n + 1) ∧ ∀ l, l < 32 → hl e.2.1.1 e.2.1.2.1 e.2.1.2.2 l = true → M'.1 12 0 l = S (n + 1) l)) (fun _ _ => False) := by
  obtain ⟨ho, o2, o8, hS, w1, w3, h1, h3, s2⟩ := cB_h hB
  obtain ⟨p1, p2, p3, p4⟩ := hH9
  refine aC_mk rfl rfl ?_
  intro K hK _
  by_cases h0 : n = m
  · refine hK _ _ _ _ (hK _ _ _ _ (hK _ _ _ _ (⟨_, c_doAgain0 (d := 53) (n := n) (by omega) hd (by rw [hk, h0]), rfl, fun v4 M4 g4 => ?_⟩)))
    obtain ⟨rfl, rfl⟩ := g4
    exact hK _ _ _ _ (⟨Or.inl rfl, Or.inl ⟨h0, rfl, rfl⟩⟩)
  · refine hK _ _ _ _ (hK _ _ _ _ (hK _ _ _ _ (⟨_, c_doAgain (d := 53) hS w1 w3 h1 h3 hB.1 (show n < m by omega) hm hd hk (p1 n hn) p2 (p4 n (by omega)).2.2, rfl, fun v4 M4 g4 => ?_⟩)))
    obtain ⟨rfl, hf, q4, qC⟩ := g4
    exact hK _ _ _ _ (⟨Or.inr rfl, Or.inr ⟨h0, rfl, hf, q4, qC⟩⟩)
def PD : xF := fun k _ j => (Nat.beq k 36 && Nat.beq j 0) || (Nat.beq k 37 && (Nat.beq j 8 || (Nat.ble 20 j && Nat.ble j 43)))
theorem PD_t {i j : Nat} (h1 : 20 ≤ j) (h2 : j ≤ 43) : PD 37 i j = true := by
  show ((Nat.beq 37 36 && Nat.beq j 0) || (Nat.beq 37 37 && (Nat.beq j 8 || (Nat.ble 20 j && Nat.ble j 43)))) = true
  rw [Nat.ble_eq_true_of_le h1, Nat.ble_eq_true_of_le h2, Bool.and_true, Bool.or_true]
  rfl
theorem PD_no {i j : Nat} (h1 : ¬ (20 ≤ j ∧ j ≤ 43)) (h8 : j ≠ 8) : PD 37 i j = false := by
  show ((Nat.beq 37 36 && Nat.beq j 0) || (Nat.beq 37 37 && (Nat.beq j 8 || (Nat.ble 20 j && Nat.ble j 43)))) = false
  rw [x_nbeq h8]
  by_cases h9 : 20 ≤ j
  · rw [x_nble (show ¬ j ≤ 43 by omega), Bool.and_false]
    rfl
  · rw [x_nble h9]
    rfl
theorem r_undoL {nS n : Nat} {M : aM} (hn : n ≤ 20) (hd : M.1 37 0 8 = Int32.ofNat n) : aC nS 60 221 [vR 36 0] M (fun v M' => (n = 0 ∧ v = some (vI 0) ∧ M' = a_pI M 36 0 0 0) ∨ (¬ n = 0 ∧ v = some (vI 1) ∧ fr PD M M' ∧ M'.1 36 0 0 = 0 ∧ M'.1 37 0 8 = Int32.ofNat (n - 1) ∧ ∀ c, c < 24 → M'.1 37 0 (20 + c) = M.1 37 0 (50 + 48 * (n - 1) + c))) (fun _ _ => False) := by
  refine aC_mk rfl rfl ?_
  intro K hK _
  have lp : ¬ n = 0 → ∀ (m c : Nat) (y : Int32) (M1 : aM), 24 - c = m → c ≤ 24 → y = Int32.ofNat c → fr PD M M1 → M1.1 36 0 0 = 0 → M1.1 37 0 8 = Int32.ofNat (n - 1) → (∀ c2, c2 < c → M1.1 37 0 (20 + c2) = M.1 37 0 (50 + 48 * (n - 1) + c2)) → K 30 [some (vR 36 0), some (vI y)] [] M1 := by
    intro hn0 m
    induction m with
    | zero =>
      intro c y M1 hm hc hy hf h0 h8 hv
      subst hy
      refine hK _ _ _ _ (hK _ _ _ _ (hK _ _ _ _ (⟨fun h => ?_, fun h => ?_⟩)))
      · exact hK _ _ _ _ (hK _ _ _ _ (⟨Or.inr rfl, Or.inr ⟨hn0, rfl, hf, h0, h8, fun c2 hc2 => hv c2 (by omega)⟩⟩))
      · exact absurd (x_nge (x := c) (y := 24) rfl rfl (by omega) (by decide) h) (by omega)
    | succ m ih =>
      intro c y M1 hm hc hy hf h0 h8 hv
      subst hy
      refine hK _ _ _ _ (hK _ _ _ _ (hK _ _ _ _ (⟨fun h => ?_, fun h => ?_⟩)))
      · exact absurd (x_ge (x := c) (y := 24) rfl rfl (by omega) (by decide) h) (by omega)
      · refine hK _ _ _ _ (hK _ _ _ _ (hK _ _ _ _ (hK _ _ _ _ (hK _ _ _ _ (hK _ _ _ _ (hK _ _ _ _ (hK _ _ _ _ (hK _ _ _ _ (hK _ _ _ _ (hK _ _ _ _ (hK _ _ _ _ (hK _ _ _ _ (⟨x_vp (a := 8) rfl (by decide) (by decide), ?_⟩)))))))))))))
        rw [x_cl (j := 8) (a := 8) rfl (by decide), h8]
        refine hK _ _ _ _ (hK _ _ _ _ (hK _ _ _ _ (hK _ _ _ _ (hK _ _ _ _ (⟨x_vp (a := 50 + 48 * (n - 1) + c) x_ix (by omega) (by decide), ?_⟩)))))
        rw [x_cl (x_ix (a := n - 1) (b := c)) (by omega), hf.1 37 0 (50 + 48 * (n - 1) + c) (PD_no (by omega) (by omega))]
        refine hK _ _ _ _ (⟨x_vp (a := 20 + c) (hI_ad (a := 20)) (by omega) (by decide), ?_⟩)
        rw [x_cl (x_20 (c := c)) (by omega)]
        refine hK _ _ _ _ (hK _ _ _ _ (?_))
        refine ih (c + 1) _ _ (by omega) (by omega) hI_s (fr_p hf (PD_t (by omega) (by omega))) ((x_pn (fun z => absurd z.1 (by decide))).trans h0) ((x_pn (fun z => by have := z.2.2; omega)).trans h8) (fun c2 hc2 => ?_)
        by_cases he : c2 = c
        · rw [he]
          exact x_pe
        · exact (x_pn (fun z => he (by have := z.2.2; omega))).trans (hv c2 (by omega))
  have e8 : (a_pI M 36 0 0 0).1 37 0 8 = Int32.ofNat n := (x_pn (fun z => absurd z.1 (by decide))).trans hd
  refine hK _ _ _ _ (hK _ _ _ _ (hK _ _ _ _ (hK _ _ _ _ (hK _ _ _ _ (hK _ _ _ _ (hK _ _ _ _ (⟨x_vp (a := 8) rfl (by decide) (by decide), ?_⟩)))))))
  rw [x_cl (j := 8) (a := 8) rfl (by decide), e8]
  refine hK _ _ _ _ (⟨fun q => ?_, fun q => ?_⟩)
  · have hn0 : ¬ n = 0 := fun z => q (by rw [z]; rfl)
    refine hK _ _ _ _ (hK _ _ _ _ (hK _ _ _ _ (hK _ _ _ _ (hK _ _ _ _ (⟨x_vp (a := 8) rfl (by decide) (by decide), ?_⟩)))))
    rw [x_cl (j := 8) (a := 8) rfl (by decide), e8]
    refine hK _ _ _ _ (hK _ _ _ _ (hK _ _ _ _ (⟨x_vp (a := 8) rfl (by decide) (by decide), ?_⟩)))
    rw [x_cl (j := 8) (a := 8) rfl (by decide)]
    refine hK _ _ _ _ (hK _ _ _ _ (?_))
    refine lp hn0 _ 0 _ _ rfl (Nat.zero_le _) rfl (fr_p (fr_p fr_r rfl) rfl) ((x_pn (fun z => absurd z.1 (by decide))).trans x_pe) (x_pe.trans ?_) (fun c2 hc2 => absurd hc2 (Nat.not_lt_zero _))
    rw [show (1 : Int32) = Int32.ofNat 1 from rfl, x_sub (by omega) (by omega)]
  · have hn0 : n = 0 := x_inj (y := 0) (by omega) (by decide) q
    exact hK _ _ _ _ (hK _ _ _ _ (⟨Or.inl rfl, Or.inl ⟨hn0, rfl, rfl⟩⟩))
theorem r_redoL {nS n m : Nat} {M : aM} (hn : n ≤ m) (hm9 : m ≤ 20) (hd : M.1 37 0 8 = Int32.ofNat n) (hk : M.1 37 0 7 = Int32.ofNat m) : aC nS 60 222 [vR 36 0] M (fun v M' => (n = m ∧ v = some (vI 0) ∧ M' = a_pI M 36 0 0 0) ∨ (¬ n = m ∧ v = some (vI 1) ∧ fr PD M M' ∧ M'.1 36 0 0 = 0 ∧ M'.1 37 0 8 = Int32.ofNat (n + 1) ∧ ∀ c, c < 24 → M'.1 37 0 (20 + c) = M.1 37 0 (74 + 48 * n + c))) (fun _ _ => False) := by
  refine aC_mk rfl rfl ?_
  intro K hK _
  have lp : ¬ n = m → ∀ (m9 c : Nat) (y : Int32) (M1 : aM), 24 - c = m9 → c ≤ 24 → y = Int32.ofNat c → fr PD M M1 → M1.1 36 0 0 = 0 → M1.1 37 0 8 = Int32.ofNat n → (∀ c2, c2 < c → M1.1 37 0 (20 + c2) = M.1 37 0 (74 + 48 * n + c2)) → K 26 [some (vR 36 0), some (vI y)] [] M1 := by
    intro hn0 m9
    induction m9 with
    | zero =>
      intro c y M1 hm hc hy hf h0 h8 hv
      subst hy
      refine hK _ _ _ _ (hK _ _ _ _ (hK _ _ _ _ (⟨fun h => ?_, fun h => ?_⟩)))
      · refine hK _ _ _ _ (hK _ _ _ _ (hK _ _ _ _ (hK _ _ _ _ (hK _ _ _ _ (⟨x_vp (a := 8) rfl (by decide) (by decide), ?_⟩)))))
        rw [x_cl (j := 8) (a := 8) rfl (by decide), h8]
        refine hK _ _ _ _ (hK _ _ _ _ (hK _ _ _ _ (⟨x_vp (a := 8) rfl (by decide) (by decide), ?_⟩)))
        rw [x_cl (j := 8) (a := 8) rfl (by decide)]
        exact hK _ _ _ _ (hK _ _ _ _ (⟨Or.inr rfl, Or.inr ⟨hn0, rfl, fr_p hf rfl, (x_pn (fun z => absurd z.1 (by decide))).trans h0, x_pe.trans hI_s, fun c2 hc2 => (x_pn (fun z => by have := z.2.2; omega)).trans (hv c2 (by omega))⟩⟩))
      · exact absurd (x_nge (x := c) (y := 24) rfl rfl (by omega) (by decide) h) (by omega)
    | succ m9 ih =>
      intro c y M1 hm hc hy hf h0 h8 hv
      subst hy
      refine hK _ _ _ _ (hK _ _ _ _ (hK _ _ _ _ (⟨fun h => ?_, fun h => ?_⟩)))
      · exact absurd (x_ge (x := c) (y := 24) rfl rfl (by omega) (by decide) h) (by omega)
      · refine hK _ _ _ _ (hK _ _ _ _ (hK _ _ _ _ (hK _ _ _ _ (hK _ _ _ _ (hK _ _ _ _ (hK _ _ _ _ (hK _ _ _ _ (hK _ _ _ _ (hK _ _ _ _ (hK _ _ _ _ (hK _ _ _ _ (hK _ _ _ _ (⟨x_vp (a := 8) rfl (by decide) (by decide), ?_⟩)))))))))))))
        rw [x_cl (j := 8) (a := 8) rfl (by decide), h8]
        refine hK _ _ _ _ (hK _ _ _ _ (hK _ _ _ _ (hK _ _ _ _ (hK _ _ _ _ (hK _ _ _ _ (hK _ _ _ _ (⟨x_vp (a := 74 + 48 * n + c) x_iy (by omega) (by decide), ?_⟩)))))))
        rw [x_cl (x_iy (a := n) (b := c)) (by omega), hf.1 37 0 (74 + 48 * n + c) (PD_no (by omega) (by omega))]
        refine hK _ _ _ _ (⟨x_vp (a := 20 + c) (hI_ad (a := 20)) (by omega) (by decide), ?_⟩)
        rw [x_cl (x_20 (c := c)) (by omega)]
        refine hK _ _ _ _ (hK _ _ _ _ (?_))
        refine ih (c + 1) _ _ (by omega) (by omega) hI_s (fr_p hf (PD_t (by omega) (by omega))) ((x_pn (fun z => absurd z.1 (by decide))).trans h0) ((x_pn (fun z => by have := z.2.2; omega)).trans h8) (fun c2 hc2 => ?_)
        by_cases he : c2 = c
        · rw [he]
          exact x_pe
        · exact (x_pn (fun z => he (by have := z.2.2; omega))).trans (hv c2 (by omega))
  have e8 : (a_pI M 36 0 0 0).1 37 0 8 = Int32.ofNat n := (x_pn (fun z => absurd z.1 (by decide))).trans hd
  have e7 : (a_pI M 36 0 0 0).1 37 0 7 = Int32.ofNat m := (x_pn (fun z => absurd z.1 (by decide))).trans hk
  refine hK _ _ _ _ (hK _ _ _ _ (hK _ _ _ _ (hK _ _ _ _ (hK _ _ _ _ (hK _ _ _ _ (hK _ _ _ _ (⟨x_vp (a := 8) rfl (by decide) (by decide), ?_⟩)))))))
  rw [x_cl (j := 8) (a := 8) rfl (by decide), e8]
  refine hK _ _ _ _ (hK _ _ _ _ (hK _ _ _ _ (hK _ _ _ _ (⟨x_vp (a := 7) rfl (by decide) (by decide), ?_⟩))))
  rw [x_cl (j := 7) (a := 7) rfl (by decide), e7]
  refine hK _ _ _ _ (⟨fun q => ?_, fun q => ?_⟩)
  · have hn0 : ¬ n = m := fun z => q (by rw [z])
    refine hK _ _ _ _ (hK _ _ _ _ (?_))
    exact lp hn0 _ 0 _ _ rfl (Nat.zero_le _) rfl (fr_p fr_r rfl) x_pe e8 (fun c2 hc2 => absurd hc2 (Nat.not_lt_zero _))
  · have hn0 : n = m := x_inj (by omega) (by omega) q
    exact hK _ _ _ _ (hK _ _ _ _ (⟨Or.inl rfl, Or.inl ⟨hn0, rfl, rfl⟩⟩))
theorem hH_step {k o w h s n m : Nat} {S : Nat → Nat → Int32} {M N M2 : aM} {B : Nat → Int32} {p b f : Int32} (w1 : 1 ≤ w) (w3 : w ≤ 3) (h1 : 1 ≤ h) (h3 : h ≤ 3) (s2 : s ≤ 2) (hn : n ≤ m) (hm : m ≤ 20) (hH9 : hH k o w h s n m S M) (hB : lO w h s o B) (hT9 : NT M N n p b f) (hR : RU M M2 n) (e12 : ∀ l, l < 32 → hl w h s l = true → M2.1 12 0 l = B l) (e20 : ∀ q j, 21 ≤ q → q ≤ 23 → M2.1 q 0 j = N.1 q 0 j) (eL : lR 37 20 M2 w h s B) (hp : opR k o w h s p b f (S n) B) : hH k o w h s (hN n) (hN n) (fun i => if i = hN n then B else S (i + (n - 19))) M2 := by
  obtain ⟨p1, p2, p3, p4⟩ := hH9
  obtain ⟨-, c1, c2, c3⟩ := hR
  obtain ⟨-, t1, t2, t3, t4⟩ := hT9
  have lmL : ∀ l, l < 32 → hl w h s l = true → lm w h s l < 24 := fun l a c => Nat.lt_of_lt_of_le (lm_lt w1 w3 h1 h3 s2 a c) (lmy_le w1 w3 h1 h3 s2)
  have hN9 : hN n = min n 19 + 1 := rfl
  refine ⟨fun i hi => ?_, fun l a c => ?_, fun l a c => ?_, fun i hi => ?_⟩
  · dsimp only
    by_cases he : i = hN n
    · rw [if_pos he]
      exact hB
    · rw [if_neg he]
      exact p1 _ (by omega)
  · dsimp only
    rw [if_pos rfl]
    exact e12 l a c
  · dsimp only
    rw [if_pos rfl]
    exact eL l a c
  · dsimp only
    rw [if_neg (show ¬ i = hN n by omega)]
    by_cases hl9 : i = min n 19
    · have ei : i + (n - 19) = n := by omega
      rw [if_pos (show i + 1 = hN n by omega), ei]
      refine ⟨fun l a c => ?_, fun l a c => ?_, ?_⟩
      · rw [hl9, c2 _ (lmL l a c)]
        exact p3 l a c
      · rw [hl9, c3 _ (lmL l a c)]
        exact eL l a c
      · rw [e20 21 i (by decide) (by decide), e20 22 i (by decide) (by decide), e20 23 i (by decide) (by decide), hl9, t2, t3, t4]
        exact hp
    · have hi2 : i < min n 19 := by omega
      obtain ⟨q1, q2, q3⟩ := p4 (i + (n - 19)) (by omega)
      rw [if_neg (show ¬ i + 1 = hN n by omega), show i + 1 + (n - 19) = i + (n - 19) + 1 by omega]
      refine ⟨fun l a c => ?_, fun l a c => ?_, ?_⟩
      · have hl8 := lmL l a c
        rw [show 50 + 48 * i + lm w h s l = 50 + (48 * i + lm w h s l) by omega, c1 _ (by omega), ← q1 l a c, show 50 + 48 * (n - 19) + (48 * i + lm w h s l) = 50 + 48 * (i + (n - 19)) + lm w h s l by omega]
      · have hl8 := lmL l a c
        rw [show 74 + 48 * i + lm w h s l = 50 + (48 * i + 24 + lm w h s l) by omega, c1 _ (by omega), ← q2 l a c, show 50 + 48 * (n - 19) + (48 * i + 24 + lm w h s l) = 74 + 48 * (i + (n - 19)) + lm w h s l by omega]
      · rw [e20 21 i (by decide) (by decide), e20 22 i (by decide) (by decide), e20 23 i (by decide) (by decide), t1 21 i (by decide) (by decide) hi2, t1 22 i (by decide) (by decide) hi2, t1 23 i (by decide) (by decide) hi2]
        exact q3
