/-- frames told so far -/
def okF (k o w h s t : Nat) (S S2 : Nat → Int32) (M : aM) : Prop := M.1 45 0 0 = Int32.ofNat t ∧ (∀ u, u < 16 → M.1 45 0 u = -1 ∨ ∃ a, a < o ∧ M.1 45 0 u = Int32.ofNat a) ∧ ∀ f, sol k o w h s S S2 f → f 0 = t → ∀ c, c < 16 → otd w h s c 32 = true → M.1 45 0 (ocm w h s c) = -1 ∨ M.1 45 0 (ocm w h s c) = Int32.ofNat (f c)
/-- a line that agrees -/
def okl (k o w h s : Nat) (S S2 : Nat → Int32) (M : aM) (l : Nat) : Prop := (M.1 45 0 (ocm w h s (l / 2)) = -1 ∧ M.1 45 0 (ocm w h s (len w h s l)) = -1) ∨ ∃ x y, x < o ∧ y < o ∧ M.1 45 0 (ocm w h s (l / 2)) = Int32.ofNat x ∧ M.1 45 0 (ocm w h s (len w h s l)) = Int32.ofNat y ∧ rt k o x (xn (S l)) = rt k o (xn (S2 l)) y
theorem okF_put {k o w h s t u a : Nat} {S S2 : Nat → Int32} {M : aM} (hF : okF k o w h s t S S2 M) (o8 : o ≤ 8) (ht : t < o) (hu : M.1 45 0 u = -1) (ha : a < o) (hf : ∀ f, sol k o w h s S S2 f → f 0 = t → ∀ c, c < 16 → otd w h s c 32 = true → ocm w h s c = u → a = f c) : okF k o w h s t S S2 (a_pI M 45 0 u (Int32.ofNat a)) := by
  obtain ⟨h0, h1, h2⟩ := hF
  have u0 : ¬ u = 0 := fun z => by
    rw [z, h0] at hu
    exact absurd hu (x_m1 (by omega))
  refine ⟨(x_pn (fun z => u0 z.2.2.symm)).trans h0, fun q hq => ?_, fun f hf2 f0 c hc hd => ?_⟩
  · by_cases e : q = u
    · rw [e]
      exact Or.inr ⟨a, ha, x_pe⟩
    · rw [x_pn (fun z => e z.2.2)]
      exact h1 q hq
  · by_cases e : ocm w h s c = u
    · rw [e, x_pe, hf f hf2 f0 c hc hd e]
      exact Or.inr rfl
    · rw [x_pn (fun z => e z.2.2)]
      exact h2 f hf2 f0 c hc hd
theorem okF_end {k o w h s t : Nat} {S S2 : Nat → Int32} {M : aM} (w1 : 1 ≤ w) (w3 : w ≤ 3) (h1 : 1 ≤ h) (h3 : h ≤ 3) (s2 : s ≤ 2) (hF : okF k o w h s t S S2 M) (o8 : o ≤ 8) (ht : t < o) (hA : ∀ l, l < 32 → hl w h s l = true → okl k o w h s S S2 M l) : sot k o w h s S S2 t := by
  have con : ∀ i, i ≤ 32 → ∀ c, c < 16 → otd w h s c i = true → ∃ a, a < o ∧ M.1 45 0 (ocm w h s c) = Int32.ofNat a := by
    intro i
    induction i with
    | zero =>
      intro _ c hc hd
      have c0 : c = 0 := Nat.eq_of_beq_eq_true hd
      exact ⟨t, ht, by rw [c0, ocm_0 w1 w3 h1 h3 s2]; exact hF.1⟩
    | succ i ih =>
      intro hi c hc hd
      rcases otd_s hd with hd | ⟨hv, ho, hd⟩
      · exact ih (by omega) c hc hd
      · obtain ⟨d1, d2, d3, d4, -⟩ := otab w1 w3 h1 h3 s2 (show i < 32 by omega) hv
        obtain ⟨a, ha, ea⟩ := ih (by omega) (i / 2) (by omega) (d4 ho).1
        rcases hA i (by omega) hv with ⟨q, -⟩ | ⟨x, y, hx, hy, -, ey, -⟩
        · rw [ea] at q
          exact absurd q (x_m1 (by omega))
        · exact ⟨y, hy, by rw [hd]; exact ey⟩
  refine ⟨fun c => if otd w h s c 32 = true then xn (M.1 45 0 (ocm w h s c)) else 0, ⟨fun c hc => ?_, fun l l32 hv => ?_⟩, ?_⟩
  · show (if otd w h s c 32 = true then xn (M.1 45 0 (ocm w h s c)) else 0) < o
    by_cases hd : otd w h s c 32 = true
    · rw [if_pos hd]
      obtain ⟨a, ha, e⟩ := con 32 (Nat.le_refl _) c hc hd
      rw [e, xn_o (show a < 1000 by omega)]
      exact ha
    · rw [if_neg hd]
      omega
  · obtain ⟨d1, d2, d3, -⟩ := otab w1 w3 h1 h3 s2 l32 hv
    show rt k o (if otd w h s (l / 2) 32 = true then xn (M.1 45 0 (ocm w h s (l / 2))) else 0) (xn (S l)) = rt k o (xn (S2 l)) (if otd w h s (len w h s l) 32 = true then xn (M.1 45 0 (ocm w h s (len w h s l))) else 0)
    rw [if_pos d1, if_pos d2]
    rcases hA l l32 hv with ⟨q, -⟩ | ⟨x, y, hx, hy, ex, ey, he⟩
    · obtain ⟨a, ha, ea⟩ := con 32 (Nat.le_refl _) (l / 2) (by omega) d1
      rw [ea] at q
      exact absurd q (x_m1 (by omega))
    · rw [ex, ey, xn_o (show x < 1000 by omega), xn_o (show y < 1000 by omega)]
      exact he
  · show (if otd w h s 0 32 = true then xn (M.1 45 0 (ocm w h s 0)) else 0) = t
    rw [if_pos otd_0, ocm_0 w1 w3 h1 h3 s2, hF.1, xn_o (show t < 1000 by omega)]
set_option maxHeartbeats 8000000 in
theorem r_alikeBy {nS d k o w h s t : Nat} {M : aM} {S S2 : Nat → Int32} (hg : gM M k o) (hs : rS M w h s) (w1 : 1 ≤ w) (w3 : w ≤ 3) (h1 : 1 ≤ h) (h3 : h ≤ 3) (s2 : s ≤ 2) (hO : lO w h s o S) (hO2 : lO w h s o S2) (hL : lR 37 20 M w h s S) (hL2 : lR 38 20 M w h s S2) (ht : t < o) : aC nS (d + 4) 233 [vR 36 0, vI (Int32.ofNat t)] M (fun v M' => ((sot k o w h s S S2 t ∧ v = some (vI 1)) ∨ (¬ sot k o w h s S S2 t ∧ v = some (vI 0))) ∧ fr (PR 45 0) M M') (fun _ _ => False) := by
  have hq := hg.1
  obtain ⟨o2, o8, k3⟩ := gP_o hq
  have xv : ∀ l, l < 32 → hl w h s l = true → S l = Int32.ofNat (xn (S l)) ∧ xn (S l) < o := fun l a b => by
    obtain ⟨x, hx, e⟩ := hO l a b
    rw [e, xn_o (show x < 1000 by omega)]
    exact ⟨rfl, hx⟩
  have xu : ∀ l, l < 32 → hl w h s l = true → S2 l = Int32.ofNat (xn (S2 l)) ∧ xn (S2 l) < o := fun l a b => by
    obtain ⟨x, hx, e⟩ := hO2 l a b
    rw [e, xn_o (show x < 1000 by omega)]
    exact ⟨rfl, hx⟩
  have my24 := lmy_le w1 w3 h1 h3 s2
  refine aC_mk rfl rfl ?_
  intro K hK _
  have no1 : ∀ a : Nat, a < o → ¬ Int32.ofNat a = -1 := fun a ha => x_m1 (by omega)
  have gm1 : ∀ {M1 : aM}, fr (PR 45 0) M M1 → gM M1 k o := fun f => ⟨hq, (f.1 37 0 1 rfl).trans hg.2.1, (f.1 37 0 2 rfl).trans hg.2.2⟩
  have rs1 : ∀ {M1 : aM}, fr (PR 45 0) M M1 → rS M1 w h s := fun f => ⟨(f.1 37 0 3 rfl).trans hs.1, (f.1 37 0 4 rfl).trans hs.2.1, (f.1 37 0 5 rfl).trans hs.2.2⟩
  have lpo : ∀ (c : Nat) (l3 l4 l5 l6 l7 : Option aV) (M1 : aM), cnF (M1.1 45 0) 16 ≤ c → fr (PR 45 0) M M1 → okF k o w h s t S S2 M1 → K 30 [some (vR 36 0), some (vI (Int32.ofNat t)), some (vI 1), l3, l4, l5, l6, l7] [] M1 := by
    intro c
    induction c using Nat.strongRecOn with
    | ind c ihc =>
    intro l3 l4 l5 l6 l7 M0 hc f0 hF0
    refine hK _ _ _ _ (hK _ _ _ _ (⟨fun q => (by first | exact absurd q (by decide) | exact absurd rfl q | exact absurd (by decide) q), fun _ => ?_⟩))
    have lpi : ∀ (m j : Nat) (mo : Int32) (l4 l5 l6 l7 : Option aV) (M1 : aM), lmy w h s - j = m → j ≤ lmy w h s → ((mo = 0 ∧ ∀ l, l < 32 → hl w h s l = true → lm w h s l < j → okl k o w h s S S2 M1 l) ∨ (mo = 1 ∧ cnF (M1.1 45 0) 16 < cnF (M0.1 45 0) 16)) → fr (PR 45 0) M M1 → okF k o w h s t S S2 M1 → cnF (M1.1 45 0) 16 ≤ cnF (M0.1 45 0) 16 → K 38 [some (vR 36 0), some (vI (Int32.ofNat t)), some (vI mo), some (vI (Int32.ofNat j)), l4, l5, l6, l7] [] M1 := by
      intro m
      induction m with
      | zero =>
        intro j mo l4 l5 l6 l7 M1 hm hj hmo f1 hF hle
        refine hK _ _ _ _ (hK _ _ _ _ (hK _ _ _ _ (⟨_, r_lineMy (rs1 f1) w1 w3 h1 h3 s2, rfl, fun v40 M40 g40 => ?_⟩)))
        obtain ⟨rfl, rfl⟩ := g40
        refine hK _ _ _ _ (⟨fun h9 => ?_, fun h9 => ?_⟩)
        · refine hK _ _ _ _ (?_)
          rcases hmo with ⟨rfl, hA⟩ | ⟨rfl, hlt⟩
          · have hs9 := okF_end w1 w3 h1 h3 s2 hF o8 ht (fun l l32 hv => hA l l32 hv (Nat.lt_of_lt_of_le (lm_lt w1 w3 h1 h3 s2 l32 hv) (by omega)))
            refine hK _ _ _ _ (hK _ _ _ _ (⟨fun _ => ?_, fun q => (by first | exact absurd q (by decide) | exact absurd rfl q | exact absurd (by decide) q)⟩))
            exact hK _ _ _ _ (hK _ _ _ _ (⟨Or.inr rfl, Or.inl ⟨hs9, rfl⟩, f1⟩))
          · exact ihc _ (Nat.lt_of_lt_of_le hlt hc) _ _ _ _ _ _ (Nat.le_refl _) f1 hF
        · exact absurd (x_nge (x := j) (y := lmy w h s) rfl rfl (by omega) (by omega) h9) (by omega)
      | succ m ih =>
        intro j mo l4 l5 l6 l7 M1 hm hj hmo f1 hF hle
        refine hK _ _ _ _ (hK _ _ _ _ (hK _ _ _ _ (⟨_, r_lineMy (rs1 f1) w1 w3 h1 h3 s2, rfl, fun v40 M40 g40 => ?_⟩)))
        obtain ⟨rfl, rfl⟩ := g40
        refine hK _ _ _ _ (⟨fun h9 => ?_, fun h9 => ?_⟩)
        · exact absurd (x_ge (x := j) (y := lmy w h s) rfl rfl (by omega) (by omega) h9) (by omega)
        clear h9
        obtain ⟨l, l32, hv, el⟩ := lm_sur w1 w3 h1 h3 s2 (show j < lmy w h s by omega)
        obtain ⟨d1, d2, d3, -, e5, e6⟩ := otab w1 w3 h1 h3 s2 l32 hv
        rw [el] at e5 e6
        obtain ⟨v1, v2⟩ := xv l l32 hv
        obtain ⟨u1, u2⟩ := xu l l32 hv
        have gm := gm1 f1
        have ev : M1.1 37 0 (20 + j) = Int32.ofNat (xn (S l)) := (f1.1 37 0 (20 + j) rfl).trans ((show M.1 37 0 (20 + j) = S l by rw [← el]; exact hL l l32 hv).trans v1)
        have eu : M1.1 38 0 (20 + j) = Int32.ofNat (xn (S2 l)) := (f1.1 38 0 (20 + j) rfl).trans ((show M.1 38 0 (20 + j) = S2 l by rw [← el]; exact hL2 l l32 hv).trans u1)
        obtain ⟨a, hA⟩ : ∃ a, a = ocm w h s (l / 2) := ⟨_, rfl⟩
        obtain ⟨b, hBb⟩ : ∃ b, b = ocm w h s (len w h s l) := ⟨_, rfl⟩
        have a16 : a < 16 := by
          rw [hA]
          exact ocm_16 w1 w3 h1 h3 s2 (by omega)
        have b16 : b < 16 := by
          rw [hBb]
          exact ocm_16 w1 w3 h1 h3 s2 d3
        rw [← hA] at e5
        rw [← hBb] at e6
        refine hK _ _ _ _ (hK _ _ _ _ (hK _ _ _ _ (hK _ _ _ _ (⟨_, r_endOf (l := j) (t := 0) (rs1 f1) w1 w3 h1 h3 s2 rfl (by omega) rfl (by decide), rfl, fun v49 M49 g49 => ?_⟩))))
        obtain ⟨rfl, rfl⟩ := g49
        rw [e5]
        refine hK _ _ _ _ (hK _ _ _ _ (hK _ _ _ _ (hK _ _ _ _ (hK _ _ _ _ (⟨_, r_endOf (l := j) (t := 1) (rs1 f1) w1 w3 h1 h3 s2 rfl (by omega) rfl (by decide), rfl, fun v57 M57 g57 => ?_⟩)))))
        obtain ⟨rfl, rfl⟩ := g57
        rw [e6]
        have e20 : (20 : Int32) + Int32.ofNat j = Int32.ofNat (20 + j) := hI_ad (a := 20)
        refine hK _ _ _ _ (hK _ _ _ _ (hK _ _ _ _ (hK _ _ _ _ (hK _ _ _ _ (hK _ _ _ _ (?_))))))
        refine hK _ _ _ _ ⟨x_vp e20 (show 20 + j < 1010 by omega) (by decide), ?_⟩
        rw [x_cl e20 (by omega), ev]
        refine hK _ _ _ _ (hK _ _ _ _ (hK _ _ _ _ (hK _ _ _ _ (hK _ _ _ _ (hK _ _ _ _ (?_))))))
        refine hK _ _ _ _ ⟨x_vp e20 (show 20 + j < 1010 by omega) (by decide), ?_⟩
        rw [x_cl e20 (by omega), eu]
        have nxt : okl k o w h s S S2 M1 l → K 248 [some (vR 36 0), some (vI (Int32.ofNat t)), some (vI mo), some (vI (Int32.ofNat j)), some (vI (Int32.ofNat a)), some (vI (Int32.ofNat b)), some (vI (Int32.ofNat (xn (S l)))), some (vI (Int32.ofNat (xn (S2 l))))] [] M1 := by
          intro hl9
          refine hK _ _ _ _ (hK _ _ _ _ (?_))
          rw [hI_s]
          refine ih (j + 1) mo _ _ _ _ M1 (by omega) (by omega) ?_ f1 hF hle
          rcases hmo with ⟨rfl, hQ⟩ | hmo
          · refine Or.inl ⟨rfl, fun l9 p q r => ?_⟩
            by_cases e9 : lm w h s l9 = j
            · rw [lm_inj w1 w3 h1 h3 s2 p l32 q hv (e9.trans el.symm)]
              exact hl9
            · exact hQ l9 p q (by omega)
          · exact Or.inr hmo
        have tell : ∀ (u x : Nat), u < 16 → M1.1 45 0 u = -1 → x < o → (∀ f, sol k o w h s S S2 f → f 0 = t → ∀ c, c < 16 → otd w h s c 32 = true → ocm w h s c = u → x = f c) → K 248 [some (vR 36 0), some (vI (Int32.ofNat t)), some (vI 1), some (vI (Int32.ofNat j)), some (vI (Int32.ofNat a)), some (vI (Int32.ofNat b)), some (vI (Int32.ofNat (xn (S l)))), some (vI (Int32.ofNat (xn (S2 l))))] [] (a_pI M1 45 0 u (Int32.ofNat x)) := by
          intro u x hu hu1 hx hf
          have hlt : cnF ((a_pI M1 45 0 u (Int32.ofNat x)).1 45 0) 16 < cnF (M1.1 45 0) 16 := cnF_lt (a := u) 16 hu hu1 (by rw [x_pe]; exact no1 x hx) (fun w hw => x_pn (fun z => hw z.2.2))
          refine hK _ _ _ _ (hK _ _ _ _ (?_))
          rw [hI_s]
          exact ih (j + 1) 1 _ _ _ _ _ (by omega) (by omega) (Or.inr ⟨rfl, Nat.lt_of_lt_of_le hlt hle⟩) (fr_p f1 rfl) (okF_put hF o8 ht hu1 hx hf) (Nat.le_of_lt (Nat.lt_of_lt_of_le hlt hle))
        have fA : ∀ f, sol k o w h s S S2 f → f 0 = t → M1.1 45 0 a = -1 ∨ M1.1 45 0 a = Int32.ofNat (f (l / 2)) := fun f hf f0 => by
          rw [hA]
          exact hF.2.2 f hf f0 (l / 2) (by omega) d1
        have fB : ∀ f, sol k o w h s S S2 f → f 0 = t → M1.1 45 0 b = -1 ∨ M1.1 45 0 b = Int32.ofNat (f (len w h s l)) := fun f hf f0 => by
          rw [hBb]
          exact hF.2.2 f hf f0 _ d3 d2
        rcases hF.2.1 a a16 with fa | ⟨x, hx, fa⟩
        · refine hK _ _ _ _ (hK _ _ _ _ (hK _ _ _ _ (hK _ _ _ _ (?_))))
          refine hK _ _ _ _ ⟨x_vp rfl (show a < 16 from a16) (by decide), ?_⟩
          rw [x_cl rfl (show a < 2147483648 by omega), fa]
          refine hK _ _ _ _ (hK _ _ _ _ (⟨fun _ => ?_, fun q => absurd rfl q⟩))
          refine hK _ _ _ _ (hK _ _ _ _ (hK _ _ _ _ (?_)))
          refine hK _ _ _ _ ⟨x_vp rfl (show a < 16 from a16) (by decide), ?_⟩
          rw [x_cl rfl (show a < 2147483648 by omega), fa]
          refine hK _ _ _ _ (hK _ _ _ _ (⟨fun q => absurd rfl q, fun _ => ?_⟩))
          refine hK _ _ _ _ (hK _ _ _ _ (hK _ _ _ _ (?_)))
          rcases hF.2.1 b b16 with fb | ⟨y, hy, fb⟩
          · refine hK _ _ _ _ ⟨x_vp rfl (show b < 16 from b16) (by decide), ?_⟩
            rw [x_cl rfl (show b < 2147483648 by omega), fb]
            refine hK _ _ _ _ (hK _ _ _ _ (⟨fun _ => ?_, fun q => absurd rfl q⟩))
            refine hK _ _ _ _ (hK _ _ _ _ (hK _ _ _ _ (?_)))
            refine hK _ _ _ _ ⟨x_vp rfl (show a < 16 from a16) (by decide), ?_⟩
            rw [x_cl rfl (show a < 2147483648 by omega), fa]
            refine hK _ _ _ _ (hK _ _ _ _ (⟨fun _ => ?_, fun q => absurd rfl q⟩))
            exact nxt (Or.inl ⟨by rw [← hA]; exact fa, by rw [← hBb]; exact fb⟩)
          · refine hK _ _ _ _ ⟨x_vp rfl (show b < 16 from b16) (by decide), ?_⟩
            rw [x_cl rfl (show b < 2147483648 by omega), fb]
            refine hK _ _ _ _ (hK _ _ _ _ (⟨fun q => absurd q (no1 y hy), fun _ => ?_⟩))
            refine hK _ _ _ _ (hK _ _ _ _ (hK _ _ _ _ (hK _ _ _ _ (hK _ _ _ _ (hK _ _ _ _ (hK _ _ _ _ (hK _ _ _ _ (hK _ _ _ _ (?_)))))))))
            refine hK _ _ _ _ ⟨x_vp rfl (show b < 16 from b16) (by decide), ?_⟩
            rw [x_cl rfl (show b < 2147483648 by omega), fb]
            have t1 := rt_lt hq u2 hy
            refine hK _ _ _ _ (⟨_, g_times gm u2 hy, rfl, fun v184 M184 g184 => ?_⟩)
            obtain ⟨rfl, rfl⟩ := g184
            refine hK _ _ _ _ (hK _ _ _ _ (hK _ _ _ _ (⟨_, g_against gm v2, rfl, fun v190 M190 g190 => ?_⟩)))
            obtain ⟨rfl, rfl⟩ := g190
            refine hK _ _ _ _ (⟨_, g_times gm t1 (ag_lt hq v2), rfl, fun v193 M193 g193 => ?_⟩)
            obtain ⟨rfl, rfl⟩ := g193
            refine hK _ _ _ _ ⟨x_vp rfl (show a < 16 from a16) (by decide), ?_⟩
            rw [x_cl rfl (show a < 2147483648 by omega)]
            refine hK _ _ _ _ (hK _ _ _ _ (hK _ _ _ _ (?_)))
            refine tell a _ a16 fa (rt_lt hq t1 (ag_lt hq v2)) (fun f hf f0 c hc hd hc2 => ?_)
            have cl := ocm_i w1 w3 h1 h3 s2 hc (show l / 2 < 16 by omega) hd d1 (hc2.trans hA)
            have ef : y = f (len w h s l) := by
              rcases fB f hf f0 with z | z
              · rw [fb] at z
                exact absurd z (no1 y hy)
              · exact x_inj (by omega) (Nat.lt_trans (hf.1 _ d3) (by omega)) (fb.symm.trans z)
            rw [ef, ← hf.2 l l32 hv, gl_3 hq (hf.1 (l / 2) (by omega)) v2, cl]
        · rcases hF.2.1 b b16 with fb | ⟨y, hy, fb⟩
          · refine hK _ _ _ _ (hK _ _ _ _ (hK _ _ _ _ (hK _ _ _ _ (?_))))
            refine hK _ _ _ _ ⟨x_vp rfl (show a < 16 from a16) (by decide), ?_⟩
            rw [x_cl rfl (show a < 2147483648 by omega), fa]
            refine hK _ _ _ _ (hK _ _ _ _ (⟨fun q => absurd q (no1 x hx), fun _ => ?_⟩))
            refine hK _ _ _ _ (hK _ _ _ _ (hK _ _ _ _ (?_)))
            refine hK _ _ _ _ ⟨x_vp rfl (show b < 16 from b16) (by decide), ?_⟩
            rw [x_cl rfl (show b < 2147483648 by omega), fb]
            refine hK _ _ _ _ (hK _ _ _ _ (⟨fun q => absurd rfl q, fun _ => ?_⟩))
            refine hK _ _ _ _ (hK _ _ _ _ (hK _ _ _ _ (hK _ _ _ _ (hK _ _ _ _ (hK _ _ _ _ (hK _ _ _ _ (hK _ _ _ _ (hK _ _ _ _ (hK _ _ _ _ (?_))))))))))
            refine hK _ _ _ _ ⟨x_vp rfl (show a < 16 from a16) (by decide), ?_⟩
            rw [x_cl rfl (show a < 2147483648 by omega), fa]
            have t1 := rt_lt hq hx v2
            refine hK _ _ _ _ (hK _ _ _ _ (⟨_, g_times gm hx v2, rfl, fun v125 M125 g125 => ?_⟩))
            obtain ⟨rfl, rfl⟩ := g125
            refine hK _ _ _ _ (⟨_, g_against gm t1, rfl, fun v128 M128 g128 => ?_⟩)
            obtain ⟨rfl, rfl⟩ := g128
            refine hK _ _ _ _ (hK _ _ _ _ (⟨_, g_times gm (ag_lt hq t1) u2, rfl, fun v133 M133 g133 => ?_⟩))
            obtain ⟨rfl, rfl⟩ := g133
            refine hK _ _ _ _ (⟨_, g_against gm (rt_lt hq (ag_lt hq t1) u2), rfl, fun v136 M136 g136 => ?_⟩)
            obtain ⟨rfl, rfl⟩ := g136
            refine hK _ _ _ _ ⟨x_vp rfl (show b < 16 from b16) (by decide), ?_⟩
            rw [x_cl rfl (show b < 2147483648 by omega)]
            refine hK _ _ _ _ (hK _ _ _ _ (hK _ _ _ _ (?_)))
            refine tell b _ b16 fb (ag_lt hq (rt_lt hq (ag_lt hq t1) u2)) (fun f hf f0 c hc hd hc2 => ?_)
            have cl := ocm_i w1 w3 h1 h3 s2 hc d3 hd d2 (hc2.trans hBb)
            have ef : x = f (l / 2) := by
              rcases fA f hf f0 with z | z
              · rw [fa] at z
                exact absurd z (no1 x hx)
              · exact x_inj (by omega) (Nat.lt_trans (hf.1 _ (show l / 2 < 16 by omega)) (by omega)) (fa.symm.trans z)
            rw [ef, hf.2 l l32 hv, gl_2 hq u2 (hf.1 _ d3), cl]
          · refine hK _ _ _ _ (hK _ _ _ _ (hK _ _ _ _ (hK _ _ _ _ (?_))))
            refine hK _ _ _ _ ⟨x_vp rfl (show a < 16 from a16) (by decide), ?_⟩
            rw [x_cl rfl (show a < 2147483648 by omega), fa]
            refine hK _ _ _ _ (hK _ _ _ _ (⟨fun q => absurd q (no1 x hx), fun _ => ?_⟩))
            refine hK _ _ _ _ (hK _ _ _ _ (hK _ _ _ _ (?_)))
            refine hK _ _ _ _ ⟨x_vp rfl (show b < 16 from b16) (by decide), ?_⟩
            rw [x_cl rfl (show b < 2147483648 by omega), fb]
            refine hK _ _ _ _ (hK _ _ _ _ (⟨fun _ => ?_, fun q => absurd q (no1 y hy)⟩))
            refine hK _ _ _ _ (hK _ _ _ _ (hK _ _ _ _ (?_)))
            refine hK _ _ _ _ ⟨x_vp rfl (show a < 16 from a16) (by decide), ?_⟩
            rw [x_cl rfl (show a < 2147483648 by omega), fa]
            refine hK _ _ _ _ (hK _ _ _ _ (⟨fun _ => ?_, fun q => absurd q (no1 x hx)⟩))
            refine hK _ _ _ _ (hK _ _ _ _ (hK _ _ _ _ (?_)))
            refine hK _ _ _ _ ⟨x_vp rfl (show a < 16 from a16) (by decide), ?_⟩
            rw [x_cl rfl (show a < 2147483648 by omega), fa]
            refine hK _ _ _ _ (hK _ _ _ _ (⟨fun q => absurd q (no1 x hx), fun _ => ?_⟩))
            refine hK _ _ _ _ (hK _ _ _ _ (hK _ _ _ _ (hK _ _ _ _ (hK _ _ _ _ (?_)))))
            refine hK _ _ _ _ ⟨x_vp rfl (show a < 16 from a16) (by decide), ?_⟩
            rw [x_cl rfl (show a < 2147483648 by omega), fa]
            have t1 := rt_lt hq hx v2
            refine hK _ _ _ _ (hK _ _ _ _ (⟨_, g_times gm hx v2, rfl, fun v224 M224 g224 => ?_⟩))
            obtain ⟨rfl, rfl⟩ := g224
            refine hK _ _ _ _ (hK _ _ _ _ (hK _ _ _ _ (hK _ _ _ _ (?_))))
            refine hK _ _ _ _ ⟨x_vp rfl (show b < 16 from b16) (by decide), ?_⟩
            rw [x_cl rfl (show b < 2147483648 by omega), fb]
            refine hK _ _ _ _ (⟨_, g_against gm hy, rfl, fun v235 M235 g235 => ?_⟩)
            obtain ⟨rfl, rfl⟩ := g235
            refine hK _ _ _ _ (⟨_, g_times gm t1 (ag_lt hq hy), rfl, fun v238 M238 g238 => ?_⟩)
            obtain ⟨rfl, rfl⟩ := g238
            have t2 := rt_lt hq t1 (ag_lt hq hy)
            refine hK _ _ _ _ (hK _ _ _ _ (⟨fun h5 => ?_, fun h5 => ?_⟩))
            · have h6 := x_inj (x := rt k o (rt k o x (xn (S l))) (ag k o y)) (y := (xn (S2 l))) (by omega) (by omega) h5
              refine nxt (Or.inr ⟨x, y, hx, hy, by rw [← hA]; exact fa, by rw [← hBb]; exact fb, ?_⟩)
              rw [← h6, gl_4 hq t1 hy]
            · have hn : ¬ sot k o w h s S S2 t := fun z => by
                obtain ⟨f, hf, f0⟩ := z
                have ex : x = f (l / 2) := by
                  rcases fA f hf f0 with z | z
                  · rw [fa] at z
                    exact absurd z (no1 x hx)
                  · exact x_inj (by omega) (Nat.lt_trans (hf.1 _ (show l / 2 < 16 by omega)) (by omega)) (fa.symm.trans z)
                have ey : y = f (len w h s l) := by
                  rcases fB f hf f0 with z | z
                  · rw [fb] at z
                    exact absurd z (no1 y hy)
                  · exact x_inj (by omega) (Nat.lt_trans (hf.1 _ d3) (by omega)) (fb.symm.trans z)
                refine h5 ?_
                rw [ex, ey, hf.2 l l32 hv, gl_3 hq u2 (hf.1 _ d3)]
              exact hK _ _ _ _ (hK _ _ _ _ (⟨Or.inl rfl, Or.inr ⟨hn, rfl⟩, f1⟩))
    refine hK _ _ _ _ (hK _ _ _ _ (hK _ _ _ _ (hK _ _ _ _ (?_))))
    exact lpi _ 0 0 _ _ _ _ M0 rfl (Nat.zero_le _) (Or.inl ⟨rfl, fun l _ _ h => absurd h (Nat.not_lt_zero _)⟩) f0 hF0 (Nat.le_refl _)
  have lp0 : ∀ (m j : Nat) (M1 : aM), j + m = 16 → fr (PR 45 0) M M1 → (∀ u, u < j → M1.1 45 0 u = -1) → K 2 [some (vR 36 0), some (vI (Int32.ofNat t)), some (vI (Int32.ofNat j)), none, none, none, none, none] [] M1 := by
    intro m
    induction m with
    | zero =>
      intro j M1 hj f1 hu
      refine hK _ _ _ _ (hK _ _ _ _ (hK _ _ _ _ (⟨fun h5 => ?_, fun h5 => ?_⟩)))
      · refine hK _ _ _ _ (hK _ _ _ _ (hK _ _ _ _ (hK _ _ _ _ (?_))))
        refine hK _ _ _ _ ⟨x_vp (a := 0) rfl (by decide) (by decide), ?_⟩
        rw [x_cl (j := 0) (a := 0) rfl (by decide)]
        refine hK _ _ _ _ (hK _ _ _ _ (?_))
        refine lpo _ _ _ _ _ _ _ (Nat.le_refl _) (fr_p f1 rfl) ⟨x_pe, fun u hu2 => ?_, fun f hf f0 c hc hd => ?_⟩
        · by_cases e : u = 0
          · rw [e]
            exact Or.inr ⟨t, ht, x_pe⟩
          · rw [x_pn (fun z => e z.2.2)]
            exact Or.inl (hu u (by omega))
        · by_cases e : ocm w h s c = 0
          · have c0 := ocm_i w1 w3 h1 h3 s2 hc (show 0 < 16 by decide) hd otd_0 (e.trans (ocm_0 w1 w3 h1 h3 s2).symm)
            rw [e, c0, f0]
            exact Or.inr x_pe
          · rw [x_pn (fun z => e z.2.2)]
            exact Or.inl (hu _ (by have := ocm_16 (c := c) w1 w3 h1 h3 s2 hc; omega))
      · exact absurd (x_nge (x := j) (y := 16) rfl rfl (by omega) (by decide) h5) (by omega)
    | succ m ih =>
      intro j M1 hj f1 hu
      refine hK _ _ _ _ (hK _ _ _ _ (hK _ _ _ _ (⟨fun h5 => ?_, fun h5 => ?_⟩)))
      · exact absurd (x_ge (x := j) (y := 16) rfl rfl (by omega) (by decide) h5) (by omega)
      · refine hK _ _ _ _ (hK _ _ _ _ (hK _ _ _ _ (hK _ _ _ _ (?_))))
        refine hK _ _ _ _ ⟨x_vp rfl (show j < 16 by omega) (by decide), ?_⟩
        rw [x_cl rfl (show j < 2147483648 by omega)]
        refine hK _ _ _ _ (hK _ _ _ _ (?_))
        rw [hI_s]
        refine ih (j + 1) _ (by omega) (fr_p f1 rfl) (fun u hu2 => ?_)
        by_cases e : u = j
        · rw [e]
          exact x_pe
        · rw [x_pn (fun z => e z.2.2)]
          exact hu u (by omega)
  refine hK _ _ _ _ (hK _ _ _ _ (?_))
  exact lp0 16 0 M rfl fr_r (fun u hu => absurd hu (Nat.not_lt_zero _))
