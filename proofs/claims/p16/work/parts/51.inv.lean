/-! what holds between the law's calls -/
def iPairs : List (Nat × Nat) := [(2147483648, 2147483650), (2147483648, 2147483651), (2147483648, 2147483652), (2147483648, 2147483653), (2147483648, 2147483654), (2147483648, 2147483655), (2147483648, 2147483656), (2147483649, 2147483652), (2147483649, 2147483654), (2147483649, 2147483656), (2147483650, 2147483656), (2147483651, 2147483650), (2147483651, 2147483652), (2147483651, 2147483656)]
/-- kind and order make a group -/
def iP (k : Nat) (M : aM) : Prop := ∃ q ∈ iPairs, z_b (M.1 k 0 1) = q.1 ∧ z_b (M.1 k 0 2) = q.2
def iD (M : aM) : Prop := ∃ d : Nat, d ≤ 20 ∧ z_b (M.1 37 0 8) = d + 2147483648 ∧ d + 2147483648 ≤ z_b (M.1 37 0 7)
def iK (M : aM) : Prop := M.1 36 0 3 = 0 ∨ (iP 38 M ∧ 2147483649 ≤ z_b (M.1 38 0 3) ∧ 2147483649 ≤ z_b (M.1 38 0 4))
def iM (M : aM) : Prop := iP 37 M ∧ iD M ∧ iK M
def iFr (W : zW) : Bool := !(z_w W 37 1 1) && (!(z_w W 37 2 2) && (!(z_w W 37 7 7) && (!(z_w W 37 8 8) && (!(z_w W 36 3 3) && (!(z_w W 38 1 1) && (!(z_w W 38 2 2) && (!(z_w W 38 3 3) && !(z_w W 38 4 4))))))))
theorem i_nw {W : zW} {k j : Nat} {M M' : aM} (h : z_MW W M M') (hw : (!(z_w W k j j)) = true) : M'.1 k 0 j = M.1 k 0 j := (h k 0 j (by simpa using hw)).1
theorem iP_eq {k : Nat} {M M' : aM} (h1 : M'.1 k 0 1 = M.1 k 0 1) (h2 : M'.1 k 0 2 = M.1 k 0 2) (h : iP k M) : iP k M' := by
  obtain ⟨q, hq, a, b⟩ := h
  exact ⟨q, hq, by rw [h1]; exact a, by rw [h2]; exact b⟩
theorem iK_eq {M M' : aM} (h3 : M'.1 36 0 3 = M.1 36 0 3) (h1 : M'.1 38 0 1 = M.1 38 0 1) (h2 : M'.1 38 0 2 = M.1 38 0 2) (h4 : M'.1 38 0 3 = M.1 38 0 3) (h5 : M'.1 38 0 4 = M.1 38 0 4) (h : iK M) : iK M' := by
  rcases h with h | ⟨a, b, c⟩
  · exact Or.inl (by rw [h3]; exact h)
  · exact Or.inr ⟨iP_eq h1 h2 a, by rw [h4]; exact b, by rw [h5]; exact c⟩
theorem iM_fr {W : zW} {M M' : aM} (h : z_MW W M M') (hf : iFr W = true) (hi : iM M) : iM M' := by
  unfold iFr at hf
  rw [Bool.and_eq_true, Bool.and_eq_true, Bool.and_eq_true, Bool.and_eq_true, Bool.and_eq_true, Bool.and_eq_true, Bool.and_eq_true, Bool.and_eq_true] at hf
  obtain ⟨f1, f2, f3, f4, f5, f6, f7, f8, f9⟩ := hf
  obtain ⟨a, ⟨d, b1, b2, b3⟩, c⟩ := hi
  refine ⟨iP_eq (i_nw h f1) (i_nw h f2) a, ⟨d, b1, ?_, ?_⟩, iK_eq (i_nw h f5) (i_nw h f6) (i_nw h f7) (i_nw h f8) (i_nw h f9) c⟩
  · rw [i_nw h f4]; exact b2
  · rw [i_nw h f3]; exact b3
/-- behind a call of the reference: t bytes are on its tape -/
def mPost (t : Nat) (M M' : aM) : Prop := z_MT (zTb, [], []) M' ∧ iM M' ∧ (∀ k i j : Nat, k < 36 ∨ 46 < k → M'.1 k i j = M.1 k i j ∧ M'.2 k i j = M.2 k i j) ∧ z_b (M'.1 36 0 6) = t
/-- behind a call of the class: t bytes are on its tape -/
def cPost (t : Nat) (M M' : aM) : Prop := z_MT (zTb, [], []) M' ∧ (∀ k i j : Nat, 35 < k → k ≠ 98 → M'.1 k i j = M.1 k i j ∧ M'.2 k i j = M.2 k i j) ∧ z_b (M'.1 1 0 1) = t
def iWm (W : zW) : Bool := W.all (fun w => Nat.ble 36 w.1 && Nat.ble w.1 46)
def iWc (W : zW) : Bool := W.all (fun w => Nat.ble w.1 35 || Nat.beq w.1 98)
theorem iWm_ok {W : zW} (h : iWm W = true) {k j : Nat} (hk : k < 36 ∨ 46 < k) : z_w W k j j = false := by
  cases hq : z_w W k j j with
  | false => rfl
  | true =>
    obtain ⟨w, h1, h2, -⟩ := z_w_at hq
    have := List.all_eq_true.mp h w h1
    rw [Bool.and_eq_true] at this
    have a := z_ble this.1
    have b := z_ble this.2
    omega
theorem iWc_ok {W : zW} (h : iWc W = true) {k j : Nat} (h1 : 35 < k) (h2 : k ≠ 98) : z_w W k j j = false := by
  cases hq : z_w W k j j with
  | false => rfl
  | true =>
    obtain ⟨w, g1, g2, -⟩ := z_w_at hq
    have := List.all_eq_true.mp h w g1
    rw [Bool.or_eq_true] at this
    rcases this with a | a
    · have := z_ble a
      omega
    · have := Nat.eq_of_beq_eq_true a
      omega
theorem m_fr {W : zW} {M M' : aM} (h : z_M (zTb, W, []) M [] M') (hw : iWm W = true) : ∀ k i j : Nat, k < 36 ∨ 46 < k → M'.1 k i j = M.1 k i j ∧ M'.2 k i j = M.2 k i j := fun k i j hk => h.2.1 k i j (iWm_ok hw hk)
theorem c_fr {W : zW} {M M' : aM} (h : z_M (zTb, W, []) M [] M') (hw : iWc W = true) : ∀ k i j : Nat, 35 < k → k ≠ 98 → M'.1 k i j = M.1 k i j ∧ M'.2 k i j = M.2 k i j := fun k i j h1 h2 => h.2.1 k i j (iWc_ok hw h1 h2)
/-- a call that leaves what holds -/
theorem mPost_same {W : zW} {M M' : aM} {g : zG} (h : z_M (zTb, W, []) M g M') (hi : iM M) (hw : (iWm W && (iFr W && !(z_w W 36 6 6))) = true) : mPost (z_b (M.1 36 0 6)) M M' := by
  rw [Bool.and_eq_true, Bool.and_eq_true] at hw
  exact ⟨h.1, iM_fr h.2.1 hw.2.1 hi, m_fr (h_Md h) hw.1, by rw [i_nw h.2.1 hw.2.2]⟩
/-- a call that uses the tape up -/
theorem mPost_zero {W : zW} {M M' : aM} {g : zG} (h : z_M (zTb, W, []) M g M') (hi : iM M) (hw : (iWm W && iFr W) = true) (hg : z_gI zTb g [(589830, (2147483648, 2147483648))] = true) : mPost 2147483648 M M' := by
  rw [Bool.and_eq_true] at hw
  have h9 := z_gI_ok (T := zTb) h.1 h.2.2 hg _ (List.mem_singleton.mpr rfl) 36 0 6 (by decide) (by decide) rfl
  exact ⟨h.1, iM_fr h.2.1 hw.2 hi, m_fr (h_Md h) hw.1, Nat.le_antisymm h9.2 h9.1⟩
theorem cPost_same {W : zW} {M M' : aM} {g : zG} (h : z_M (zTb, W, []) M g M') (hw : (iWc W && !(z_w W 1 1 1)) = true) : cPost (z_b (M.1 1 0 1)) M M' := by
  rw [Bool.and_eq_true] at hw
  exact ⟨h.1, c_fr (h_Md h) hw.1, by rw [i_nw h.2.1 hw.2]⟩
theorem cPost_zero {W : zW} {M M' : aM} {g : zG} (h : z_M (zTb, W, []) M g M') (hw : iWc W = true) (hg : z_gI zTb g [(16385, (2147483648, 2147483648))] = true) : cPost 2147483648 M M' := by
  have h9 := z_gI_ok (T := zTb) h.1 h.2.2 hg _ (List.mem_singleton.mpr rfl) 1 0 1 (by decide) (by decide) rfl
  exact ⟨h.1, c_fr (h_Md h) hw, Nat.le_antisymm h9.2 h9.1⟩
/-- a contract whose outcomes all leave what holds, for a call of the reference; b: the tape is used up -/
def i_oI : List zE → Bool
  | [] => true
  | e :: r => (match e with
    | .inl (o, _) => (match o with
      | some (.inl _) => true
      | _ => false)
    | .inr _ => false) && i_oI r
def i_oZ : List zE → Bool
  | [] => true
  | e :: r => (match e with
    | .inl (_, g) => z_gI zTb g [(589830, (2147483648, 2147483648))]
    | .inr _ => false) && i_oZ r
theorem i_oZ_ok : ∀ {l : List zE}, i_oZ l = true → ∀ v g, Sum.inl (v, g) ∈ l → z_gI zTb g [(589830, (2147483648, 2147483648))] = true
  | [], _, v, g, h => by cases h
  | .inl (v1, g1) :: r, h, v, g, hm => by
    have h : (z_gI zTb g1 [(589830, (2147483648, 2147483648))] && i_oZ r) = true := h
    rw [Bool.and_eq_true] at h
    rcases List.mem_cons.mp hm with e | hm
    · have e1 : g = g1 := congrArg (fun q : zE => match q with
        | .inl (_, g) => g
        | .inr _ => g1) e
      rw [e1]
      exact h.1
    · exact i_oZ_ok h.2 v g hm
  | .inr q :: r, h, v, g, hm => by cases h
/-- the value answered: a whole number, a long, or nothing -/
def i_vk (b : Nat) : Option zV → Bool
  | none => Nat.beq b 0
  | some (.inl _) => Nat.beq b 1
  | some (.inr (.inl _)) => Nat.beq b 2
  | some (.inr (.inr _)) => false
def i_vT (b : Nat) (v : Option aV) : Prop := (b = 0 ∧ v = none) ∨ (b = 1 ∧ ∃ x, v = some (vI x)) ∨ (b = 2 ∧ ∃ x, v = some (vL x))
def i_vs (b : Nat) : List zE → Bool
  | [] => true
  | e :: r => (match e with
    | .inl (o, _) => i_vk b o
    | .inr _ => false) && i_vs b r
theorem i_vk_ok {b : Nat} {o : Option zV} (h : i_vk b o = true) {v : Option aV} (hv : z_ov o v) : i_vT b v := by
  rcases o with _ | (u | (u | u))
  · exact Or.inl ⟨Nat.eq_of_beq_eq_true h, h_ovN hv⟩
  · obtain ⟨x, hx, -⟩ := h_ovI hv
    exact Or.inr (Or.inl ⟨Nat.eq_of_beq_eq_true h, x, hx⟩)
  · exact Or.inr (Or.inr ⟨Nat.eq_of_beq_eq_true h, h_ovJ hv⟩)
  · cases h
theorem i_inl0 {o o1 : Option zV} {g g1 : zG} (e : (Sum.inl (o, g) : zE) = Sum.inl (o1, g1)) : o = o1 ∧ g = g1 := by
  cases e
  exact ⟨rfl, rfl⟩
theorem i_vs_ok {b : Nat} : ∀ {l : List zE}, i_vs b l = true → ∀ o g, Sum.inl (o, g) ∈ l → ∀ v, z_ov o v → i_vT b v
  | [], _, _, _, h, _, _ => by cases h
  | .inl (o1, g1) :: r, h, o, g, hm, v, hv => by
    have h : (i_vk b o1 && i_vs b r) = true := h
    rw [Bool.and_eq_true] at h
    rcases List.mem_cons.mp hm with e | hm
    · rw [(i_inl0 e).1] at hv
      exact i_vk_ok h.1 hv
    · exact i_vs_ok h.2 o g hm v hv
  | .inr q :: r, h, _, _, _, _, _ => by cases h
theorem i_vs_x {b : Nat} : ∀ {l : List zE}, i_vs b l = true → ∀ q, Sum.inr q ∈ l → False
  | [], _, _, h => by cases h
  | .inl a :: r, h, q, hm => by
    obtain ⟨o1, g1⟩ := a
    have h : (i_vk b o1 && i_vs b r) = true := h
    rw [Bool.and_eq_true] at h
    rcases List.mem_cons.mp hm with e | hm
    · cases e
    · exact i_vs_x h.2 q hm
  | .inr a :: r, h, _, _ => by cases h
/-- a contract of the reference, used between calls -/
theorem i_same {c : zCt} (hc : z_ctH zTb c) (b : Nat) (hk : (i_vs b c.2.2.2.2.1 && (iWm c.2.2.2.1 && (iFr c.2.2.2.1 && !(z_w c.2.2.2.1 36 6 6)))) = true) {nS d : Nat} {as : List aV} {M : aM} (hd : c.2.2.2.2.2 ≤ d) (hS : z_S c.2.1 as) (hT : z_MT (zTb, [], []) M) (hG : z_MG c.2.2.1 M) (hi : iM M) : aC nS d c.1 as M (fun v M' => i_vT b v ∧ mPost (z_b (M.1 36 0 6)) M M') (fun _ _ => False) := by
  rw [Bool.and_eq_true] at hk
  refine aC_post (hc nS d as M hd hS hT hG) (fun v M' hv => ?_) (fun x M' hx => ?_)
  · obtain ⟨v', g', h4, h5, h6⟩ := hv
    exact ⟨i_vs_ok hk.1 v' g' h4 v h5, mPost_same h6 hi hk.2⟩
  · obtain ⟨g', h4, h6⟩ := hx
    exact i_vs_x hk.1 _ h4
theorem i_zero {c : zCt} (hc : z_ctH zTb c) (b : Nat) (hk : ((i_vs b c.2.2.2.2.1 && i_oZ c.2.2.2.2.1) && (iWm c.2.2.2.1 && iFr c.2.2.2.1)) = true) {nS d : Nat} {as : List aV} {M : aM} (hd : c.2.2.2.2.2 ≤ d) (hS : z_S c.2.1 as) (hT : z_MT (zTb, [], []) M) (hG : z_MG c.2.2.1 M) (hi : iM M) : aC nS d c.1 as M (fun v M' => i_vT b v ∧ mPost 2147483648 M M') (fun _ _ => False) := by
  rw [Bool.and_eq_true, Bool.and_eq_true] at hk
  refine aC_post (hc nS d as M hd hS hT hG) (fun v M' hv => ?_) (fun x M' hx => ?_)
  · obtain ⟨v', g', h4, h5, h6⟩ := hv
    exact ⟨i_vs_ok hk.1.1 v' g' h4 v h5, mPost_zero h6 hi hk.2 (i_oZ_ok hk.1.2 v' g' h4)⟩
  · obtain ⟨g', h4, h6⟩ := hx
    exact i_vs_x hk.1.1 _ h4
/-- a contract that changes how many changes there are -/
def i_dO (g : zG) : Bool := match z_rn zTb g 606216 with
  | (a, b) => Nat.beq a b && (Nat.ble 2147483648 a && (Nat.ble a 2147483668 && Nat.ble a (z_rn zTb g 606215).1))
theorem i_dO_ok {g : zG} (h : i_dO g = true) {M : aM} (hT : z_MT (zTb, [], []) M) (hG : z_MG g M) : iD M := by
  have h1 := z_rn_ok (n := 606216) (k := 37) (i := 0) (j := 8) hT hG (by decide) (by decide) rfl
  have h2 := z_rn_ok (n := 606215) (k := 37) (i := 0) (j := 7) hT hG (by decide) (by decide) rfl
  unfold i_dO at h
  generalize z_rn zTb g 606216 = q at h1 h
  obtain ⟨a, b⟩ := q
  simp only [Bool.and_eq_true] at h
  have e1 := Nat.eq_of_beq_eq_true h.1
  have e2 := z_ble h.2.1
  have e3 := z_ble h.2.2.1
  have e4 := z_ble h.2.2.2
  have e5 : a ≤ z_b (M.1 37 0 8) := h1.1
  have e6 : z_b (M.1 37 0 8) ≤ b := h1.2
  have e7 := h2.1
  exact ⟨a - 2147483648, by omega, by omega, by omega⟩
def i_oD : List zE → Bool
  | [] => true
  | e :: r => (match e with
    | .inl (_, g) => i_dO g
    | .inr _ => false) && i_oD r
theorem i_oD_ok : ∀ {l : List zE}, i_oD l = true → ∀ o g, Sum.inl (o, g) ∈ l → ∀ M, z_MT (zTb, [], []) M → z_MG g M → iD M
  | [], _, _, _, h => by cases h
  | .inl (o1, g1) :: r, h, o, g, hm => by
    have h : (i_dO g1 && i_oD r) = true := h
    rw [Bool.and_eq_true] at h
    rcases List.mem_cons.mp hm with e | hm
    · obtain ⟨-, e2⟩ := i_inl0 e
      rw [e2]
      exact fun M hT hG => i_dO_ok h.1 hT hG
    · exact i_oD_ok h.2 o g hm
  | .inr q :: r, h, _, _, _ => by cases h
def iFd (W : zW) : Bool := !(z_w W 37 1 1) && (!(z_w W 37 2 2) && (!(z_w W 36 3 3) && (!(z_w W 38 1 1) && (!(z_w W 38 2 2) && (!(z_w W 38 3 3) && !(z_w W 38 4 4))))))
theorem i_chg {c : zCt} (hc : z_ctH zTb c) (b : Nat) (hk : ((i_vs b c.2.2.2.2.1 && i_oD c.2.2.2.2.1) && (iWm c.2.2.2.1 && (iFd c.2.2.2.1 && !(z_w c.2.2.2.1 36 6 6)))) = true) {nS d : Nat} {as : List aV} {M : aM} (hd : c.2.2.2.2.2 ≤ d) (hS : z_S c.2.1 as) (hT : z_MT (zTb, [], []) M) (hG : z_MG c.2.2.1 M) (hi : iM M) : aC nS d c.1 as M (fun v M' => i_vT b v ∧ mPost (z_b (M.1 36 0 6)) M M') (fun _ _ => False) := by
  rw [Bool.and_eq_true, Bool.and_eq_true, Bool.and_eq_true, Bool.and_eq_true] at hk
  obtain ⟨⟨k1, k2⟩, k3, k4, k5⟩ := hk
  refine aC_post (hc nS d as M hd hS hT hG) (fun v M' hv => ?_) (fun x M' hx => ?_)
  · obtain ⟨v', g', h4, h5, h6⟩ := hv
    unfold iFd at k4
    rw [Bool.and_eq_true, Bool.and_eq_true, Bool.and_eq_true, Bool.and_eq_true, Bool.and_eq_true, Bool.and_eq_true] at k4
    obtain ⟨f1, f2, f3, f4, f5, f6, f7⟩ := k4
    have h := h6.2.1
    exact ⟨i_vs_ok k1 v' g' h4 v h5, h6.1, ⟨iP_eq (i_nw h f1) (i_nw h f2) hi.1, i_oD_ok k2 v' g' h4 M' h6.1 h6.2.2, iK_eq (i_nw h f3) (i_nw h f4) (i_nw h f5) (i_nw h f6) (i_nw h f7) hi.2.2⟩, m_fr (h_Md h6) k3, by rw [i_nw h k5]⟩
  · obtain ⟨g', h4, h6⟩ := hx
    exact i_vs_x k1 _ h4
/-- cells told by single numbers -/
theorem h_MG1 {M : aM} {n k j : Nat} {v : zI} {g : zG} (h1 : j < 4096) (h2 : z_ky k 0 j = n) (h : z_i v (M.1 k 0 j)) (hg : z_MG g M) : z_MG ((n, v) :: g) M := by
  refine List.forall_mem_cons.mpr ⟨fun k' i' j' q1 q2 q3 => ?_, hg⟩
  obtain ⟨f1, f2, f3⟩ := z_ky_lt (k' := k) (i' := 0) (j' := j) q1 q2 (by decide) h1 (q3.trans h2.symm)
  subst f1
  subst f2
  subst f3
  exact h
theorem h_eqI {n : Nat} {x : Int32} (h : z_b x = n) : z_i (n, n) x := ⟨Nat.le_of_eq h.symm, Nat.le_of_eq h⟩
def i_pO (g : zG) : Bool := match z_rn zTb g 606209 with
  | (a, b) => (match z_rn zTb g 606210 with
    | (c, d) => Nat.beq a b && (Nat.beq c d && iPairs.any (fun q => Nat.beq q.1 a && Nat.beq q.2 c)))
theorem i_pO_ok {g : zG} (h : i_pO g = true) {M : aM} (hT : z_MT (zTb, [], []) M) (hG : z_MG g M) : iP 37 M := by
  have h1 := z_rn_ok (n := 606209) (k := 37) (i := 0) (j := 1) hT hG (by decide) (by decide) rfl
  have h2 := z_rn_ok (n := 606210) (k := 37) (i := 0) (j := 2) hT hG (by decide) (by decide) rfl
  unfold i_pO at h
  generalize z_rn zTb g 606209 = p at h1 h
  generalize z_rn zTb g 606210 = p2 at h2 h
  obtain ⟨a, b⟩ := p
  obtain ⟨c, d⟩ := p2
  rw [Bool.and_eq_true, Bool.and_eq_true] at h
  obtain ⟨q, hq, hq2⟩ := List.any_eq_true.mp h.2.2
  rw [Bool.and_eq_true] at hq2
  have e1 := Nat.eq_of_beq_eq_true h.1
  have e2 := Nat.eq_of_beq_eq_true h.2.1
  have e3 := Nat.eq_of_beq_eq_true hq2.1
  have e4 := Nat.eq_of_beq_eq_true hq2.2
  have f1 : a ≤ z_b (M.1 37 0 1) := h1.1
  have f2 : z_b (M.1 37 0 1) ≤ b := h1.2
  have f3 : c ≤ z_b (M.1 37 0 2) := h2.1
  have f4 : z_b (M.1 37 0 2) ≤ d := h2.2
  exact ⟨q, hq, by omega, by omega⟩
/-- the outcomes leave a group's kind and order -/
def i_oP : List zE → Bool
  | [] => true
  | e :: r => (match e with
    | .inl (o, g) => i_vk 0 o && i_pO g
    | .inr _ => false) && i_oP r
theorem i_inl {o o1 : Option zV} {g g1 : zG} (e : (Sum.inl (o, g) : zE) = Sum.inl (o1, g1)) : o = o1 ∧ g = g1 := by
  cases e
  exact ⟨rfl, rfl⟩
theorem i_oP_ok : ∀ {l : List zE}, i_oP l = true → ∀ o g, Sum.inl (o, g) ∈ l → i_vk 0 o = true ∧ ∀ M, z_MT (zTb, [], []) M → z_MG g M → iP 37 M
  | [], _, _, _, h => by cases h
  | .inl (o1, g1) :: r, h, o, g, hm => by
    have h : ((i_vk 0 o1 && i_pO g1) && i_oP r) = true := h
    rw [Bool.and_eq_true, Bool.and_eq_true] at h
    rcases List.mem_cons.mp hm with e | hm
    · obtain ⟨e1, e2⟩ := i_inl e
      rw [e1, e2]
      exact ⟨h.1.1, fun M hT hG => i_pO_ok h.1.2 hT hG⟩
    · exact i_oP_ok h.2 o g hm
  | .inr q :: r, h, _, _, _ => by cases h
theorem i_oP_x : ∀ {l : List zE}, i_oP l = true → ∀ q, Sum.inr q ∈ l → False
  | [], _, _, h => by cases h
  | .inl a :: r, h, q, hm => by
    obtain ⟨o1, g1⟩ := a
    have h : (_ && i_oP r) = true := h
    rw [Bool.and_eq_true] at h
    rcases List.mem_cons.mp hm with e | hm
    · cases e
    · exact i_oP_x h.2 q hm
  | .inr a :: r, h, _, _ => by cases h
theorem i_pairs {P : Nat → Nat → Prop} (h1 : P 2147483648 2147483650) (h2 : P 2147483648 2147483651) (h3 : P 2147483648 2147483652) (h4 : P 2147483648 2147483653) (h5 : P 2147483648 2147483654) (h6 : P 2147483648 2147483655) (h7 : P 2147483648 2147483656) (h8 : P 2147483649 2147483652) (h9 : P 2147483649 2147483654) (h10 : P 2147483649 2147483656) (h11 : P 2147483650 2147483656) (h12 : P 2147483651 2147483650) (h13 : P 2147483651 2147483652) (h14 : P 2147483651 2147483656) : ∀ q ∈ iPairs, P q.1 q.2 :=
  List.forall_mem_cons.mpr ⟨h1, List.forall_mem_cons.mpr ⟨h2, List.forall_mem_cons.mpr ⟨h3, List.forall_mem_cons.mpr ⟨h4, List.forall_mem_cons.mpr ⟨h5, List.forall_mem_cons.mpr ⟨h6, List.forall_mem_cons.mpr ⟨h7, List.forall_mem_cons.mpr ⟨h8, List.forall_mem_cons.mpr ⟨h9, List.forall_mem_cons.mpr ⟨h10, List.forall_mem_cons.mpr ⟨h11, List.forall_mem_cons.mpr ⟨h12, List.forall_mem_cons.mpr ⟨h13, List.forall_mem_cons.mpr ⟨h14, fun _ h => absurd h List.not_mem_nil⟩⟩⟩⟩⟩⟩⟩⟩⟩⟩⟩⟩⟩⟩
theorem h_Mps {W : zW} {M0 M : aM} {k i j : Nat} {x : Int32} (h : z_M (zTb, W, []) M0 [] M) (hw : z_w W k j j = true) (hv : ∀ e ∈ zTb, e.1 = k → e.2.1 ≤ j → j ≤ e.2.2.1 → z_i e.2.2.2 x) : z_M (zTb, W, []) M0 [] (a_pI M k i j x) := by
  refine ⟨fun e he i' j' gi g1 g2 => ?_, fun k' i' j' hn => ?_, h_MG0⟩
  · show z_i e.2.2.2 (if e.1 = k ∧ i' = i ∧ j' = j then x else M.1 e.1 i' j')
    by_cases hq : e.1 = k ∧ i' = i ∧ j' = j
    · rw [if_pos hq]
      obtain ⟨q1, q2, q3⟩ := hq
      subst q3
      exact hv e he q1 g1 g2
    · rw [if_neg hq]
      exact h.1 e he i' j' gi g1 g2
  · obtain ⟨r1, r2⟩ := h.2.1 k' i' j' hn
    refine ⟨?_, r2⟩
    show (if k' = k ∧ i' = i ∧ j' = j then x else M.1 k' i' j') = M0.1 k' i' j'
    rw [if_neg, r1]
    intro z
    obtain ⟨q1, q2, q3⟩ := z
    subst q1
    subst q3
    rw [hw] at hn
    cases hn
/-- bounds of one row's places are bounds of another's -/
def i_cpk (k k' : Nat) (ex : List Nat) : Bool := zTb.all (fun e => !(Nat.beq e.1 k') || (ex.any (fun x => Nat.beq e.2.1 x && Nat.beq e.2.2.1 x) || zTb.any (fun f => Nat.beq f.1 k && (Nat.ble f.2.1 e.2.1 && (Nat.ble e.2.2.1 f.2.2.1 && z_iI f.2.2.2 e.2.2.2)))))
theorem i_cp {k k' : Nat} {ex : List Nat} (hc : i_cpk k k' ex = true) {M : aM} (hT : z_MT (zTb, [], []) M) {i j : Nat} (hi : i < z_ni k) (hx : ∀ e ∈ zTb, e.1 = k' → e.2.1 = j → e.2.2.1 = j → j ∈ ex → z_i e.2.2.2 (M.1 k i j)) : ∀ e ∈ zTb, e.1 = k' → e.2.1 ≤ j → j ≤ e.2.2.1 → z_i e.2.2.2 (M.1 k i j) := by
  intro e he h1 h2 h3
  have h4 := List.all_eq_true.mp hc e he
  rw [Bool.or_eq_true, Bool.or_eq_true] at h4
  rcases h4 with h4 | h4 | h4
  · rw [h1, Nat.beq_refl] at h4
    cases h4
  · obtain ⟨x, hm, hq⟩ := List.any_eq_true.mp h4
    rw [Bool.and_eq_true] at hq
    have e1 := Nat.eq_of_beq_eq_true hq.1
    have e2 := Nat.eq_of_beq_eq_true hq.2
    have e3 : j = x := by omega
    subst e3
    exact hx e he h1 e1 e2 hm
  · obtain ⟨f, hf, hq⟩ := List.any_eq_true.mp h4
    simp only [Bool.and_eq_true] at hq
    have e1 := Nat.eq_of_beq_eq_true hq.1
    have := hT f hf i j (by rw [e1]; exact hi) (Nat.le_trans (z_ble hq.2.1) h2) (Nat.le_trans h3 (z_ble hq.2.2.1))
    rw [e1] at this
    exact z_iI_ok hq.2.2.2 this
theorem i_cp0 {k k' : Nat} (hc : i_cpk k k' [] = true) {M : aM} (hT : z_MT (zTb, [], []) M) {i j : Nat} (hi : i < z_ni k) : ∀ e ∈ zTb, e.1 = k' → e.2.1 ≤ j → j ≤ e.2.2.1 → z_i e.2.2.2 (M.1 k i j) := i_cp hc hT hi (fun _ _ _ _ _ h => by cases h)
theorem i_c3738 : i_cpk 37 38 [] = true := by decide +kernel
theorem i_c3737 : i_cpk 37 37 [] = true := by decide +kernel
theorem i_c3739 : i_cpk 37 39 [] = true := by decide +kernel
theorem i_c3837 : i_cpk 38 37 [2, 3, 4] = true := by decide +kernel
theorem i_lt {j n : Nat} (hj : j < 2147483648) (hn : n < 2147483648) (h : ¬ Int32.ofNat n ≤ Int32.ofNat j) : j < n := by
  have h1 : ¬ z_b (Int32.ofNat n) ≤ z_b (Int32.ofNat j) := fun z => h (z_b_le.mpr z)
  rw [z_b_ofNat hn, z_b_ofNat hj] at h1
  omega
theorem i_ge {j n : Nat} (hj : j < 2147483648) (hn : n < 2147483648) (h : Int32.ofNat n ≤ Int32.ofNat j) : n ≤ j := by
  have h1 := z_b_le.mp h
  rw [z_b_ofNat hn, z_b_ofNat hj] at h1
  omega
theorem i_vp {j n : Nat} (hn : n < 2147483648) (h : j < n) : vp_in (Int32.ofNat j) n := z_vp.mpr (by rw [z_b_ofNat (by omega)]; omega)
theorem e_image {nS : Nat} {M : aM} (hT : z_MT (zTb, [], []) M) (hi : iM M) : aC nS 60 255 [vR 36 0] M (fun v M' => v = none ∧ mPost (z_b (M.1 36 0 6)) M M' ∧ M'.1 36 0 3 = 1 ∧ z_M (zTb, [(36, 0, 0), (36, 3, 3), (38, 0, 1009)], []) M [] M' ∧ ∀ u, u < 1010 → M'.1 38 0 u = M.1 37 0 u) (fun _ _ => False) := by
  refine aC_mk rfl rfl ?_
  intro K hK hF
  have lp : ∀ (m j : Nat) (M1 : aM), j + m = 1010 → z_M (zTb, [(36, 0, 0), (36, 3, 3), (38, 0, 1009)], []) M [] M1 → (∀ u, u < j → M1.1 38 0 u = M.1 37 0 u) → K 7 [some (vR 36 0), some (vI (Int32.ofNat j))] [] M1 := by
    intro m
    induction m with
    | zero =>
      intro j M1 hj hM hu
      refine hK _ _ _ _ (hK _ _ _ _ (?_))
      refine hK _ _ _ _ ⟨fun h => ?_, fun h => ?_⟩
      · have hM2 : z_M (zTb, [(36, 0, 0), (36, 3, 3), (38, 0, 1009)], []) M [] (a_pI M1 36 0 3 1) := h_Mp hM (v := (2147483648, 2147483649)) (by decide) (h_bo (Or.inr rfl))
        have eq : ∀ u, u < 1010 → (a_pI M1 36 0 3 1).1 38 0 u = M.1 37 0 u := fun u h => by rw [i_pI (fun z => absurd z.1 (by decide))]; exact hu u (by omega)
        have un : ∀ k i u, z_w [(36, 0, 0), (36, 3, 3), (38, 0, 1009)] k u u = false → (a_pI M1 36 0 3 1).1 k i u = M.1 k i u := fun k i u h => (hM2.2.1 k i u h).1
        refine hK _ _ _ _ (hK _ _ _ _ (hK _ _ _ _ ⟨Or.inr rfl, hK _ _ _ _ ⟨rfl, ⟨hM2.1, ⟨iP_eq (un 37 0 1 rfl) (un 37 0 2 rfl) hi.1, ?_, Or.inr ⟨?_, ?_, ?_⟩⟩, m_fr hM2 rfl, by rw [un 36 0 6 rfl]⟩, h_pIs, hM2, eq⟩⟩))
        · obtain ⟨d, d1, d2, d3⟩ := hi.2.1
          exact ⟨d, d1, by rw [un 37 0 8 rfl]; exact d2, by rw [un 37 0 7 rfl]; exact d3⟩
        · obtain ⟨q, hq, q1, q2⟩ := hi.1
          exact ⟨q, hq, by rw [eq 1 (by decide)]; exact q1, by rw [eq 2 (by decide)]; exact q2⟩
        · rw [eq 3 (by decide)]
          exact (h_TR (T := zTb) (k := 37) (i := 0) (j := 3) hT).1
        · rw [eq 4 (by decide)]
          exact (h_TR (T := zTb) (k := 37) (i := 0) (j := 4) hT).1
      · have := i_lt (n := 1010) (by omega) (by decide) h
        omega
    | succ m ih =>
      intro j M1 hj hM hu
      refine hK _ _ _ _ (hK _ _ _ _ (?_))
      refine hK _ _ _ _ ⟨fun h => ?_, fun h => ?_⟩
      · have := i_ge (n := 1010) (by omega) (by decide) h
        omega
      refine hK _ _ _ _ (hK _ _ _ _ (hK _ _ _ _ (hK _ _ _ _ (hK _ _ _ _ (hK _ _ _ _ (?_))))))
      refine hK _ _ _ _ ⟨i_vp (by decide) (by omega), ?_⟩
      refine hK _ _ _ _ ⟨i_vp (by decide) (by omega), ?_⟩
      rw [hI_cl (by omega)]
      refine hK _ _ _ _ (hK _ _ _ _ ?_)
      have e1 : M1.1 37 0 j = M.1 37 0 j := (hM.2.1 37 0 j rfl).1
      rw [e1]
      have hM2 : z_M (zTb, [(36, 0, 0), (36, 3, 3), (38, 0, 1009)], []) M [] (a_pI M1 38 0 j (M.1 37 0 j)) := h_Mps hM (z_w_sub (W := [(36, 0, 0), (36, 3, 3), (38, 0, 1009)]) (k := 38) (a := 0) (b := 1009) rfl (Nat.zero_le _) (by omega)) (i_cp0 i_c3738 hT (by decide))
      rw [show Int32.ofNat j + 1 = Int32.ofNat (j + 1) from hI_s]
      refine ih (j + 1) _ (by omega) hM2 (fun u h => ?_)
      by_cases he : u = j
      · subst he
        exact h_pIs
      · rw [i_pI (fun z => he z.2.2)]
        exact hu u (by omega)
  have hM0 : z_M (zTb, [(36, 0, 0), (36, 3, 3), (38, 0, 1009)], []) M [] (a_pI M 36 0 0 0) := h_Mp (h_M0 hT) (by decide) (z_i_top _)
  refine hK _ _ _ _ (hK _ _ _ _ (hK _ _ _ _ (hK _ _ _ _ (hK _ _ _ _ (?_)))))
  exact lp 1010 0 _ rfl hM0 (fun u h => by omega)
theorem e_back {nS : Nat} {M : aM} (hT : z_MT (zTb, [], []) M) (hi : iM M) : aC nS 60 256 [vR 36 0] M (fun v M' => (M.1 36 0 3 = 0 ∧ v = some (vI 0) ∨ ¬ M.1 36 0 3 = 0 ∧ v = some (vI 1)) ∧ mPost (z_b (M.1 36 0 6)) M M' ∧ M'.1 36 0 3 = M.1 36 0 3 ∧ ((M.1 36 0 3 = 0 ∧ z_M (zTb, [(36, 0, 0)], []) M [] M') ∨ (¬ M.1 36 0 3 = 0 ∧ z_M (zTb, [(36, 0, 0), (37, 0, 1009)], []) M [] M' ∧ (∀ u, u < 1010 → u ≠ 7 → u ≠ 8 → M'.1 37 0 u = M.1 38 0 u) ∧ M'.1 37 0 7 = 0 ∧ M'.1 37 0 8 = 0))) (fun _ _ => False) := by
  have hM0 : z_M (zTb, [(36, 0, 0), (37, 0, 1009)], []) M [] (a_pI M 36 0 0 0) := h_Mp (h_M0 hT) (by decide) (z_i_top _)
  have e0 : (a_pI M 36 0 0 0).1 36 0 3 = M.1 36 0 3 := i_pI (fun z => absurd z.2.2 (by decide))
  refine aC_mk rfl rfl ?_
  intro K hK hF
  refine hK _ _ _ _ (hK _ _ _ _ (hK _ _ _ _ (hK _ _ _ _ (hK _ _ _ _ (?_)))))
  refine hK _ _ _ _ ⟨fun hz => ?_, fun hz => ?_⟩
  case refine_2 =>
    rw [e0] at hz
    have hM1 : z_M (zTb, [(36, 0, 0)], []) M [] (a_pI M 36 0 0 0) := h_Mp (h_M0 hT) (by decide) (z_i_top _)
    exact hK _ _ _ _ (hK _ _ _ _ ⟨Or.inl rfl, Or.inl ⟨hz, rfl⟩, mPost_same hM1 hi rfl, e0, Or.inl ⟨hz, hM1⟩⟩)
  rw [e0] at hz
  obtain ⟨kp, kw, kh⟩ := hi.2.2.resolve_left hz
  have ex : ∀ {j : Nat} (e : Nat × Nat × Nat × zI), e ∈ zTb → e.1 = 37 → e.2.1 = j → e.2.2.1 = j → j ∈ [2, 3, 4] → z_i e.2.2.2 (M.1 38 0 j) := by
    intro j e he h1 h2 h3 h4
    have key : ∀ (j : Nat) (v : zI), (zTb.all (fun e => !(Nat.beq e.1 37 && (Nat.beq e.2.1 j && Nat.beq e.2.2.1 j)) || z_iI v e.2.2.2)) = true → e.2.1 = j → e.2.2.1 = j → z_i v (M.1 38 0 j) → z_i e.2.2.2 (M.1 38 0 j) := by
      intro j v hc h2 h3 hv
      have h5 := List.all_eq_true.mp hc e he
      rw [Bool.or_eq_true] at h5
      rcases h5 with h5 | h5
      · rw [h1, h2, h3, Nat.beq_refl, Nat.beq_refl] at h5
        cases h5
      · exact z_iI_ok h5 hv
    rcases List.mem_cons.mp h4 with rfl | h4
    · refine key 2 (2147483650, 2147483656) (by decide +kernel) h2 h3 ?_
      obtain ⟨q, hq, -, q2⟩ := kp
      have h6 : iPairs.all (fun q => Nat.ble 2147483650 q.2 && Nat.ble q.2 2147483656) = true := by decide +kernel
      have h7 := List.all_eq_true.mp h6 q hq
      rw [Bool.and_eq_true] at h7
      exact ⟨by rw [q2]; exact z_ble h7.1, by rw [q2]; exact z_ble h7.2⟩
    · rcases List.mem_cons.mp h4 with rfl | h4
      · exact key 3 (2147483649, 2147483651) (by decide +kernel) h2 h3 ⟨kw, (h_TR (T := zTb) (k := 38) (i := 0) (j := 3) hT).2⟩
      · have h4 := List.mem_singleton.mp h4
        subst h4
        exact key 4 (2147483649, 2147483651) (by decide +kernel) h2 h3 ⟨kh, (h_TR (T := zTb) (k := 38) (i := 0) (j := 4) hT).2⟩
  have lp : ∀ (m j : Nat) (M1 : aM), j + m = 1010 → z_M (zTb, [(36, 0, 0), (37, 0, 1009)], []) M [] M1 → (∀ u, u < j → M1.1 37 0 u = M.1 38 0 u) → K 16 [some (vR 36 0), some (vI (Int32.ofNat j))] [] M1 := by
    intro m
    induction m with
    | zero =>
      intro j M1 hj hM hu
      refine hK _ _ _ _ (hK _ _ _ _ (?_))
      refine hK _ _ _ _ ⟨fun h => ?_, fun h => ?_⟩
      · have hM2 : z_M (zTb, [(36, 0, 0), (37, 0, 1009)], []) M [] (a_pI M1 37 0 7 0) := h_Mp hM (v := (2147483648, 2147483648)) (by decide) z_i0
        have hM3 : z_M (zTb, [(36, 0, 0), (37, 0, 1009)], []) M [] (a_pI (a_pI M1 37 0 7 0) 37 0 8 0) := h_Mp hM2 (v := (2147483648, 2147483648)) (by decide) z_i0
        have un : ∀ k i u, z_w [(36, 0, 0), (37, 0, 1009)] k u u = false → (a_pI (a_pI M1 37 0 7 0) 37 0 8 0).1 k i u = M.1 k i u := fun k i u h => (hM3.2.1 k i u h).1
        have eq2 : ∀ u, u < 1010 → u ≠ 7 → u ≠ 8 → (a_pI (a_pI M1 37 0 7 0) 37 0 8 0).1 37 0 u = M.1 38 0 u := fun u h h7 h8 => by
          rw [i_pI (fun z => h8 z.2.2), i_pI (fun z => h7 z.2.2)]
          exact hu u (by omega)
        have eq : ∀ u, u < 7 → (a_pI (a_pI M1 37 0 7 0) 37 0 8 0).1 37 0 u = M.1 38 0 u := fun u h => by
          rw [i_pI (fun z => by omega), i_pI (fun z => by omega)]
          exact hu u (by omega)
        refine hK _ _ _ _ (hK _ _ _ _ (hK _ _ _ _ (hK _ _ _ _ (?_))))
        refine hK _ _ _ _ ⟨i_vp (j := 7) (by decide) (by decide), ?_⟩
        refine hK _ _ _ _ (hK _ _ _ _ (hK _ _ _ _ (hK _ _ _ _ (?_))))
        refine hK _ _ _ _ ⟨i_vp (j := 8) (by decide) (by decide), ?_⟩
        refine hK _ _ _ _ (hK _ _ _ _ ⟨Or.inr rfl, Or.inr ⟨hz, rfl⟩, ⟨hM3.1, ⟨?_, ?_, iK_eq (un 36 0 3 rfl) (un 38 0 1 rfl) (un 38 0 2 rfl) (un 38 0 3 rfl) (un 38 0 4 rfl) hi.2.2⟩, m_fr hM3 rfl, congrArg z_b (un 36 0 6 rfl)⟩, un 36 0 3 rfl, Or.inr ⟨hz, hM3, eq2, (i_pI (fun z => absurd z.2.2 (by decide))).trans h_pIs, h_pIs⟩⟩)
        · obtain ⟨q, hq, q1, q2⟩ := kp
          exact ⟨q, hq, (congrArg z_b (eq 1 (by decide))).trans q1, (congrArg z_b (eq 2 (by decide))).trans q2⟩
        · have r8 : (a_pI (a_pI M1 37 0 7 0) 37 0 8 0).1 37 0 8 = 0 := h_pIs
          have r7 : (a_pI (a_pI M1 37 0 7 0) 37 0 8 0).1 37 0 7 = 0 := (i_pI (fun z => by omega)).trans h_pIs
          exact ⟨0, by decide, (congrArg z_b r8).trans z_b0, Nat.le_of_eq ((congrArg z_b r7).trans z_b0).symm⟩
      · have := i_lt (n := 1010) (by omega) (by decide) h
        omega
    | succ m ih =>
      intro j M1 hj hM hu
      refine hK _ _ _ _ (hK _ _ _ _ (?_))
      refine hK _ _ _ _ ⟨fun h => ?_, fun h => ?_⟩
      · have := i_ge (n := 1010) (by omega) (by decide) h
        omega
      refine hK _ _ _ _ (hK _ _ _ _ (hK _ _ _ _ (hK _ _ _ _ (hK _ _ _ _ (hK _ _ _ _ (?_))))))
      refine hK _ _ _ _ ⟨i_vp (by decide) (by omega), ?_⟩
      refine hK _ _ _ _ ⟨i_vp (by decide) (by omega), ?_⟩
      rw [hI_cl (by omega)]
      refine hK _ _ _ _ (hK _ _ _ _ ?_)
      have e1 : M1.1 38 0 j = M.1 38 0 j := (hM.2.1 38 0 j rfl).1
      rw [e1]
      have hM2 : z_M (zTb, [(36, 0, 0), (37, 0, 1009)], []) M [] (a_pI M1 37 0 j (M.1 38 0 j)) := h_Mps hM (z_w_sub (W := [(36, 0, 0), (37, 0, 1009)]) (k := 37) (a := 0) (b := 1009) rfl (Nat.zero_le _) (by omega)) (i_cp i_c3837 hT (by decide) ex)
      rw [show Int32.ofNat j + 1 = Int32.ofNat (j + 1) from hI_s]
      refine ih (j + 1) _ (by omega) hM2 (fun u h => ?_)
      by_cases he : u = j
      · subst he
        exact h_pIs
      · rw [i_pI (fun z => he z.2.2)]
        exact hu u (by omega)
  refine hK _ _ _ _ (hK _ _ _ _ ?_)
  exact lp 1010 0 _ rfl hM0 (fun u h => by omega)
