/-- one value put -/
def updn (A : Nat → Nat) (l v : Nat) : Nat → Nat := fun j => if j = l then v else A j
theorem updn_c {A : Nat → Nat} {l m a b : Nat} (h : ¬ l = m) : updn (updn A l a) m b = updn (updn A m b) l a := by
  funext j
  show (if j = m then b else if j = l then a else A j) = if j = l then a else if j = m then b else A j
  by_cases h1 : j = m
  · rw [if_pos h1, if_neg (fun z => h (z.symm.trans h1)), if_pos h1]
  · rw [if_neg h1, if_neg h1]
theorem updn_lt {A : Nat → Nat} {l v o : Nat} (hA : ∀ j, A j < o) (hv : v < o) (j : Nat) : updn A l v j < o := by
  show (if j = l then v else A j) < o
  by_cases h : j = l
  · rw [if_pos h]
    exact hv
  · rw [if_neg h]
    exact hA j
/-- numbers together -/
def sln (g : Nat → Nat) : Nat → Nat
  | 0 => 0
  | t + 1 => sln g t + g t
theorem sln_e {f g : Nat → Nat} : ∀ n, (∀ t, t < n → f t = g t) → sln f n = sln g n
  | 0, _ => rfl
  | n + 1, h => by
    show sln f n + f n = sln g n + g n
    rw [sln_e n (fun t ht => h t (by omega)), h n (by omega)]
theorem sln_z : ∀ n, sln (fun _ => 0) n = 0
  | 0 => rfl
  | n + 1 => sln_z n
theorem sln_k {c : Nat} : ∀ n, sln (fun _ => c) n = n * c
  | 0 => (Nat.zero_mul c).symm
  | n + 1 => by
    show sln (fun _ => c) n + c = (n + 1) * c
    rw [sln_k n, Nat.succ_mul]
theorem sln_a {f g : Nat → Nat} : ∀ n, sln (fun t => f t + g t) n = sln f n + sln g n
  | 0 => rfl
  | n + 1 => by
    show sln (fun t => f t + g t) n + (f n + g n) = sln f n + f n + (sln g n + g n)
    rw [sln_a n]
    omega
theorem sln_s {F : Nat → Nat → Nat} {m : Nat} : ∀ n, sln (fun a => sln (fun b => F a b) m) n = sln (fun b => sln (fun a => F a b) n) m
  | 0 => (sln_z m).symm
  | n + 1 => by
    show sln (fun a => sln (fun b => F a b) m) n + sln (fun b => F n b) m = sln (fun b => sln (fun a => F a b) n + F n b) m
    rw [sln_s n, sln_a]
theorem sln_p {g : Nat → Nat} {x : Nat} : ∀ n, sln (fun c => if c = x then g c else 0) n = if x < n then g x else 0
  | 0 => by rw [if_neg (Nat.not_lt_zero x)]; rfl
  | n + 1 => by
    show sln (fun c => if c = x then g c else 0) n + (if n = x then g n else 0) = _
    rw [sln_p n]
    by_cases h : n = x
    · rw [if_pos h, if_neg (show ¬ x < n by omega), if_pos (show x < n + 1 by omega), h, Nat.zero_add]
    · rw [if_neg h, Nat.add_zero]
      by_cases h2 : x < n
      · rw [if_pos h2, if_pos (show x < n + 1 by omega)]
      · rw [if_neg h2, if_neg (show ¬ x < n + 1 by omega)]
theorem sln_b {h : Nat → Nat} {o : Nat} {p s : Nat → Nat} (hs : ∀ x, x < o → s x < o) (hps : ∀ a x, a < o → x < o → (x = p a ↔ a = s x)) (hp : ∀ a, a < o → p a < o) : sln (fun a => h (p a)) o = sln h o := by
  have e1 : sln (fun a => h (p a)) o = sln (fun a => sln (fun x => if x = p a then h x else 0) o) o := sln_e o (fun a ha => by rw [sln_p, if_pos (hp a ha)])
  rw [e1, sln_s]
  refine sln_e o (fun x hx => ?_)
  have e2 : sln (fun a => if x = p a then h x else 0) o = sln (fun a => if a = s x then h x else 0) o := sln_e o (fun a ha => by
    by_cases hq : x = p a
    · rw [if_pos hq, if_pos ((hps a x ha hx).mp hq)]
    · rw [if_neg hq, if_neg (fun z => hq ((hps a x ha hx).mpr z))])
  rw [e2, sln_p (g := fun _ => h x), if_pos (hs x hx)]
theorem grz_l {k o a b c : Nat} (hq : (k, o) ∈ gP) (ha : a < o) (hb : b < o) (hc : c < o) : c = rt k o a b ↔ b = rt k o (ag k o a) c := by
  have h := l3_all (P := fun k o a b c => Nat.beq c (rt k o a b) == Nat.beq b (rt k o (ag k o a) c)) (by decide +kernel) hq ha hb hc
  have h := eq_of_beq h
  exact ⟨fun z => Nat.eq_of_beq_eq_true (h.symm.trans (x_beq z)), fun z => Nat.eq_of_beq_eq_true (h.trans (x_beq z))⟩
theorem grz_r {k o a b c : Nat} (hq : (k, o) ∈ gP) (ha : a < o) (hb : b < o) (hc : c < o) : c = rt k o b a ↔ b = rt k o c (ag k o a) := by
  have h := l3_all (P := fun k o a b c => Nat.beq c (rt k o b a) == Nat.beq b (rt k o c (ag k o a))) (by decide +kernel) hq ha hb hc
  have h := eq_of_beq h
  exact ⟨fun z => Nat.eq_of_beq_eq_true (h.symm.trans (x_beq z)), fun z => Nat.eq_of_beq_eq_true (h.trans (x_beq z))⟩
theorem grz_0 {k o a : Nat} (hq : (k, o) ∈ gP) (ha : a < o) : (rt k o (rt k o a 0) (ag k o a) = 0 ∧ rt k o (rt k o (ag k o a) a) (ag k o 0) = 0) ∧ rt k o (rt k o 0 a) (ag k o a) = 0 := by
  have h := gA_all (P := fun k o a => (Nat.beq (rt k o (rt k o a 0) (ag k o a)) 0 && Nat.beq (rt k o (rt k o (ag k o a) a) (ag k o 0)) 0) && Nat.beq (rt k o (rt k o 0 a) (ag k o a)) 0) (by decide +kernel) hq ha
  rw [Bool.and_eq_true, Bool.and_eq_true] at h
  exact ⟨⟨Nat.eq_of_beq_eq_true h.1.1, Nat.eq_of_beq_eq_true h.1.2⟩, Nat.eq_of_beq_eq_true h.2⟩
theorem sln_g {k o a b : Nat} {h : Nat → Nat} (hq : (k, o) ∈ gP) (ha : a < o) (hb : b < o) : sln (fun v => h (rt k o (rt k o a v) b)) o = sln h o := by
  rw [sln_b (h := fun v => h (rt k o v b)) (p := rt k o a) (s := rt k o (ag k o a)) (fun x hx => rt_lt hq (ag_lt hq ha) hx) (fun v x hv hx => grz_l hq ha hv hx) (fun v hv => rt_lt hq ha hv)]
  exact sln_b (h := h) (p := fun v => rt k o v b) (s := fun x => rt k o x (ag k o b)) (fun x hx => rt_lt hq hx (ag_lt hq hb)) (fun v x hv hx => grz_r hq hb hv hx) (fun v hv => rt_lt hq hv hb)
/-- all turns on lines of a row, together -/
def sov (o : Nat) (Φ : (Nat → Nat) → Nat) : List Nat → (Nat → Nat) → Nat
  | [], A => Φ A
  | l :: r, A => sln (fun t => sov o Φ r (updn A l t)) o
theorem sov_e {o : Nat} {Φ Ψ : (Nat → Nat) → Nat} (h : ∀ A, (∀ j, A j < o) → Φ A = Ψ A) : ∀ (r : List Nat) (A : Nat → Nat), (∀ j, A j < o) → sov o Φ r A = sov o Ψ r A
  | [], A, hA => h A hA
  | _ :: r, _, hA => sln_e o (fun _ ht => sov_e h r _ (updn_lt hA ht))
theorem sov_p {o : Nat} {Φ : (Nat → Nat) → Nat} {r s : List Nat} (h : r.Perm s) : r.Nodup → ∀ A, sov o Φ r A = sov o Φ s A := by
  induction h with
  | nil => exact fun _ _ => rfl
  | cons x _ ih => exact fun hn A => sln_e o (fun t _ => ih (List.nodup_cons.mp hn).2 _)
  | swap x y l =>
    intro hn A
    have hne : ¬ y = x := fun z => (List.nodup_cons.mp hn).1 (by rw [z]; exact List.mem_cons_self)
    show sln (fun t => sln (fun u => sov o Φ l (updn (updn A y t) x u)) o) o = sln (fun u => sln (fun t => sov o Φ l (updn (updn A x u) y t)) o) o
    rw [sln_s]
    exact sln_e o (fun u _ => sln_e o (fun t _ => by rw [updn_c hne]))
  | trans h1 _ ih1 ih2 => exact fun hn A => (ih1 hn A).trans (ih2 (h1.nodup_iff.mp hn) A)
/-- a change of frames, of one line's turn -/
def tau (k o w h s : Nat) (g : Nat → Nat) (l v : Nat) : Nat := if l < 32 ∧ hl w h s l = true then rt k o (rt k o (g (l / 2)) v) (ag k o (g (len w h s l))) else v
theorem tau_y {k o w h s l v : Nat} {g : Nat → Nat} (l32 : l < 32) (hv : hl w h s l = true) : tau k o w h s g l v = rt k o (rt k o (g (l / 2)) v) (ag k o (g (len w h s l))) := if_pos ⟨l32, hv⟩
theorem sov_t {k o w h s : Nat} {Φ : (Nat → Nat) → Nat} {g : Nat → Nat} (hq : (k, o) ∈ gP) (hg : ∀ c, g c < o) : ∀ (r : List Nat) (A : Nat → Nat), r.Nodup → sov o (fun A => Φ (fun l => tau k o w h s g l (A l))) r A = sov o Φ r (fun l => if l ∈ r then A l else tau k o w h s g l (A l))
  | [], A, _ => by
    show Φ (fun l => tau k o w h s g l (A l)) = Φ (fun l => if l ∈ ([] : List Nat) then A l else tau k o w h s g l (A l))
    exact congrArg Φ (funext (fun l => (if_neg List.not_mem_nil).symm))
  | l :: r, A, hn => by
    obtain ⟨n1, n2⟩ := List.nodup_cons.mp hn
    have key : ∀ t, sov o (fun A => Φ (fun l => tau k o w h s g l (A l))) r (updn A l t) = sov o Φ r (updn (fun j => if j ∈ l :: r then A j else tau k o w h s g j (A j)) l (tau k o w h s g l t)) := by
      intro t
      rw [sov_t hq hg r (updn A l t) n2]
      congr 1
      funext j
      show (if j ∈ r then (if j = l then t else A j) else tau k o w h s g j (if j = l then t else A j)) = if j = l then tau k o w h s g l t else if j ∈ l :: r then A j else tau k o w h s g j (A j)
      by_cases hj : j = l
      · rw [if_pos hj, if_pos hj, hj, if_neg n1]
      · rw [if_neg hj, if_neg hj]
        by_cases hr : j ∈ r
        · rw [if_pos hr, if_pos (List.mem_cons_of_mem l hr)]
        · rw [if_neg hr, if_neg (fun z => by
            rcases List.mem_cons.mp z with z | z
            · exact hj z
            · exact hr z)]
    show sln (fun t => sov o (fun A => Φ (fun l => tau k o w h s g l (A l))) r (updn A l t)) o = sln (fun t => sov o Φ r (updn (fun j => if j ∈ l :: r then A j else tau k o w h s g j (A j)) l t)) o
    rw [sln_e o (fun t _ => key t)]
    by_cases hv : l < 32 ∧ hl w h s l = true
    · have e9 : ∀ t, tau k o w h s g l t = rt k o (rt k o (g (l / 2)) t) (ag k o (g (len w h s l))) := fun t => if_pos hv
      have e8 : (fun t => sov o Φ r (updn (fun j => if j ∈ l :: r then A j else tau k o w h s g j (A j)) l (tau k o w h s g l t))) = fun t => sov o Φ r (updn (fun j => if j ∈ l :: r then A j else tau k o w h s g j (A j)) l (rt k o (rt k o (g (l / 2)) t) (ag k o (g (len w h s l))))) := funext (fun t => by rw [e9 t])
      rw [e8]
      exact sln_g (h := fun t => sov o Φ r (updn (fun j => if j ∈ l :: r then A j else tau k o w h s g j (A j)) l t)) hq (hg _) (ag_lt hq (hg _))
    · have e9 : ∀ t, tau k o w h s g l t = t := fun t => if_neg hv
      exact sln_e o (fun t _ => by rw [e9 t])
/-- what frames leave -/
def inv (k o w h s : Nat) (Φ : (Nat → Nat) → Nat) : Prop := ∀ (g A : Nat → Nat), (∀ c, g c < o) → (∀ l, A l < o) → Φ (fun l => tau k o w h s g l (A l)) = Φ A
/-- a line of a tree goes -/
theorem sov_x {k o w h s e : Nat} {Φ : (Nat → Nat) → Nat} {C : Nat → Bool} {r : List Nat} (hq : (k, o) ∈ gP) (hΦ : inv k o w h s Φ) (hn : (e :: r).Nodup) (e32 : e < 32) (hv : hl w h s e = true) (hC : ∀ l, l < 32 → hl w h s l = true → ¬ l ∈ e :: r → C (l / 2) = C (len w h s l)) (he : ¬ C (e / 2) = C (len w h s e)) : sov o Φ (e :: r) (fun _ => 0) = o * sov o Φ r (fun _ => 0) := by
  obtain ⟨o2, o8, k3⟩ := gP_o hq
  obtain ⟨n1, n2⟩ := List.nodup_cons.mp hn
  have hA : ∀ t, t < o → ∀ j, updn (fun _ => 0) e t j < o := fun t ht => updn_lt (fun _ => by omega) ht
  have key : ∀ t, t < o → sov o Φ r (updn (fun _ => 0) e t) = sov o Φ r (fun _ => 0) := by
    intro t ht
    have main : ∀ u, u < o → tau k o w h s (fun c => bif C c then u else 0) e t = 0 → sov o Φ r (updn (fun _ => 0) e t) = sov o Φ r (fun _ => 0) := by
      intro u hu hz
      have hg : ∀ c, (fun c => bif C c then u else 0) c < o := fun c => by
        show (bif C c then u else 0) < o
        cases C c with
        | true => exact hu
        | false => exact (show 0 < o by omega)
      rw [← sov_e (fun A hA2 => hΦ (fun c => bif C c then u else 0) A hg hA2) r _ (hA t ht), sov_t hq hg r _ n2]
      congr 1
      funext l
      show (if l ∈ r then updn (fun _ => 0) e t l else tau k o w h s (fun c => bif C c then u else 0) l (updn (fun _ => 0) e t l)) = 0
      by_cases hl2 : l ∈ r
      · rw [if_pos hl2]
        exact if_neg (fun z => n1 (by rw [← z]; exact hl2))
      · rw [if_neg hl2]
        by_cases hl3 : l = e
        · rw [hl3, show updn (fun _ => 0) e t e = t from if_pos rfl]
          exact hz
        · rw [show updn (fun _ => 0) e t l = 0 from if_neg hl3]
          unfold tau
          by_cases hp : l < 32 ∧ hl w h s l = true
          · rw [if_pos hp]
            show rt k o (rt k o (bif C (l / 2) then u else 0) 0) (ag k o (bif C (len w h s l) then u else 0)) = 0
            rw [← hC l hp.1 hp.2 (fun z => by
              rcases List.mem_cons.mp z with z | z
              · exact hl3 z
              · exact hl2 z)]
            cases C (l / 2) with
            | true => exact (grz_0 hq hu).1.1
            | false => exact (grz_0 (a := 0) hq (by omega)).1.1
          · rw [if_neg hp]
    cases ha : C (e / 2) with
    | true =>
      have hb : C (len w h s e) = false := by
        cases hb : C (len w h s e) with
        | true => exact absurd (ha.trans hb.symm) he
        | false => rfl
      refine main (ag k o t) (ag_lt hq ht) ?_
      rw [tau_y e32 hv, ha, hb]
      exact (grz_0 hq ht).1.2
    | false =>
      have hb : C (len w h s e) = true := by
        cases hb : C (len w h s e) with
        | true => rfl
        | false => exact absurd (ha.trans hb.symm) he
      refine main t ht ?_
      rw [tau_y e32 hv, ha, hb]
      exact (grz_0 hq ht).2
  show sln (fun t => sov o Φ r (updn (fun _ => 0) e t)) o = o * sov o Φ r (fun _ => 0)
  rw [sln_e o key, sln_k]
/-- whether lines are a tree's with their cuts, and the others -/
def oin (l : Nat) (r : List Nat) : Bool := r.any (fun x => Nat.beq x l)
theorem oin_i {l : Nat} {r : List Nat} : oin l r = true ↔ l ∈ r := by
  constructor
  · intro hz
    obtain ⟨x, hx, e⟩ := List.any_eq_true.mp hz
    rw [← Nat.eq_of_beq_eq_true e]
    exact hx
  · exact fun hz => List.any_eq_true.mpr ⟨l, hz, Nat.beq_refl l⟩
def ond : List Nat → Bool
  | [] => true
  | l :: r => !(oin l r) && ond r
theorem ond_i : ∀ {r : List Nat}, ond r = true → r.Nodup
  | [], _ => List.nodup_nil
  | l :: r, hz => by
    have hz : (!(oin l r) && ond r) = true := hz
    rw [Bool.and_eq_true] at hz
    refine List.nodup_cons.mpr ⟨fun z => ?_, ond_i hz.2⟩
    rw [oin_i.mpr z] at hz
    exact absurd hz.1 (by decide)
def och (w h s : Nat) (F : List Nat) : List (Nat × Nat) → Bool
  | [] => true
  | e :: r => (Nat.blt e.1 32 && (hl w h s e.1 && !(beqB (Nat.testBit e.2 (e.1 / 2)) (Nat.testBit e.2 (len w h s e.1))))) && (bal 32 (fun l => !(hl w h s l) || (oin l (e.1 :: (r.map Prod.fst ++ F)) || beqB (Nat.testBit e.2 (l / 2)) (Nat.testBit e.2 (len w h s l)))) && och w h s F r)
theorem beqB_i {a b : Bool} (hz : a = b) : beqB a b = true := by
  subst hz
  cases a <;> rfl
theorem sov_y {k o w h s : Nat} {Φ : (Nat → Nat) → Nat} {F : List Nat} (hq : (k, o) ∈ gP) (hΦ : inv k o w h s Φ) : ∀ (ts : List (Nat × Nat)), (ts.map Prod.fst ++ F).Nodup → och w h s F ts = true → sov o Φ (ts.map Prod.fst ++ F) (fun _ => 0) = o ^ ts.length * sov o Φ F (fun _ => 0)
  | [], _, _ => by
    show sov o Φ F (fun _ => 0) = o ^ 0 * sov o Φ F (fun _ => 0)
    rw [Nat.pow_zero, Nat.one_mul]
  | e :: r, hn, hz => by
    have hz : ((Nat.blt e.1 32 && (hl w h s e.1 && !(beqB (Nat.testBit e.2 (e.1 / 2)) (Nat.testBit e.2 (len w h s e.1))))) && (bal 32 (fun l => !(hl w h s l) || (oin l (e.1 :: (r.map Prod.fst ++ F)) || beqB (Nat.testBit e.2 (l / 2)) (Nat.testBit e.2 (len w h s l)))) && och w h s F r)) = true := hz
    rw [Bool.and_eq_true, Bool.and_eq_true, Bool.and_eq_true, Bool.and_eq_true] at hz
    obtain ⟨⟨z1, z2, z3⟩, z4, z5⟩ := hz
    have hn2 : (e.1 :: (r.map Prod.fst ++ F)).Nodup := hn
    have h1 := sov_x (C := fun c => Nat.testBit e.2 c) hq hΦ hn2 (Nat.le_of_ble_eq_true z1) z2 (fun l l32 hv hni => by
      have h9 := b_imp (bal_ok z4 l32) hv
      rw [Bool.or_eq_true] at h9
      rcases h9 with h9 | h9
      · exact absurd (oin_i.mp h9) hni
      · exact beqB_e h9) (fun z => by
      have z : Nat.testBit e.2 (e.1 / 2) = Nat.testBit e.2 (len w h s e.1) := z
      rw [beqB_i z] at z3
      exact absurd z3 (by decide))
    have h2 := sov_y hq hΦ r (List.nodup_cons.mp hn2).2 z5
    show sov o Φ (e.1 :: (r.map Prod.fst ++ F)) (fun _ => 0) = o ^ (r.length + 1) * sov o Φ F (fun _ => 0)
    rw [h1, h2, Nat.pow_succ, Nat.mul_comm (o ^ r.length) o, Nat.mul_assoc]
/-- two trees -/
theorem sov_2 {k o w h s : Nat} {Φ : (Nat → Nat) → Nat} {F G : List Nat} {ts us : List (Nat × Nat)} (hq : (k, o) ∈ gP) (hΦ : inv k o w h s Φ) (h1 : och w h s F ts = true) (h2 : och w h s G us = true) (hn : ond (ts.map Prod.fst ++ F) = true) (hp : (ts.map Prod.fst ++ F).isPerm (us.map Prod.fst ++ G) = true) (hl9 : ts.length = us.length) : sov o Φ F (fun _ => 0) = sov o Φ G (fun _ => 0) := by
  obtain ⟨o2, o8, k3⟩ := gP_o hq
  have hn1 := ond_i hn
  have hp2 := List.isPerm_iff.mp hp
  have e1 := sov_y hq hΦ ts hn1 h1
  have e2 := sov_y hq hΦ us (hp2.nodup_iff.mp hn1) h2
  rw [← sov_p hp2 hn1, e1, hl9] at e2
  exact Nat.eq_of_mul_eq_mul_left (Nat.pow_pos (by omega)) e2
/-- trees of both sides with their cuts, the other lines of both sides -/
def lsT : List (Nat × List (Nat × Nat) × List (Nat × Nat) × List Nat × List Nat) := [(15, [(0, 2), (1, 48), (8, 32)], [(0, 34), (1, 16), (3, 32)], [3], [8]), (16, [(1, 16)], [(1, 16)], [0, 8], [0, 8]), (17, [], [], [0, 1], [0, 1]), (18, [(0, 2), (1, 816), (8, 32), (9, 768), (16, 512)], [(0, 546), (1, 272), (3, 544), (9, 256), (11, 512)], [3, 11], [8, 16]), (19, [(1, 272), (9, 256)], [(1, 272), (9, 256)], [0, 8, 16], [0, 8, 16]), (20, [(1, 16)], [(1, 16)], [0, 8, 9], [0, 8, 9]), (21, [(0, 2), (1, 13104), (8, 32), (9, 13056), (16, 512), (17, 12288), (24, 8192)], [(0, 8738), (1, 4368), (3, 8736), (9, 4352), (11, 8704), (17, 4096), (19, 8192)], [3, 11, 19], [8, 16, 24]), (22, [(1, 4368), (9, 4352), (17, 4096)], [(1, 4368), (9, 4352), (17, 4096)], [0, 8, 16, 24], [0, 8, 16, 24]), (23, [(1, 272), (9, 256)], [(1, 272), (9, 256)], [0, 8, 16, 17], [0, 8, 16, 17]), (27, [(0, 6), (1, 112), (2, 4), (8, 96), (10, 64)], [(0, 102), (2, 68), (1, 16), (3, 32), (5, 64)], [3, 5], [8, 10]), (28, [(0, 2), (1, 48), (8, 32)], [(0, 34), (1, 16), (3, 32)], [2, 3, 10], [2, 8, 10]), (29, [(0, 2)], [(0, 2)], [1, 2, 3], [2, 1, 3]), (30, [(0, 6), (1, 1904), (2, 4), (8, 96), (9, 1792), (10, 64), (16, 1536), (18, 1024)], [(0, 1638), (2, 1092), (1, 272), (3, 544), (5, 1088), (9, 256), (11, 512), (13, 1024)], [3, 5, 11, 13], [8, 10, 16, 18]), (31, [(0, 2), (1, 816), (8, 32), (9, 768), (16, 512)], [(0, 546), (1, 272), (3, 544), (9, 256), (11, 512)], [2, 3, 10, 11, 18], [2, 8, 10, 16, 18]), (32, [(0, 2), (1, 48), (8, 32)], [(0, 34), (1, 16), (3, 32)], [2, 3, 9, 10, 11], [2, 8, 10, 9, 11]), (39, [(0, 14), (1, 240), (2, 12), (4, 8), (8, 224), (10, 192), (12, 128)], [(0, 238), (2, 204), (4, 136), (1, 16), (3, 32), (5, 64), (7, 128)], [3, 5, 7], [8, 10, 12]), (40, [(0, 6), (1, 112), (2, 4), (8, 96), (10, 64)], [(0, 102), (2, 68), (1, 16), (3, 32), (5, 64)], [3, 4, 5, 12], [4, 8, 10, 12]), (41, [(0, 6), (2, 4)], [(0, 6), (2, 4)], [1, 3, 4, 5], [4, 1, 3, 5])]
def lsG (w h s : Nat) : List (Nat × Nat) × List (Nat × Nat) × List Nat × List Nat := ((lsT.find? (fun e => Nat.beq e.1 ((w * 4 + h) * 3 + s))).map (fun e => e.2)).getD ([], [], [], [])
/-- lines off the tree, of both sides -/
def fcl (w h s : Nat) : List Nat := (lsG w h s).2.2.1
def frl (w h s : Nat) : List Nat := (lsG w h s).2.2.2
def lsC (w h s : Nat) : Bool := Nat.blt 4 (w * h) || (och w h s (fcl w h s) (lsG w h s).1 && (och w h s (frl w h s) (lsG w h s).2.1 && (ond ((lsG w h s).1.map Prod.fst ++ fcl w h s) && (((lsG w h s).1.map Prod.fst ++ fcl w h s).isPerm ((lsG w h s).2.1.map Prod.fst ++ frl w h s) && Nat.beq (lsG w h s).1.length (lsG w h s).2.1.length))))
theorem sov_q {k o w h s : Nat} {Φ : (Nat → Nat) → Nat} (hq : (k, o) ∈ gP) (hΦ : inv k o w h s Φ) (w1 : 1 ≤ w) (w3 : w ≤ 3) (h1 : 1 ≤ h) (h3 : h ≤ 3) (s2 : s ≤ 2) (h4 : w * h ≤ 4) : sov o Φ (fcl w h s) (fun _ => 0) = sov o Φ (frl w h s) (fun _ => 0) := by
  have t : lsC w h s = true := sz_all (P := fun w h s => lsC w h s) (by decide +kernel) w1 w3 h1 h3 s2
  unfold lsC at t
  rw [x_nblt (show ¬ 4 < w * h by omega), Bool.false_or, Bool.and_eq_true, Bool.and_eq_true, Bool.and_eq_true, Bool.and_eq_true] at t
  obtain ⟨t1, t2, t3, t4, t5⟩ := t
  exact sov_2 hq hΦ t1 t2 t3 t4 (Nat.eq_of_beq_eq_true t5)
/-- what the turns A on lines are worth -/
def wNx (e : xB) (A : Nat → Nat) (y : Nat) : Nat → Nat → Nat
  | 0, a => a
  | x + 1, a => wNx e A y x a * dW e (y * 4 + x) (rdv e.1.1 e.1.2 A e.2.1.1 e.2.1.2.1 e.2.1.2.2 x y)
def wNy (e : xB) (A : Nat → Nat) : Nat → Nat
  | 0 => 1
  | y + 1 => wNx e A y e.2.1.1 (wNy e A y)
theorem sq_c {w h s x y : Nat} (w1 : 1 ≤ w) (w3 : w ≤ 3) (h1 : 1 ≤ h) (h3 : h ≤ 3) (s2 : s ≤ 2) (hx : x < w) (hy : y < h) : (xln w h s x y 1 / 2 = xln w h s x y 0 / 2 ∧ len w h s (xln w h s x y 0) = xln w h s (x + 1) y 1 / 2) ∧ (len w h s (xln w h s x (y + 1) 0) = len w h s (xln w h s (x + 1) y 1) ∧ len w h s (xln w h s x y 1) = xln w h s x (y + 1) 0 / 2) := by
  have t := b_imp (b_imp (bal_ok (bal_ok (sz_all (P := fun w h s => bal 3 (fun x => bal 3 (fun y => !(Nat.blt x w) || (!(Nat.blt y h) || ((Nat.beq (xln w h s x y 1 / 2) (xln w h s x y 0 / 2) && Nat.beq (len w h s (xln w h s x y 0)) (xln w h s (x + 1) y 1 / 2)) && (Nat.beq (len w h s (xln w h s x (y + 1) 0)) (len w h s (xln w h s (x + 1) y 1)) && Nat.beq (len w h s (xln w h s x y 1)) (xln w h s x (y + 1) 0 / 2))))))) (by decide +kernel) w1 w3 h1 h3 s2) (show x < 3 by omega)) (show y < 3 by omega)) (x_blt hx)) (x_blt hy)
  rw [Bool.and_eq_true, Bool.and_eq_true, Bool.and_eq_true] at t
  exact ⟨⟨Nat.eq_of_beq_eq_true t.1.1, Nat.eq_of_beq_eq_true t.1.2⟩, Nat.eq_of_beq_eq_true t.2.1, Nat.eq_of_beq_eq_true t.2.2⟩
theorem grz_i {k o a b c : Nat} (hq : (k, o) ∈ gP) (ha : a < o) (hb : b < o) (hc : c < o) : ag k o (rt k o (rt k o a b) (ag k o c)) = rt k o (rt k o c (ag k o b)) (ag k o a) := Nat.eq_of_beq_eq_true (l3_all (P := fun k o a b c => Nat.beq (ag k o (rt k o (rt k o a b) (ag k o c))) (rt k o (rt k o c (ag k o b)) (ag k o a))) (by decide +kernel) hq ha hb hc)
theorem grz_m {k o g a h b i : Nat} (hq : (k, o) ∈ gP) (hg : g < o) (ha : a < o) (hh : h < o) (hb : b < o) (hi : i < o) : rt k o (rt k o (rt k o g a) (ag k o h)) (rt k o (rt k o h b) i) = rt k o (rt k o g (rt k o a b)) i := by
  have h' := ag_lt hq hh
  rw [rt_as hq hh hb hi, rt_as hq (rt_lt hq hg ha) h' (rt_lt hq hh (rt_lt hq hb hi)), gl_1 hq hh (rt_lt hq hb hi), ← rt_as hq (rt_lt hq hg ha) hb hi, rt_as hq hg ha hb]
theorem grz_k {k o d x : Nat} (hq : (k, o) ∈ gP) (hd : d < o) (hx : x < o) : kn k o (rt k o (rt k o d x) (ag k o d)) = kn k o x := Nat.eq_of_beq_eq_true (gT_all (P := fun k o d x => Nat.beq (kn k o (rt k o (rt k o d x) (ag k o d))) (kn k o x)) (by decide +kernel) hq hd hx)
theorem rdv_n {k o w h s x y : Nat} {A : Nat → Nat} (hq : (k, o) ∈ gP) (hA : ∀ l, A l < o) : rdv k o A w h s x y < o := rt_lt hq (rt_lt hq (hA _) (hA _)) (rt_lt hq (ag_lt hq (hA _)) (ag_lt hq (hA _)))
theorem rdv_t {k o w h s x y : Nat} {g A : Nat → Nat} (hq : (k, o) ∈ gP) (w1 : 1 ≤ w) (w3 : w ≤ 3) (h1 : 1 ≤ h) (h3 : h ≤ 3) (s2 : s ≤ 2) (hx : x < w) (hy : y < h) (hg : ∀ c, g c < o) (hA : ∀ l, A l < o) : rdv k o (fun l => tau k o w h s g l (A l)) w h s x y = rt k o (rt k o (g (xln w h s x y 0 / 2)) (rdv k o A w h s x y)) (ag k o (g (xln w h s x y 0 / 2))) := by
  obtain ⟨⟨v0, v1⟩, v2, v3⟩ := sq_l w1 w3 h1 h3 s2 hx hy
  obtain ⟨⟨c0, c1⟩, c2, c3⟩ := sq_c w1 w3 h1 h3 s2 hx hy
  have T : ∀ {a b n : Nat}, a ≤ w → b ≤ h → n ≤ 1 → xlv w h s a b n = true → tau k o w h s g (xln w h s a b n) (A (xln w h s a b n)) = rt k o (rt k o (g (xln w h s a b n / 2)) (A (xln w h s a b n))) (ag k o (g (len w h s (xln w h s a b n)))) := fun ha hb hn hv => tau_y (xln_lt w1 w3 h1 h3 ha hb hn) (xln_hl w1 w3 h1 h3 s2 ha hb hn hv).1
  show rt k o (rt k o (tau k o w h s g (xln w h s x y 0) (A (xln w h s x y 0))) (tau k o w h s g (xln w h s (x + 1) y 1) (A (xln w h s (x + 1) y 1)))) (rt k o (ag k o (tau k o w h s g (xln w h s x (y + 1) 0) (A (xln w h s x (y + 1) 0)))) (ag k o (tau k o w h s g (xln w h s x y 1) (A (xln w h s x y 1))))) = rt k o (rt k o (g (xln w h s x y 0 / 2)) (rt k o (rt k o (A (xln w h s x y 0)) (A (xln w h s (x + 1) y 1))) (rt k o (ag k o (A (xln w h s x (y + 1) 0))) (ag k o (A (xln w h s x y 1)))))) (ag k o (g (xln w h s x y 0 / 2)))
  rw [T (Nat.le_of_lt hx) (Nat.le_of_lt hy) (by decide) v0, T hx (Nat.le_of_lt hy) (by decide) v1, T (Nat.le_of_lt hx) hy (by decide) v2, T (Nat.le_of_lt hx) (Nat.le_of_lt hy) (by decide) v3, c0, c1, c2, c3]
  rw [grz_i hq (hg _) (hA _) (hg _), grz_i hq (hg _) (hA _) (hg _), grz_m hq (hg _) (hA _) (hg _) (hA _) (ag_lt hq (hg _)), grz_m hq (hg _) (ag_lt hq (hA _)) (hg _) (ag_lt hq (hA _)) (ag_lt hq (hg _)), grz_m hq (hg _) (rt_lt hq (hA _) (hA _)) (hg _) (rt_lt hq (ag_lt hq (hA _)) (ag_lt hq (hA _))) (ag_lt hq (hg _))]
theorem wNy_i {e : xB} (hq : e.1 ∈ gP) (hk : okB e) (hW : kW e) : inv e.1.1 e.1.2 e.2.1.1 e.2.1.2.1 e.2.1.2.2 (fun A => wNy e A e.2.1.2.1) := by
  obtain ⟨w1, w3, h1, h3, s2⟩ := hk
  have hq : (e.1.1, e.1.2) ∈ gP := hq
  intro g A hg hA
  have sx : ∀ y, y < e.2.1.2.1 → ∀ x, x ≤ e.2.1.1 → ∀ a, wNx e (fun l => tau e.1.1 e.1.2 e.2.1.1 e.2.1.2.1 e.2.1.2.2 g l (A l)) y x a = wNx e A y x a := by
    intro y hy x
    induction x with
    | zero => exact fun _ _ => rfl
    | succ x ih =>
      intro hx a
      show wNx e (fun l => tau e.1.1 e.1.2 e.2.1.1 e.2.1.2.1 e.2.1.2.2 g l (A l)) y x a * dW e (y * 4 + x) (rdv e.1.1 e.1.2 (fun l => tau e.1.1 e.1.2 e.2.1.1 e.2.1.2.1 e.2.1.2.2 g l (A l)) e.2.1.1 e.2.1.2.1 e.2.1.2.2 x y) = wNx e A y x a * dW e (y * 4 + x) (rdv e.1.1 e.1.2 A e.2.1.1 e.2.1.2.1 e.2.1.2.2 x y)
      rw [ih (by omega), rdv_t hq w1 w3 h1 h3 s2 (show x < e.2.1.1 by omega) hy hg hA]
      congr 1
      show xn (wi e (y * 4 + x) _) = xn (wi e (y * 4 + x) _)
      congr 1
      unfold wi
      have hr := rdv_n (w := e.2.1.1) (h := e.2.1.2.1) (s := e.2.1.2.2) (x := x) (y := y) hq hA
      rw [hW _ _ (rt_lt hq (rt_lt hq (hg _) hr) (ag_lt hq (hg _))) hr (grz_k hq (hg _) hr)]
  have sy : ∀ y, y ≤ e.2.1.2.1 → wNy e (fun l => tau e.1.1 e.1.2 e.2.1.1 e.2.1.2.1 e.2.1.2.2 g l (A l)) y = wNy e A y := by
    intro y
    induction y with
    | zero => exact fun _ => rfl
    | succ y ih =>
      intro hy
      show wNx e (fun l => tau e.1.1 e.1.2 e.2.1.1 e.2.1.2.1 e.2.1.2.2 g l (A l)) y e.2.1.1 (wNy e (fun l => tau e.1.1 e.1.2 e.2.1.1 e.2.1.2.1 e.2.1.2.2 g l (A l)) y) = wNx e A y e.2.1.1 (wNy e A y)
      rw [ih (by omega), sx y (by omega) _ (Nat.le_refl _)]
  exact sy _ (Nat.le_refl _)
/-- what listed answers, by the lines off a tree -/
def lsv (e : xB) (F : List Nat) : Int64 := Int64.ofNat (sov e.1.2 (fun A => wNy e A e.2.1.2.1) F (fun _ => 0))
theorem lsv_q {e : xB} (hq : e.1 ∈ gP) (hk : okB e) (hW : kW e) (h4 : e.2.1.1 * e.2.1.2.1 ≤ 4) : lsv e (fcl e.2.1.1 e.2.1.2.1 e.2.1.2.2) = lsv e (frl e.2.1.1 e.2.1.2.1 e.2.1.2.2) := by
  obtain ⟨w1, w3, h1, h3, s2⟩ := hk
  unfold lsv
  rw [sov_q (k := e.1.1) (o := e.1.2) (w := e.2.1.1) (h := e.2.1.2.1) (s := e.2.1.2.2) hq (wNy_i hq ⟨w1, w3, h1, h3, s2⟩ hW) w1 w3 h1 h3 s2 h4]
