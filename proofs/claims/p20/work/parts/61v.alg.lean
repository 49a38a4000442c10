theorem sl_z : ∀ n, sl (fun _ => 0) n = 0
  | 0 => rfl
  | n + 1 => by
    show sl (fun _ => 0) n + 0 = 0
    rw [sl_z n, Int64.add_zero]
theorem x_4 {a b c d : Int64} : a + b + (c + d) = a + c + (b + d) := by
  rw [Int64.add_assoc, Int64.add_assoc, ← Int64.add_assoc b c d, Int64.add_comm b c, Int64.add_assoc c b d]
theorem sl_add {f g : Nat → Int64} : ∀ n, sl (fun t => f t + g t) n = sl f n + sl g n
  | 0 => (Int64.add_zero 0).symm
  | n + 1 => by
    show sl (fun t => f t + g t) n + (f n + g n) = sl f n + f n + (sl g n + g n)
    rw [sl_add n, x_4]
theorem sl_swap {F : Nat → Nat → Int64} {m : Nat} : ∀ n, sl (fun a => sl (fun b => F a b) m) n = sl (fun b => sl (fun a => F a b) n) m
  | 0 => (sl_z m).symm
  | n + 1 => by
    show sl (fun a => sl (fun b => F a b) m) n + sl (fun b => F n b) m = sl (fun b => sl (fun a => F a b) n + F n b) m
    rw [sl_swap n, sl_add]
theorem sl_pick {g : Nat → Int64} {x : Nat} : ∀ n, sl (fun c => if c = x then g c else 0) n = if x < n then g x else 0
  | 0 => by rw [if_neg (Nat.not_lt_zero x)]; rfl
  | n + 1 => by
    show sl (fun c => if c = x then g c else 0) n + (if n = x then g n else 0) = _
    rw [sl_pick n]
    by_cases h : n = x
    · rw [if_pos h, if_neg (show ¬ x < n by omega), if_pos (show x < n + 1 by omega), h, Int64.zero_add]
    · rw [if_neg h, Int64.add_zero]
      by_cases h2 : x < n
      · rw [if_pos h2, if_pos (show x < n + 1 by omega)]
      · rw [if_neg h2, if_neg (show ¬ x < n + 1 by omega)]
theorem sl_perm {h : Nat → Int64} {o : Nat} {p s : Nat → Nat} (hs : ∀ x, x < o → s x < o) (hps : ∀ a x, a < o → x < o → (x = p a ↔ a = s x)) (hp : ∀ a, a < o → p a < o) : sl (fun a => h (p a)) o = sl h o := by
  have e1 : sl (fun a => h (p a)) o = sl (fun a => sl (fun x => if x = p a then h x else 0) o) o := sl_e o (fun a ha => by rw [sl_pick, if_pos (hp a ha)])
  rw [e1, sl_swap]
  refine sl_e o (fun x hx => ?_)
  have e2 : sl (fun a => if x = p a then h x else 0) o = sl (fun a => if a = s x then h x else 0) o := sl_e o (fun a ha => by
    by_cases hq : x = p a
    · rw [if_pos hq, if_pos ((hps a x ha hx).mp hq)]
    · rw [if_neg hq, if_neg (fun z => hq ((hps a x ha hx).mpr z))])
  rw [e2, sl_pick (g := fun _ => h x), if_pos (hs x hx)]
def g3 : List (Nat × Nat × Nat × Nat × Nat) := gP.flatMap (fun q => (List.range q.2).flatMap (fun a => (List.range q.2).flatMap (fun b => (List.range q.2).map (fun c => (q.1, q.2, a, b, c)))))
theorem g3_all {P : Nat → Nat → Nat → Nat → Nat → Bool} (h : g3.all (fun e => P e.1 e.2.1 e.2.2.1 e.2.2.2.1 e.2.2.2.2) = true) {k o a b c : Nat} (hq : (k, o) ∈ gP) (ha : a < o) (hb : b < o) (hc : c < o) : P k o a b c = true := List.all_eq_true.mp h (k, o, a, b, c) (List.mem_flatMap.mpr ⟨(k, o), hq, List.mem_flatMap.mpr ⟨a, List.mem_range.mpr ha, List.mem_flatMap.mpr ⟨b, List.mem_range.mpr hb, List.mem_map.mpr ⟨c, List.mem_range.mpr hc, rfl⟩⟩⟩⟩)
theorem g_t1 {k o a b c : Nat} (hq : (k, o) ∈ gP) (ha : a < o) (hb : b < o) (hc : c < o) : c = rt k o a b ↔ b = rt k o (ag k o a) c := by
  have h := g3_all (P := fun k o a b c => Nat.beq c (rt k o a b) == Nat.beq b (rt k o (ag k o a) c)) (by decide +kernel) hq ha hb hc
  have h := eq_of_beq h
  exact ⟨fun z => Nat.eq_of_beq_eq_true (h.symm.trans (x_beq z)), fun z => Nat.eq_of_beq_eq_true (h.trans (x_beq z))⟩
def pi3 (k o b c a : Nat) : Nat := rt k o (rt k o c (ag k o a)) b
theorem g_t2a {k o a b c : Nat} (hq : (k, o) ∈ gP) (ha : a < o) (hb : b < o) (hc : c < o) : rt k o (ag k o b) (pi3 k o b c a) = rt k o (rt k o (rt k o (ag k o b) c) (rt k o (ag k o a) c)) (ag k o (rt k o (ag k o b) c)) := Nat.eq_of_beq_eq_true (g3_all (P := fun k o a b c => Nat.beq (rt k o (ag k o b) (pi3 k o b c a)) (rt k o (rt k o (rt k o (ag k o b) c) (rt k o (ag k o a) c)) (ag k o (rt k o (ag k o b) c)))) (by decide +kernel) hq ha hb hc)
theorem g_t2b {k o d x : Nat} (hq : (k, o) ∈ gP) (hd : d < o) (hx : x < o) : kn k o (rt k o (rt k o d x) (ag k o d)) = kn k o x := Nat.eq_of_beq_eq_true (gT_all (P := fun k o d x => Nat.beq (kn k o (rt k o (rt k o d x) (ag k o d))) (kn k o x)) (by decide +kernel) hq hd hx)
theorem g_t2 {k o a b c : Nat} (hq : (k, o) ∈ gP) (ha : a < o) (hb : b < o) (hc : c < o) : kn k o (rt k o (ag k o b) (pi3 k o b c a)) = kn k o (rt k o (ag k o a) c) := by
  rw [g_t2a hq ha hb hc]
  exact g_t2b hq (rt_lt hq (ag_lt hq hb) hc) (rt_lt hq (ag_lt hq ha) hc)
theorem g_t3 {k o a b c : Nat} (hq : (k, o) ∈ gP) (ha : a < o) (hb : b < o) (hc : c < o) : rt k o (ag k o (pi3 k o b c a)) c = rt k o (ag k o b) a := Nat.eq_of_beq_eq_true (g3_all (P := fun k o a b c => Nat.beq (rt k o (ag k o (pi3 k o b c a)) c) (rt k o (ag k o b) a)) (by decide +kernel) hq ha hb hc)
theorem g_t4 {k o a b c : Nat} (hq : (k, o) ∈ gP) (ha : a < o) (hb : b < o) (hc : c < o) : pi3 k o c b (pi3 k o b c a) = a := Nat.eq_of_beq_eq_true (g3_all (P := fun k o a b c => Nat.beq (pi3 k o c b (pi3 k o b c a)) a) (by decide +kernel) hq ha hb hc)
theorem pi3_lt {k o a b c : Nat} (hq : (k, o) ∈ gP) (ha : a < o) (hb : b < o) (hc : c < o) : pi3 k o b c a < o := rt_lt hq (rt_lt hq hc (ag_lt hq ha)) hb
theorem cvi_s {k o a c : Nat} {f g nx : Nat → Int64} : ∀ n, cvi k o f g a nx n c = nx c + sl (fun b => if c = rt k o a b then f a * g b else 0) n
  | 0 => (Int64.add_zero _).symm
  | n + 1 => by
    show (if c = rt k o a n then cvi k o f g a nx n c + f a * g n else cvi k o f g a nx n c) = nx c + (sl (fun b => if c = rt k o a b then f a * g b else 0) n + (if c = rt k o a n then f a * g n else 0))
    by_cases h : c = rt k o a n
    · rw [if_pos h, if_pos h, cvi_s n, Int64.add_assoc]
    · rw [if_neg h, if_neg h, cvi_s n, Int64.add_zero]
theorem cvo_s {k o c : Nat} {f g : Nat → Int64} : ∀ n, cvo k o f g n c = sl (fun a => sl (fun b => if c = rt k o a b then f a * g b else 0) o) n
  | 0 => rfl
  | n + 1 => by
    show cvi k o f g n (cvo k o f g n) o c = sl (fun a => sl (fun b => if c = rt k o a b then f a * g b else 0) o) n + sl (fun b => if c = rt k o n b then f n * g b else 0) o
    rw [cvi_s, cvo_s n]
theorem conv_s {k o c : Nat} {f g : Nat → Int64} (hq : (k, o) ∈ gP) (hc : c < o) : conv k o f g c = sl (fun a => f a * g (rt k o (ag k o a) c)) o := by
  refine (cvo_s o).trans (sl_e o (fun a ha => ?_))
  have e2 : sl (fun b => if c = rt k o a b then f a * g b else 0) o = sl (fun b => if b = rt k o (ag k o a) c then f a * g b else 0) o := sl_e o (fun b hb => by
    by_cases hz : c = rt k o a b
    · rw [if_pos hz, if_pos ((g_t1 hq ha hb hc).mp hz)]
    · rw [if_neg hz, if_neg (fun z => hz ((g_t1 hq ha hb hc).mpr z))])
  rw [e2, sl_pick (g := fun b => f a * g b), if_pos (rt_lt hq (ag_lt hq ha) hc)]
theorem conv_e {k o c : Nat} {f f2 g : Nat → Int64} (hq : (k, o) ∈ gP) (hc : c < o) (h : ∀ a, a < o → f a = f2 a) : conv k o f g c = conv k o f2 g c := by
  rw [conv_s hq hc, conv_s hq hc]
  exact sl_e o (fun a ha => by rw [h a ha])
/-- alike on kins -/
def cF (k o : Nat) (F : Nat → Int64) : Prop := ∀ a b, a < o → b < o → kn k o a = kn k o b → F a = F b
theorem sl_r {f : Nat → Int64} {c : Int64} : ∀ n, sl f n * c = sl (fun t => f t * c) n
  | 0 => Int64.zero_mul
  | n + 1 => by
    show (sl f n + f n) * c = sl (fun t => f t * c) n + f n * c
    rw [Int64.add_mul, sl_r n]
theorem conv_c {k o c : Nat} {f F G : Nat → Int64} (hq : (k, o) ∈ gP) (hF : cF k o F) (hG : cF k o G) (hc : c < o) : conv k o (conv k o f F) G c = conv k o (conv k o f G) F c := by
  have ex : ∀ {F G : Nat → Int64}, conv k o (conv k o f F) G c = sl (fun b => sl (fun a => f b * F (rt k o (ag k o b) a) * G (rt k o (ag k o a) c)) o) o := by
    intro F G
    rw [conv_s hq hc]
    have e1 : sl (fun a => conv k o f F a * G (rt k o (ag k o a) c)) o = sl (fun a => sl (fun b => f b * F (rt k o (ag k o b) a) * G (rt k o (ag k o a) c)) o) o := sl_e o (fun a ha => by rw [conv_s hq ha, sl_r])
    rw [e1, sl_swap]
  rw [ex, ex]
  refine sl_e o (fun b hb => ?_)
  rw [← sl_perm (h := fun a => f b * G (rt k o (ag k o b) a) * F (rt k o (ag k o a) c)) (p := pi3 k o b c) (s := pi3 k o c b) (fun x hx => pi3_lt hq hx hc hb) (fun a x ha hx => ⟨fun z => by rw [z, g_t4 hq ha hb hc], fun z => by rw [z, g_t4 hq hx hc hb]⟩) (fun a ha => pi3_lt hq ha hb hc)]
  refine sl_e o (fun a ha => ?_)
  have ra := rt_lt hq (ag_lt hq ha) hc
  have rb := rt_lt hq (ag_lt hq hb) (pi3_lt hq ha hb hc)
  show f b * F (rt k o (ag k o b) a) * G (rt k o (ag k o a) c) = f b * G (rt k o (ag k o b) (pi3 k o b c a)) * F (rt k o (ag k o (pi3 k o b c a)) c)
  rw [g_t3 hq ha hb hc, hG _ _ rb ra (g_t2 hq ha hb hc), Int64.mul_assoc, Int64.mul_assoc, Int64.mul_comm (F _) (G _)]
theorem mulN_e {k o : Nat} {f f2 g : Nat → Int64} (hq : (k, o) ∈ gP) (h : ∀ a, a < o → f a = f2 a) : ∀ n c, c < o → mulN k o f g n c = mulN k o f2 g n c
  | 0, c, hc => h c hc
  | n + 1, c, hc => conv_e hq hc (mulN_e hq h n)
theorem mulN_1 {k o : Nat} {f F G : Nat → Int64} (hq : (k, o) ∈ gP) (hF : cF k o F) (hG : cF k o G) : ∀ n c, c < o → mulN k o (conv k o f F) G n c = conv k o (mulN k o f G n) F c
  | 0, _, _ => rfl
  | n + 1, c, hc => (conv_e hq hc (mulN_1 hq hF hG n)).trans (conv_c hq hF hG hc)
theorem mulN_c {k o : Nat} {f F G : Nat → Int64} (hq : (k, o) ∈ gP) (hF : cF k o F) (hG : cF k o G) (n : Nat) : ∀ m c, c < o → mulN k o (mulN k o f F m) G n c = mulN k o (mulN k o f G n) F m c
  | 0, _, _ => rfl
  | m + 1, c, hc => (mulN_1 hq hF hG n c hc).trans (conv_e hq hc (mulN_c hq hF hG n m))
