set_option maxHeartbeats 400000
/-! numbers read digit by digit; names as digits -/
def dg (B : Nat) (g : Nat → Nat) (a : Nat) (ls : List Nat) : Nat := ls.foldl (fun a x => a * B + g x) a
theorem dg_cons (B : Nat) (g : Nat → Nat) (a x : Nat) (ls : List Nat) : dg B g a (x :: ls) = dg B g (a * B + g x) ls := rfl
theorem dg_app (B : Nat) (g : Nat → Nat) (a : Nat) (u v : List Nat) : dg B g a (u ++ v) = dg B g (dg B g a u) v := by
  unfold dg
  rw [List.foldl_append]
theorem dg_snoc (B : Nat) (g : Nat → Nat) (a : Nat) (u : List Nat) (x : Nat) : dg B g a (u ++ [x]) = dg B g a u * B + g x := by
  rw [dg_app]
  rfl
theorem dg_acc (B : Nat) (g : Nat → Nat) : ∀ (ls : List Nat) (a : Nat), dg B g a ls = a * B ^ ls.length + dg B g 0 ls
  | [], a => by
    show a = a * B ^ 0 + 0
    rw [Nat.pow_zero, Nat.mul_one, Nat.add_zero]
  | x :: ls, a => by
    rw [dg_cons, dg_cons, dg_acc B g ls (a * B + g x), dg_acc B g ls (0 * B + g x), List.length_cons, Nat.pow_succ, Nat.mul_comm (B ^ ls.length) B, Nat.add_mul, Nat.mul_assoc, Nat.zero_mul, Nat.zero_add, Nat.add_assoc]
theorem dg_cons0 (B : Nat) (g : Nat → Nat) (x : Nat) (ls : List Nat) : dg B g 0 (x :: ls) = g x * B ^ ls.length + dg B g 0 ls := by
  rw [dg_cons, dg_acc, Nat.zero_mul, Nat.zero_add]
theorem dg_lt {B : Nat} {g : Nat → Nat} : ∀ {ls : List Nat}, (∀ x ∈ ls, g x < B) → dg B g 0 ls < B ^ ls.length
  | [], _ => by
    show 0 < B ^ 0
    rw [Nat.pow_zero]
    exact Nat.one_pos
  | x :: ls, h => by
    have h1 := dg_lt (ls := ls) (fun y hy => h y (List.mem_cons_of_mem _ hy))
    have h2 : (g x + 1) * B ^ ls.length ≤ B * B ^ ls.length := Nat.mul_le_mul_right _ (h x (List.mem_cons_self ..))
    rw [dg_cons0, List.length_cons, Nat.pow_succ, Nat.mul_comm (B ^ ls.length) B]
    rw [Nat.succ_mul] at h2
    omega
theorem dg_congr {B : Nat} {g h : Nat → Nat} : ∀ {ls : List Nat} {a : Nat}, (∀ x ∈ ls, g x = h x) → dg B g a ls = dg B h a ls
  | [], _, _ => rfl
  | x :: ls, a, e => by
    rw [dg_cons, dg_cons, e x (List.mem_cons_self ..)]
    exact dg_congr (fun y hy => e y (List.mem_cons_of_mem _ hy))
theorem dg_rep {B : Nat} {g : Nat → Nat} (h : g 0 = 0) : ∀ (k a : Nat), dg B g a (List.replicate k 0) = a * B ^ k
  | 0, a => by
    show a = a * B ^ 0
    rw [Nat.pow_zero, Nat.mul_one]
  | k + 1, a => by
    rw [List.replicate_succ, dg_cons, dg_rep h k, h, Nat.add_zero, Nat.pow_succ, Nat.mul_comm (B ^ k) B, Nat.mul_assoc]
theorem dg_ord {B C : Nat} {g h : Nat → Nat} : ∀ (p q : List Nat), p.length = q.length → (∀ x ∈ p, g x < B ∧ h x < C) → (∀ x ∈ q, g x < B ∧ h x < C) → (∀ x y, x ∈ p → y ∈ q → (g x < g y ↔ h x < h y) ∧ (g y < g x ↔ h y < h x)) → (dg B g 0 p < dg B g 0 q ↔ dg C h 0 p < dg C h 0 q)
  | [], [], _, _, _, _ => ⟨fun z => absurd z (Nat.lt_irrefl _), fun z => absurd z (Nat.lt_irrefl _)⟩
  | [], _ :: _, e, _, _, _ => by cases e
  | _ :: _, [], e, _, _, _ => by cases e
  | x :: p, y :: q, e, hp, hq, hm => by
    have el : p.length = q.length := Nat.succ.inj e
    have ih := dg_ord p q el (fun z hz => hp z (List.mem_cons_of_mem _ hz)) (fun z hz => hq z (List.mem_cons_of_mem _ hz)) (fun a b ha hb => hm a b (List.mem_cons_of_mem _ ha) (List.mem_cons_of_mem _ hb))
    have p1 := dg_lt (B := B) (g := g) (ls := p) (fun z hz => (hp z (List.mem_cons_of_mem _ hz)).1)
    have p2 := dg_lt (B := C) (g := h) (ls := p) (fun z hz => (hp z (List.mem_cons_of_mem _ hz)).2)
    have q1 := dg_lt (B := B) (g := g) (ls := q) (fun z hz => (hq z (List.mem_cons_of_mem _ hz)).1)
    have q2 := dg_lt (B := C) (g := h) (ls := q) (fun z hz => (hq z (List.mem_cons_of_mem _ hz)).2)
    obtain ⟨m1, m2⟩ := hm x y (List.mem_cons_self ..) (List.mem_cons_self ..)
    rw [dg_cons0, dg_cons0, dg_cons0, dg_cons0]
    rw [el] at p1 p2 ⊢
    rcases Nat.lt_trichotomy (g x) (g y) with z | z | z
    · have z' := m1.mp z
      have a1 : (g x + 1) * B ^ q.length ≤ g y * B ^ q.length := Nat.mul_le_mul_right _ z
      have a2 : (h x + 1) * C ^ q.length ≤ h y * C ^ q.length := Nat.mul_le_mul_right _ z'
      rw [Nat.succ_mul] at a1 a2
      omega
    · have z' : h x = h y := by
        have b1 := mt m1.mpr
        have b2 := mt m2.mpr
        omega
      rw [z, z']
      omega
    · have z' := m2.mp z
      have a1 : (g y + 1) * B ^ q.length ≤ g x * B ^ q.length := Nat.mul_le_mul_right _ z
      have a2 : (h y + 1) * C ^ q.length ≤ h x * C ^ q.length := Nat.mul_le_mul_right _ z'
      rw [Nat.succ_mul] at a1 a2
      omega
theorem dg_inj {B : Nat} {g : Nat → Nat} : ∀ (p q : List Nat), p.length = q.length → (∀ x ∈ p, g x < B) → (∀ x ∈ q, g x < B) → (∀ x y, x ∈ p → y ∈ q → g x = g y → x = y) → dg B g 0 p = dg B g 0 q → p = q
  | [], [], _, _, _, _, _ => rfl
  | [], _ :: _, e, _, _, _, _ => by cases e
  | _ :: _, [], e, _, _, _, _ => by cases e
  | x :: p, y :: q, e, hp, hq, hm, he => by
    have el : p.length = q.length := Nat.succ.inj e
    have p1 := dg_lt (B := B) (g := g) (ls := p) (fun z hz => hp z (List.mem_cons_of_mem _ hz))
    have q1 := dg_lt (B := B) (g := g) (ls := q) (fun z hz => hq z (List.mem_cons_of_mem _ hz))
    rw [dg_cons0, dg_cons0] at he
    rw [el] at p1 he
    rcases Nat.lt_trichotomy (g x) (g y) with z | z | z
    · have a1 : (g x + 1) * B ^ q.length ≤ g y * B ^ q.length := Nat.mul_le_mul_right _ z
      rw [Nat.succ_mul] at a1
      omega
    · have hxy := hm x y (List.mem_cons_self ..) (List.mem_cons_self ..) z
      subst hxy
      rw [dg_inj p q el (fun z hz => hp z (List.mem_cons_of_mem _ hz)) (fun z hz => hq z (List.mem_cons_of_mem _ hz)) (fun a b ha hb => hm a b (List.mem_cons_of_mem _ ha) (List.mem_cons_of_mem _ hb)) (by omega)]
    · have a1 : (g y + 1) * B ^ q.length ≤ g x * B ^ q.length := Nat.mul_le_mul_right _ z
      rw [Nat.succ_mul] at a1
      omega
theorem dg_ge {B : Nat} {g : Nat → Nat} {x : Nat} {ls : List Nat} (h : 1 ≤ g x) : B ^ ls.length ≤ dg B g 0 (x :: ls) := by
  rw [dg_cons0]
  have : 1 * B ^ ls.length ≤ g x * B ^ ls.length := Nat.mul_le_mul_right _ h
  omega
theorem dg_dig {B : Nat} {g : Nat → Nat} {u v : List Nat} {x : Nat} (hx : g x < B) (hv : ∀ y ∈ v, g y < B) : dg B g 0 (u ++ x :: v) / B ^ v.length % B = g x := by
  have hV := dg_lt hv
  have hP : 0 < B ^ v.length := by omega
  rw [dg_app, dg_cons, dg_acc, Nat.mul_comm _ (B ^ v.length), Nat.mul_add_div hP, Nat.div_eq_of_lt hV, Nat.add_zero, Nat.mul_comm, Nat.mul_add_mod, Nat.mod_eq_of_lt hx]
theorem split_at : ∀ {ls : List Nat} {k : Nat}, k < ls.length → ∃ u x v, ls = u ++ x :: v ∧ u.length = k
  | [], _, h => absurd h (Nat.not_lt_zero _)
  | x :: ls, 0, _ => ⟨[], x, ls, rfl, rfl⟩
  | x :: ls, k + 1, h => by
    obtain ⟨u, y, v, e, hu⟩ := split_at (ls := ls) (k := k) (Nat.lt_of_succ_lt_succ h)
    exact ⟨x :: u, y, v, by rw [e]; rfl, by rw [List.length_cons, hu]⟩
-- names
def g8 (x : Nat) : Nat := if x = 0 then 0 else 96 + x
def g5 (x : Nat) : Nat := x
def pad (ls : List Nat) : List Nat := ls ++ List.replicate (8 - ls.length) 0
def wid (ls : List Nat) : Nat := pk5 ls * 32 ^ (8 - ls.length)
theorem pk5_dg (ls : List Nat) : pk5 ls = dg 32 g5 0 ls := rfl
theorem pk8_dg (ls : List Nat) : pk8 ls = dg 256 (fun x => 96 + x) 0 ls * 256 ^ (8 - ls.length) := rfl
theorem pad_len {ls : List Nat} (h : okName ls) : (pad ls).length = 8 := by
  unfold pad
  rw [List.length_append, List.length_replicate]
  have := h.2.1
  omega
theorem pad_mem {ls : List Nat} (h : okName ls) {x : Nat} (hx : x ∈ pad ls) : x ≤ 26 := by
  unfold pad at hx
  rcases List.mem_append.mp hx with z | z
  · exact (h.2.2 x z).2
  · rw [(List.mem_replicate.mp z).2]
    omega
theorem g8_le {x : Nat} (h : x ≤ 26) : g8 x ≤ 122 := by
  unfold g8
  by_cases z : x = 0
  · rw [if_pos z]; omega
  · rw [if_neg z]; omega
theorem g8_ord {x y : Nat} : g8 x < g8 y ↔ x < y := by
  unfold g8
  by_cases z : x = 0
  · by_cases z2 : y = 0
    · rw [if_pos z, if_pos z2]; omega
    · rw [if_pos z, if_neg z2]; omega
  · by_cases z2 : y = 0
    · rw [if_neg z, if_pos z2]; omega
    · rw [if_neg z, if_neg z2]; omega
theorem pk8_pad {ls : List Nat} (h : okName ls) : pk8 ls = dg 256 g8 0 (pad ls) := by
  unfold pad
  rw [dg_app, dg_rep rfl, pk8_dg]
  congr 1
  exact dg_congr (fun x hx => (if_neg (by have := h.2.2 x hx; omega)).symm)
theorem wid_pad (ls : List Nat) : wid ls = dg 32 g5 0 (pad ls) := by
  unfold pad wid
  rw [dg_app, dg_rep rfl, pk5_dg]
theorem ok_cons {ls : List Nat} (h : okName ls) : ∃ x t, ls = x :: t ∧ 1 ≤ x ∧ x ≤ 26 := by
  cases ls with
  | nil => exact absurd h.1 (by decide)
  | cons x t => exact ⟨x, t, rfl, h.2.2 x (List.mem_cons_self ..)⟩
theorem pk8_bd {ls : List Nat} (h : okName ls) : 1 ≤ pk8 ls ∧ pk8 ls < 2 ^ 63 := by
  obtain ⟨x, t, rfl, x1, x2⟩ := ok_cons h
  have hl := pad_len h
  have hp : ∃ r, pad (x :: t) = x :: r := ⟨t ++ List.replicate (8 - (x :: t).length) 0, rfl⟩
  obtain ⟨r, hr⟩ := hp
  rw [hr, List.length_cons] at hl
  have hl7 : r.length = 7 := by omega
  have hr2 := dg_lt (B := 256) (g := g8) (ls := r) (fun y hy => by
    have : y ∈ pad (x :: t) := by rw [hr]; exact List.mem_cons_of_mem _ hy
    have := g8_le (pad_mem h this)
    omega)
  have g1 : g8 x = 96 + x := if_neg (by omega)
  rw [pk8_pad h, hr, dg_cons0, g1]
  rw [hl7] at hr2 ⊢
  omega
theorem pk5_bd {ls : List Nat} (h : okName ls) : 32 ^ (ls.length - 1) ≤ pk5 ls ∧ pk5 ls < 32 ^ ls.length ∧ pk5 ls < 1099511627776 ∧ 1 ≤ pk5 ls := by
  have h1 : pk5 ls < 32 ^ ls.length := dg_lt (B := 32) (g := g5) (fun x hx => by
    have := h.2.2 x hx
    show x < 32
    omega)
  have h2 : (32 : Nat) ^ ls.length ≤ 32 ^ 8 := Nat.pow_le_pow_right (by decide) h.2.1
  obtain ⟨x, t, rfl, x1, x2⟩ := ok_cons h
  have h3 : 32 ^ t.length ≤ pk5 (x :: t) := dg_ge (B := 32) (g := g5) x1
  have h4 : 0 < 32 ^ t.length := Nat.pow_pos (by decide)
  refine ⟨h3, h1, ?_, by omega⟩
  have : (32 : Nat) ^ 8 = 1099511627776 := by decide
  omega
theorem wid_bd {ls : List Nat} (h : okName ls) : wid ls < 2 ^ 63 := by
  have h1 := dg_lt (B := 32) (g := g5) (ls := pad ls) (fun x hx => by
    have := pad_mem h hx
    show x < 32
    omega)
  rw [← wid_pad, pad_len h] at h1
  omega
theorem lN_inj {a b : Nat} (ha : a < 2 ^ 63) (hb : b < 2 ^ 63) : lN a = lN b ↔ a = b := by
  refine ⟨fun e => ?_, fun e => by rw [e]⟩
  have := congrArg Int64.toInt e
  rw [pf_lI ha, pf_lI hb] at this
  omega
theorem lN_ltI {a b : Nat} (ha : a < 2 ^ 63) (hb : b < 2 ^ 63) : lN a < lN b ↔ a < b := by
  rw [Int64.lt_iff_toInt_lt, pf_lI ha, pf_lI hb]
  omega
theorem pk5_inj {p q : List Nat} (hp : okName p) (hq : okName q) (e : pk5 p = pk5 q) : p = q := by
  obtain ⟨a1, a2, -, -⟩ := pk5_bd hp
  obtain ⟨b1, b2, -, -⟩ := pk5_bd hq
  have hp1 := hp.1
  have hq1 := hq.1
  have el : p.length = q.length := by
    rcases Nat.lt_trichotomy p.length q.length with z | z | z
    · have : (32 : Nat) ^ p.length ≤ 32 ^ (q.length - 1) := Nat.pow_le_pow_right (by decide) (by omega)
      omega
    · exact z
    · have : (32 : Nat) ^ q.length ≤ 32 ^ (p.length - 1) := Nat.pow_le_pow_right (by decide) (by omega)
      omega
  exact dg_inj (B := 32) (g := g5) p q el (fun x hx => by have := hp.2.2 x hx; show x < 32; omega) (fun x hx => by have := hq.2.2 x hx; show x < 32; omega) (fun x y _ _ h => h) e
theorem pad_inj {p q : List Nat} (hp : okName p) (hq : okName q) (e : pad p = pad q) : p = q := by
  have : wid p = wid q := by rw [wid_pad, wid_pad, e]
  have f : ∀ {ls : List Nat}, okName ls → (pad ls).filter (fun x => decide (x ≠ 0)) = ls := fun {ls} h => by
    unfold pad
    rw [List.filter_append, List.filter_eq_self.mpr (fun x hx => by have := h.2.2 x hx; exact decide_eq_true (by omega)), List.filter_eq_nil_iff.mpr (fun x hx => by rw [(List.mem_replicate.mp hx).2]; decide), List.append_nil]
  rw [← f hp, ← f hq, e]
theorem nm_eq8 {p q : List Nat} (hp : okName p) (hq : okName q) : lN (pk8 p) = lN (pk8 q) ↔ p = q := by
  rw [lN_inj (pk8_bd hp).2 (pk8_bd hq).2]
  refine ⟨fun e => pad_inj hp hq ?_, fun e => by rw [e]⟩
  rw [pk8_pad hp, pk8_pad hq] at e
  refine dg_inj (B := 256) (g := g8) _ _ ((pad_len hp).trans (pad_len hq).symm) (fun x hx => by have := g8_le (pad_mem hp hx); omega) (fun x hx => by have := g8_le (pad_mem hq hx); omega) (fun x y _ _ h => ?_) e
  have h1 := mt (g8_ord (x := x) (y := y)).mpr
  have h2 := mt (g8_ord (x := y) (y := x)).mpr
  omega
theorem nm_eq5 {p q : List Nat} (hp : okName p) (hq : okName q) : lN (pk5 p) = lN (pk5 q) ↔ p = q := by
  have a := pk5_bd hp
  have b := pk5_bd hq
  rw [lN_inj (by omega) (by omega)]
  exact ⟨pk5_inj hp hq, fun e => by rw [e]⟩
theorem nm_ord {p q : List Nat} (hp : okName p) (hq : okName q) : lN (pk8 p) < lN (pk8 q) ↔ lN (wid p) < lN (wid q) := by
  rw [lN_ltI (pk8_bd hp).2 (pk8_bd hq).2, lN_ltI (wid_bd hp) (wid_bd hq), pk8_pad hp, pk8_pad hq, wid_pad, wid_pad]
  refine dg_ord (pad p) (pad q) ((pad_len hp).trans (pad_len hq).symm) (fun x hx => ?_) (fun x hx => ?_) (fun x y _ _ => ⟨g8_ord, g8_ord⟩)
  · have := pad_mem hp hx
    have := g8_le this
    exact ⟨by omega, by show x < 32; omega⟩
  · have := pad_mem hq hx
    have := g8_le this
    exact ⟨by omega, by show x < 32; omega⟩
