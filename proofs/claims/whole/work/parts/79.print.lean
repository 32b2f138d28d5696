set_option maxHeartbeats 400000
/-! printReceipt: both print the same bytes -/
def gs (g : Nat → Nat) (f b : Nat) : Nat → Nat := fun j => if j = f then b else g j
def gl (g : Nat → Nat) (f : Nat) : List Nat → Nat → Nat
  | [] => g
  | b :: bs => gl (gs g f b) (f + 1) bs
theorem gl_bd {f : Nat} : ∀ {bs : List Nat} {g : Nat → Nat} {f : Nat}, (∀ j, j < f → g j < 128) → (∀ b ∈ bs, b < 128) → ∀ j, j < f + bs.length → gl g f bs j < 128
  | [], g, f, h, _, j, hj => h j hj
  | b :: bs, g, f, h, hb, j, hj => by
    refine gl_bd (f := 0) (bs := bs) (fun i hi => ?_) (fun x hx => hb x (List.mem_cons_of_mem _ hx)) j (by rw [List.length_cons] at hj; omega)
    unfold gs
    by_cases z : i = f
    · rw [if_pos z]; exact hb b (List.mem_cons_self ..)
    · rw [if_neg z]; exact h i (by omega)
def OA (A : MM) (f : Nat) (g : Nat → Nat) : Prop := (∃ cap, cap ≤ 60 ∧ f ≤ cap ∧ A.1 0 4 = nI cap) ∧ A.1 0 3 = nI f ∧ ∀ j, j < f → A.1 1 j = nI (g j)
def OB (B : MM) (f : Nat) (g : Nat → Nat) : Prop := B.1 0 33 = nI f ∧ ∀ j, j < f → B.1 14 j = nI (g j)
theorem ncap_ok {cap k : Nat} (h : cap ≤ 60) (hk : k ≤ 27) : ncap cap k ≤ 60 ∧ k ≤ ncap cap k := by
  unfold ncap
  by_cases z : k ≤ cap
  · rw [if_pos z]; omega
  · rw [if_neg z]
    by_cases z2 : k - cap < cap + 2
    · rw [if_pos z2]; omega
    · rw [if_neg z2]; omega
theorem b128 {b : Nat} (h : b < 128) : (nI b).toInt8.toInt32.toInt8.toInt32 = nI b := by
  have : ∀ k : Fin 128, (nI k.val).toInt8.toInt32.toInt8.toInt32 = nI k.val := by decide +kernel
  exact this ⟨b, h⟩
theorem u128 {b : Nat} (h : b < 128) : ((nI b).toUInt32 % 65536).toInt32 = nI b := by
  have : ∀ k : Fin 128, ((nI k.val).toUInt32 % 65536).toInt32 = nI k.val := by decide +kernel
  exact this ⟨b, h⟩
theorem cAp {w : Wd} {f b : Nat} {g : Nat → Nat} (h : OA (w 14) f g) (hf : f ≤ 26) (hb : b < 128) : ∃ w', FsbAp w (nI b) = some w' ∧ (∀ r, r ≠ 14 → w' r = w r) ∧ OA (w' 14) (f + 1) (gs g f b) := by
  obtain ⟨⟨cap, c1, c2, c3⟩, h3, h1⟩ := h
  have eN : sbN w = f := by
    unfold sbN
    rw [h3, nI_c (by omega)]
  have eC : sbC w = cap := by
    unfold sbC
    rw [c3, nI_c (by omega)]
  obtain ⟨n1, n2⟩ := ncap_ok (cap := cap) (k := f + 1) c1 (by omega)
  have hl : ¬ (255 : Int32) < nI b := by
    have : ¬ nI 255 < nI b := by
      rw [nI_ltI (by omega) (by omega)]
      omega
    exact this
  unfold FsbAp
  rw [eN, eC, gd_t (by rw [decide_eq_true (show f < 50 by omega), decide_eq_true c1, decide_eq_false hl]; rfl), b128 hb]
  refine ⟨_, rfl, fun r hr => sW_o _ _ hr, ⟨ncap cap (f + 1), n1, n2, ?_⟩, ?_, fun j hj => ?_⟩
  · rw [sW_s, sI_at, if_pos rfl]
  · rw [sW_s, sI_at, if_neg (by decide), sI_at, if_pos rfl]
  · rw [sW_s, sI_o _ _ _ (by decide), sI_o _ _ _ (by decide), sI_at]
    unfold gs
    by_cases z : j = f
    · rw [if_pos z, if_pos z]
    · rw [if_neg z, if_neg z]; exact h1 j (by omega)
/-- the frame of the reference's printing -/
def FB (v v' : Wd) : Prop := (∀ r, r ≠ 15 → v' r = v r) ∧ (∀ j, j ≠ 0 → j ≠ 14 → (v' 15).1 j = (v 15).1 j) ∧ ∀ k, k ≠ 33 → (v' 15).1 0 k = (v 15).1 0 k
theorem FB.refl (v : Wd) : FB v v := ⟨fun _ _ => rfl, fun _ _ _ => rfl, fun _ _ => rfl⟩
theorem FB.trans {v v1 v2 : Wd} (h : FB v v1) (h2 : FB v1 v2) : FB v v2 := ⟨fun r hr => (h2.1 r hr).trans (h.1 r hr), fun j a b => (h2.2.1 j a b).trans (h.2.1 j a b), fun k a => (h2.2.2 k a).trans (h.2.2 k a)⟩
theorem rTell {v : Wd} {f b : Nat} {g : Nat → Nat} (h : OB (v 15) f g) (hf : f < 60) : ∃ v', FX13_tell v (nI b) = some v' ∧ FB v v' ∧ OB (v' 15) (f + 1) (gs g f b) := by
  obtain ⟨h33, h14⟩ := h
  generalize hw2 : sW v 15 (sI (v 15) 14 f (nI b)) = w2
  have a15 : w2 15 = sI (v 15) 14 f (nI b) := by rw [← hw2, sW_s]
  have a33 : (w2 15).1 0 33 = nI f := by rw [a15, sI_o _ _ _ (by decide)]; exact h33
  unfold FX13_tell
  rw [h33, gd_t (inI (by omega) (by omega)), nI_c (by omega), hw2, bnd_s, a33, nI_1, bnd_s]
  refine ⟨_, rfl, ⟨fun r hr => ?_, fun j a b' => ?_, fun k hk => ?_⟩, ?_, fun j hj => ?_⟩
  · rw [sW_o _ _ hr, ← hw2, sW_o _ _ hr]
  · rw [sW_s, sI_o _ _ _ a, a15, sI_o _ _ _ b']
  · rw [sW_s, sI_at, if_neg hk, a15, sI_o _ _ _ (by decide)]
  · rw [sW_s, sI_at, if_pos rfl]
  · rw [sW_s, sI_o _ _ _ (by decide), a15, sI_at]
    unfold gs
    by_cases z : j = f
    · rw [if_pos z, if_pos z]
    · rw [if_neg z, if_neg z]; exact h14 j (by omega)
def apps : Wd → List Nat → Option Wd
  | w, [] => some w
  | w, b :: bs => bo1 (FsbAp w (nI b)) fun w2 => apps w2 bs
def tells : Wd → List Nat → Option Wd
  | w, [] => some w
  | w, b :: bs => bo1 (FX13_tell w (nI b)) fun w2 => tells w2 bs
theorem cApps : ∀ {bs : List Nat} {w : Wd} {f : Nat} {g : Nat → Nat}, OA (w 14) f g → f + bs.length ≤ 27 → (∀ b ∈ bs, b < 128) → ∃ w', apps w bs = some w' ∧ (∀ r, r ≠ 14 → w' r = w r) ∧ OA (w' 14) (f + bs.length) (gl g f bs)
  | [], w, f, g, h, _, _ => ⟨w, rfl, fun _ _ => rfl, h⟩
  | b :: bs, w, f, g, h, hf, hb => by
    rw [List.length_cons] at hf
    obtain ⟨w1, e1, o1, h1⟩ := cAp h (by omega) (hb b (List.mem_cons_self ..))
    obtain ⟨w2, e2, o2, h2⟩ := cApps (bs := bs) h1 (by omega) (fun x hx => hb x (List.mem_cons_of_mem _ hx))
    refine ⟨w2, ?_, fun r hr => (o2 r hr).trans (o1 r hr), ?_⟩
    · unfold apps
      rw [e1, bo1_s, e2]
    · rw [List.length_cons, show f + (bs.length + 1) = f + 1 + bs.length by omega]
      exact h2
theorem rTells : ∀ {bs : List Nat} {v : Wd} {f : Nat} {g : Nat → Nat}, OB (v 15) f g → f + bs.length ≤ 59 → ∃ v', tells v bs = some v' ∧ FB v v' ∧ OB (v' 15) (f + bs.length) (gl g f bs)
  | [], v, f, g, h, _ => ⟨v, rfl, FB.refl v, h⟩
  | b :: bs, v, f, g, h, hf => by
    rw [List.length_cons] at hf
    obtain ⟨w1, e1, o1, h1⟩ := rTell (b := b) h (by omega)
    obtain ⟨w2, e2, o2, h2⟩ := rTells (bs := bs) h1 (by omega)
    refine ⟨w2, ?_, o1.trans o2, ?_⟩
    · unfold tells
      rw [e1, bo1_s, e2]
    · rw [List.length_cons, show f + (bs.length + 1) = f + 1 + bs.length by omega]
      exact h2
/-- a name's bytes -/
def nlL (ls : List Nat) : Nat → Nat → List Nat
  | _, 0 => []
  | i, d + 1 => (96 + ls.getD i 0) :: nlL ls (i + 1) d
theorem nlL_len (ls : List Nat) : ∀ i d, (nlL ls i d).length = d
  | _, 0 => rfl
  | i, d + 1 => by
    show ((96 + ls.getD i 0) :: nlL ls (i + 1) d).length = d + 1
    rw [List.length_cons, nlL_len]
theorem ok_getD {ls : List Nat} (h : okName ls) {k : Nat} (hk : k < ls.length) : 1 ≤ ls.getD k 0 ∧ ls.getD k 0 ≤ 26 := by
  refine h.2.2 _ ?_
  rw [List.getD_eq_getElem?_getD, List.getElem?_eq_getElem hk]
  exact List.getElem_mem hk
theorem nlL_bd {ls : List Nat} (h : okName ls) : ∀ i d, i + d ≤ ls.length → ∀ b ∈ nlL ls i d, b < 128
  | _, 0, _, b, hb => absurd hb (List.not_mem_nil)
  | i, d + 1, hi, b, hb => by
    rcases List.mem_cons.mp hb with z | z
    · have := ok_getD h (k := i) (by omega)
      omega
    · exact nlL_bd h (i + 1) d (by omega) b z
theorem cName {ls : List Nat} (h : okName ls) : ∀ (d i : Nat) (w : Wd), i + d = ls.length → FpnK (8 - i) w (lN (pk8 ls)) (nI i) = apps w (nlL ls i d) := by
  have h8 := h.2.1
  have skip : ∀ (e i : Nat) (w : Wd), i + e = 8 → ls.length ≤ i → FpnK e w (lN (pk8 ls)) (nI i) = some w := by
    intro e
    induction e with
    | zero =>
      intro i w hi _
      unfold FpnK
      rw [show i = 8 by omega, if_pos (show (8 : Int32) ≤ nI 8 by decide)]
    | succ e ih =>
      intro i w hi hl
      unfold FpnK
      have hn : ¬ (8 : Int32) ≤ nI i := lt8 (by omega)
      have eL : FX12_letterOf (lN (pk8 ls)) (nI i) = -1 := by rw [cLetter h (by omega), if_neg (by omega)]
      rw [if_neg hn, eL, if_pos rfl, nI_1]
      exact ih (i + 1) w (by omega) (by omega)
  intro d
  induction d with
  | zero =>
    intro i w hi
    exact skip (8 - i) i w (by omega) (by omega)
  | succ d ih =>
    intro i w hi
    have hk := ok_getD h (k := i) (by omega)
    have hn : ¬ (8 : Int32) ≤ nI i := lt8 (by omega)
    have hne : ¬ nI (96 + ls.getD i 0) = (-1 : Int32) := nI_m1 (by omega)
    rw [show 8 - i = (8 - (i + 1)) + 1 by omega]
    unfold FpnK nlL apps
    have eL : FX12_letterOf (lN (pk8 ls)) (nI i) = nI (96 + ls.getD i 0) := by rw [cLetter h (by omega), if_pos (by omega)]
    rw [if_neg hn, eL, if_neg hne, u128 (by omega), nI_1]
    congr 1
    funext w2
    exact ih (i + 1) w2 (by omega)
theorem rName {n : Nat} (hn : 100 ≤ n) {ls : List Nat} (h : okName ls) : ∀ (d i k : Nat) (v : Wd), i + d = ls.length → d < k → FX13_tellName_L2 n k v (lN (pk5 ls)) (nI i) = tells v (nlL ls i d) := by
  have h8 := h.2.1
  intro d
  induction d with
  | zero =>
    intro i k v hi hk
    obtain ⟨k, rfl⟩ : ∃ k', k = k' + 1 := ⟨k - 1, by omega⟩
    simp only [FX13_tellName_L2]
    rw [rLength hn h, bo1_s, if_pos (nI_le (by omega) (by omega))]
    rfl
  | succ d ih =>
    intro i k v hi hk
    obtain ⟨k, rfl⟩ : ∃ k', k = k' + 1 := ⟨k - 1, by omega⟩
    simp only [FX13_tellName_L2]
    rw [rLength hn h, bo1_s, if_neg (nI_ge (by omega) (by omega)), rLetter hn h (by omega), bo1_s, nI_1]
    unfold nlL tells
    congr 1
    funext w2
    exact ih (i + 1) k w2 (by omega) (by omega)
/-- the bytes of the walls' echoes -/
def mkB (mk bk q : Nat) : Nat := if q < bk then (if mk / 2 ^ q % 2 = 1 then 104 else 108) else 46
def mlL (mk bk : Nat) : Nat → Nat → List Nat
  | _, 0 => []
  | i, d + 1 => mkB mk bk i :: mlL mk bk (i + 1) d
theorem mlL_len (mk bk : Nat) : ∀ i d, (mlL mk bk i d).length = d
  | _, 0 => rfl
  | i, d + 1 => by
    show (mkB mk bk i :: mlL mk bk (i + 1) d).length = d + 1
    rw [List.length_cons, mlL_len]
theorem mkB_bd (mk bk q : Nat) : mkB mk bk q < 128 := by
  unfold mkB
  by_cases z : q < bk
  · rw [if_pos z]
    by_cases z2 : mk / 2 ^ q % 2 = 1
    · rw [if_pos z2]; omega
    · rw [if_neg z2]; omega
  · rw [if_neg z]; omega
theorem mlL_bd (mk bk : Nat) : ∀ i d, ∀ b ∈ mlL mk bk i d, b < 128
  | _, 0, b, hb => absurd hb (List.not_mem_nil)
  | i, d + 1, b, hb => by
    rcases List.mem_cons.mp hb with z | z
    · rw [z]; exact mkB_bd _ _ _
    · exact mlL_bd mk bk (i + 1) d b z
theorem bit16 {mk q : Nat} (h : mk < 16) (hq : q < 4) : ((nI mk >>> (nI q &&& 31)) &&& 1 = 1) ↔ mk / 2 ^ q % 2 = 1 := by
  have : ∀ m : Fin 16, ∀ k : Fin 4, ((nI m.val >>> (nI k.val &&& 31)) &&& 1 = 1) ↔ m.val / 2 ^ k.val % 2 = 1 := by decide +kernel
  exact this ⟨mk, h⟩ ⟨q, hq⟩
theorem cMark {M : MM} {j mk bk q : Nat} (h9 : M.1 j 9 = nI bk) (h10 : M.1 j 10 = nI mk) (hm : mk < 16) (hq : q < 4) (hb : bk ≤ 4) : FX8_signOfEcho M j (nI (q + 1)) = nI (mkB mk bk q) := by
  unfold FX8_signOfEcho mkB
  rw [h9, h10, nI_pred]
  by_cases z : q < bk
  · rw [if_pos (nI_le (by omega) (by omega)), if_pos z]
    by_cases z2 : mk / 2 ^ q % 2 = 1
    · rw [if_pos ((bit16 hm hq).mpr z2), if_pos z2]; rfl
    · rw [if_neg (fun y => z2 ((bit16 hm hq).mp y)), if_neg z2]; rfl
  · rw [if_neg (nI_ge (by omega) (by omega)), if_neg z]; rfl
theorem rMark {w : Wd} {i mk bk q : Nat} (hi : i < 30) (h7 : shF (row w) i 7 = nI bk) (h8 : shF (row w) i 8 = nI mk) (hm : mk < 16) (hq : q < 4) (hb : bk ≤ 4) : FX13_markOf w (nI i) (nI q) = some (nI (mkB mk bk q)) := by
  unfold FX13_markOf mkB
  rw [rS7 hi, bo1_s, h7]
  by_cases z : q < bk
  · rw [if_pos (nI_lt z (by omega)), if_pos z, rS8 hi, bo1_s, h8, bnd_s]
    unfold FX13_has
    by_cases z2 : mk / 2 ^ q % 2 = 1
    · rw [if_pos ((bit16 hm hq).mpr z2), if_pos z2, if_pos rfl]; rfl
    · rw [if_neg (fun y => z2 ((bit16 hm hq).mp y)), if_neg z2, if_neg (by decide)]; rfl
  · rw [if_neg (by rw [nI_ltI (by omega) (by omega)]; exact z), if_neg z]; rfl
/-- a number's digits -/
def dlL (v : Nat) : List Nat := if v < 10 then [48 + v] else if v < 100 then [48 + v / 10, 48 + v % 10] else [48 + v / 100, 48 + v / 10 % 10, 48 + v % 10]
theorem dlL_len {v : Nat} : (dlL v).length = dg3 v := by
  unfold dlL dg3
  by_cases z : v < 10
  · rw [if_pos z, if_pos z]; rfl
  · rw [if_neg z, if_neg z]
    by_cases z2 : v < 100
    · rw [if_pos z2, if_pos z2]; rfl
    · rw [if_neg z2, if_neg z2]; rfl
theorem dg3_le (v : Nat) : 1 ≤ dg3 v ∧ dg3 v ≤ 3 := by
  unfold dg3
  by_cases z : v < 10
  · rw [if_pos z]; omega
  · rw [if_neg z]
    by_cases z2 : v < 100
    · rw [if_pos z2]; omega
    · rw [if_neg z2]; omega
theorem dlL_bd {v : Nat} (h : v < 1000) : ∀ b ∈ dlL v, b < 128 := by
  unfold dlL
  by_cases z : v < 10
  · rw [if_pos z]
    intro b hb
    rw [List.mem_singleton.mp hb]
    omega
  · rw [if_neg z]
    by_cases z2 : v < 100
    · rw [if_pos z2]
      intro b hb
      rcases List.mem_cons.mp hb with y | y
      · omega
      · rw [List.mem_singleton.mp y]; omega
    · rw [if_neg z2]
      intro b hb
      rcases List.mem_cons.mp hb with y | y
      · omega
      · rcases List.mem_cons.mp y with y | y
        · omega
        · rw [List.mem_singleton.mp y]; omega
theorem rem10 {a : Nat} (h : a < 2 ^ 31) : nI a - nI a / 10 * 10 = nI (a % 10) := pk_rem (d := 10) h (by decide) (by decide)
theorem div10 {a : Nat} (h : a < 2 ^ 31) : nI a / 10 = nI (a / 10) := pk_div (d := 10) h (by decide) (by decide)
theorem div100 {a : Nat} (h : a < 2 ^ 31) : nI a / 100 = nI (a / 100) := pk_div (d := 100) h (by decide) (by decide)
theorem add48 (a : Nat) : (48 : Int32) + nI a = nI (48 + a) := nI_add 48 a
theorem rNumber {w : Wd} {v : Nat} (h : v < 1000) : FX13_tellNumber w (nI v) = tells w (dlL v) := by
  have ob : ∀ x : Option Wd, (bo1 x fun w2 => some w2) = x := fun x => by cases x <;> rfl
  have e1 : (48 : Int32) + (nI v - nI v / 10 * 10) = nI (48 + v % 10) := by rw [rem10 (by omega), add48]
  have e2 : (48 : Int32) + (nI v / 10 - nI v / 10 / 10 * 10) = nI (48 + v / 10 % 10) := by rw [div10 (by omega), rem10 (by omega), add48]
  have e3 : (48 : Int32) + nI v / 100 = nI (48 + v / 100) := by rw [div100 (by omega), add48]
  unfold FX13_tellNumber
  rw [e1, e2, e3]
  by_cases z : v < 10
  · have a : nI v ≤ (99 : Int32) := nI_le (b := 99) (by omega) (by decide)
    have b : nI v ≤ (9 : Int32) := nI_le (b := 9) (by omega) (by decide)
    rw [if_pos a, if_pos b]
    unfold dlL
    rw [if_pos z, show v % 10 = v by omega]
    rfl
  · have b : ¬ nI v ≤ (9 : Int32) := nI_ge (a := 9) (by omega) (by omega)
    by_cases z2 : v < 100
    · have a : nI v ≤ (99 : Int32) := nI_le (b := 99) (by omega) (by decide)
      rw [if_pos a, if_neg b]
      unfold dlL
      rw [if_neg z, if_pos z2, show v / 10 % 10 = v / 10 by omega]
      rfl
    · have a : ¬ nI v ≤ (99 : Int32) := nI_ge (a := 99) (by omega) (by omega)
      rw [if_neg a]
      simp only [if_neg b]
      unfold dlL
      rw [if_neg z, if_neg z2]
      rfl
theorem cNumber {w : Wd} {f v : Nat} {g : Nat → Nat} (h : OA (w 14) f g) (h2 : 2 ≤ f) (hf : f ≤ 23) (hv : v < 1000) : ∃ w', FsbAi w (nI v) = some w' ∧ (∀ r, r ≠ 14 → w' r = w r) ∧ OA (w' 14) (f + (dlL v).length) (gl g f (dlL v)) := by
  obtain ⟨⟨cap, c1, c2, c3⟩, h3, h1⟩ := h
  have eN : sbN w = f := by
    unfold sbN
    rw [h3, nI_c (by omega)]
  have eC : sbC w = cap := by
    unfold sbC
    rw [c3, nI_c (by omega)]
  have hd := dg3_le v
  obtain ⟨n1, n2⟩ := ncap_ok (cap := cap) (k := f + dg3 v) c1 (by omega)
  unfold FsbAi
  rw [eN, eC, nI_c (by omega), gd_t (by rw [decide_eq_true h2, decide_eq_true (show f < 50 by omega), decide_eq_true c1, decide_eq_true (nI_pos' (by omega)), decide_eq_true hv]; rfl), dlL_len]
  refine ⟨_, rfl, fun r hr => sW_o _ _ hr, ⟨ncap cap (f + dg3 v), n1, n2, ?_⟩, ?_, fun j hj => ?_⟩
  · rw [sW_s, sI_at, if_pos rfl]
  · rw [sW_s, sI_at, if_neg (by decide), sI_at, if_pos rfl]
  · rw [sW_s, sI_o _ _ _ (by decide), sI_o _ _ _ (by decide)]
    show rowI (w 14).1 1 (gcB ((w 14).1 1) (f + dg3 v) v) 1 j = _
    rw [rowI_s]
    unfold gcB dlL dg3
    unfold dg3 at hj
    by_cases z : v < 10
    · rw [if_pos z] at hj
      rw [if_pos z, if_pos z, if_pos z]
      show upd ((w 14).1 1) (f + 1 - 1) (48 + nI v) j = nI (gs g f (48 + v) j)
      unfold gs
      by_cases y : j = f
      · rw [if_pos y, y, show f + 1 - 1 = f by omega, pk_us, add48]
      · rw [if_neg y, pk_un (by omega)]
        exact h1 j (by omega)
    · rw [if_neg z] at hj
      rw [if_neg z, if_neg z, if_neg z]
      by_cases z2 : v < 100
      · rw [if_pos z2] at hj
        rw [if_pos z2, if_pos z2, if_pos z2]
        show upd (upd ((w 14).1 1) (f + 2 - 1) (48 + nI (v % 10))) (f + 2 - 2) (48 + nI (v / 10)) j = nI (gs (gs g f (48 + v / 10)) (f + 1) (48 + v % 10) j)
        unfold gs
        by_cases y : j = f + 1
        · rw [if_pos y, y, pk_un (by omega), show f + 2 - 1 = f + 1 by omega, pk_us, add48]
        · rw [if_neg y]
          by_cases y2 : j = f
          · rw [if_pos y2, y2, show f + 2 - 2 = f by omega, pk_us, add48]
          · rw [if_neg y2, pk_un (by omega), pk_un (by omega)]
            exact h1 j (by omega)
      · rw [if_neg z2] at hj
        rw [if_neg z2, if_neg z2, if_neg z2]
        show upd (upd (upd ((w 14).1 1) (f + 3 - 1) (48 + nI (v % 10))) (f + 3 - 2) (48 + nI (v / 10 % 10))) (f + 3 - 3) (48 + nI (v / 100)) j = nI (gs (gs (gs g f (48 + v / 100)) (f + 1) (48 + v / 10 % 10)) (f + 1 + 1) (48 + v % 10) j)
        unfold gs
        by_cases y : j = f + 1 + 1
        · rw [if_pos y, y, pk_un (by omega), pk_un (by omega), show f + 3 - 1 = f + 1 + 1 by omega, pk_us, add48]
        · rw [if_neg y]
          by_cases y2 : j = f + 1
          · rw [if_pos y2, y2, pk_un (by omega), show f + 3 - 2 = f + 1 by omega, pk_us, add48]
          · rw [if_neg y2]
            by_cases y3 : j = f
            · rw [if_pos y3, y3, show f + 3 - 3 = f by omega, pk_us, add48]
            · rw [if_neg y3, pk_un (by omega), pk_un (by omega), pk_un (by omega)]
              exact h1 j (by omega)
