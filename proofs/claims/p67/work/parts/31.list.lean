/-! A BUILDER as a list of letters, beside a picture S of what lies before k0 -/
def PB (G : GG) (S : Heap → Prop) (k0 b : Nat) (L : List Nat) (H : Heap) : Prop := ∃ q cap ml bs, (((k0 ≤ q ∧ b ≠ q) ∧ gA G b ∧ gA G q) ∧ (sb_Fit bs ∧ L.length ≤ cap ∧ cap ≤ 16 + 2 * L.length ∧ 16 ≤ cap) ∧ ∀ j, j < L.length → L.getD j 0 < 128 ∧ bs j = nI (L.getD j 0)) ∧ (SOb G b q ml (nI L.length) H ∧ SAr G q cap bs H) ∧ S H
/-- S speaks of what lies before k0, b aside -/
def SKB (k0 b : Nat) (S : Heap → Prop) : Prop := ∀ H H1 : Heap, S H → H.size ≤ H1.size → (∀ x : Nat, x < H.size → x < k0 → x ≠ b → H1[x]? = H[x]?) → S H1
def wlN (i : Nat) : List Nat := (lwByt.getD i []).map Int32.toNatClampNeg
theorem wl_ok : ∀ i, i < 11 → (wlN i).length = lwLen.getD i 0 ∧ ∀ j, j < 10 → j < (wlN i).length → (wlN i).getD j 0 < 128 ∧ (lwByt.getD i []).getD j 0 = nI ((wlN i).getD j 0) := by decide
def dgl (v : Nat) : List Nat := if v < 10 then [48 + v] else if v < 100 then [48 + v / 10, 48 + v % 10] else if v < 1000 then [48 + v / 100, 48 + v / 10 % 10, 48 + v % 10] else [48 + v / 1000, 48 + v / 100 % 10, 48 + v / 10 % 10, 48 + v % 10]
theorem dgl_len (v : Nat) : (dgl v).length = dg3 v := by
  unfold dgl dg3
  split
  · rfl
  · split
    · rfl
    · split <;> rfl
theorem dg3_le (v : Nat) : dg3 v ≤ 4 ∧ 1 ≤ dg3 v := by
  unfold dg3
  split
  · omega
  · split
    · omega
    · split <;> omega
theorem ga_l {L M : List Nat} {j : Nat} (h : j < L.length) : (L ++ M).getD j 0 = L.getD j 0 := by
  rw [List.getD_eq_getElem?_getD, List.getD_eq_getElem?_getD, List.getElem?_append_left h]
theorem ga_r {L M : List Nat} {j : Nat} (h : L.length ≤ j) : (L ++ M).getD j 0 = M.getD (j - L.length) 0 := by
  rw [List.getD_eq_getElem?_getD, List.getD_eq_getElem?_getD, List.getElem?_append_right h]
theorem c48 (d : Nat) : 48 + nI d = nI (48 + d) := nI_add 48 d
theorem fit_dg {d : Nat} (h : d < 10) : fits .byte (.int (nI (48 + d))) = true := by
  revert h
  revert d
  decide
theorem fit_upd {f : Nat → Int32} {k : Nat} {x : Int32} (hf : sb_Fit f) (hx : fits .byte (.int x) = true) : sb_Fit (upd f k x) := fun j => by
  by_cases h : j = k
  · subst h; rw [upd_eq]; exact hx
  · rw [upd_ne h]; exact hf j
theorem fit_cpy {f g : Nat → Int32} {a n : Nat} (hg : sb_Fit g) (hf : ∀ j, j < n → fits .byte (.int (f j)) = true) : sb_Fit (va_cpy f g 0 a n) := fun j => by
  unfold va_cpy
  split
  · next h => exact hf _ (by omega)
  · exact hg j
theorem ncap_up {cap k : Nat} (h1 : cap ≤ 16 + 2 * k) : ncap cap k ≤ 16 + 2 * k := by
  unfold ncap
  split
  · omega
  · split <;> omega
/-- the digits of v behind a letters -/
theorem gc_ok {bs : Nat → Int32} {a v : Nat} (hv : v < 10000) (hf : sb_Fit bs) : sb_Fit (gcB bs (a + dg3 v) v) ∧ (∀ j, j < a → gcB bs (a + dg3 v) v j = bs j) ∧ ∀ j, j < dg3 v → (dgl v).getD j 0 < 128 ∧ gcB bs (a + dg3 v) v (a + j) = nI ((dgl v).getD j 0) := by
  unfold gcB dg3 dgl
  by_cases h1 : v < 10
  · simp only [if_pos h1, c48]
    refine ⟨fit_upd hf (fit_dg h1), fun j hj => upd_ne (by omega), fun j hj => ?_⟩
    have : j = 0 := by omega
    subst this
    exact ⟨by show 48 + v < 128; omega, by rw [show a + 1 - 1 = a + 0 by omega, upd_eq]; rfl⟩
  · by_cases h2 : v < 100
    · simp only [if_neg h1, if_pos h2, c48]
      refine ⟨fit_upd (fit_upd hf (fit_dg (by omega))) (fit_dg (by omega)), fun j hj => by rw [upd_ne (by omega), upd_ne (by omega)], fun j hj => ?_⟩
      match j, hj with
      | 0, _ => exact ⟨by show 48 + v / 10 < 128; omega, by rw [show a + 2 - 2 = a + 0 by omega, upd_eq]; rfl⟩
      | 1, _ => exact ⟨by show 48 + v % 10 < 128; omega, by rw [upd_ne (by omega), show a + 2 - 1 = a + 1 by omega, upd_eq]; rfl⟩
    · by_cases h3 : v < 1000
      · simp only [if_neg h1, if_neg h2, if_pos h3, c48]
        refine ⟨fit_upd (fit_upd (fit_upd hf (fit_dg (by omega))) (fit_dg (by omega))) (fit_dg (by omega)), fun j hj => by rw [upd_ne (by omega), upd_ne (by omega), upd_ne (by omega)], fun j hj => ?_⟩
        match j, hj with
        | 0, _ => exact ⟨by show 48 + v / 100 < 128; omega, by rw [show a + 3 - 3 = a + 0 by omega, upd_eq]; rfl⟩
        | 1, _ => exact ⟨by show 48 + v / 10 % 10 < 128; omega, by rw [upd_ne (by omega), show a + 3 - 2 = a + 1 by omega, upd_eq]; rfl⟩
        | 2, _ => exact ⟨by show 48 + v % 10 < 128; omega, by rw [upd_ne (by omega), upd_ne (by omega), show a + 3 - 1 = a + 2 by omega, upd_eq]; rfl⟩
      · simp only [if_neg h1, if_neg h2, if_neg h3, c48]
        refine ⟨fit_upd (fit_upd (fit_upd (fit_upd hf (fit_dg (by omega))) (fit_dg (by omega))) (fit_dg (by omega))) (fit_dg (by omega)), fun j hj => by rw [upd_ne (by omega), upd_ne (by omega), upd_ne (by omega), upd_ne (by omega)], fun j hj => ?_⟩
        match j, hj with
        | 0, _ => exact ⟨by show 48 + v / 1000 < 128; omega, by rw [show a + 4 - 4 = a + 0 by omega, upd_eq]; rfl⟩
        | 1, _ => exact ⟨by show 48 + v / 100 % 10 < 128; omega, by rw [upd_ne (by omega), show a + 4 - 3 = a + 1 by omega, upd_eq]; rfl⟩
        | 2, _ => exact ⟨by show 48 + v / 10 % 10 < 128; omega, by rw [upd_ne (by omega), upd_ne (by omega), show a + 4 - 2 = a + 2 by omega, upd_eq]; rfl⟩
        | 3, _ => exact ⟨by show 48 + v % 10 < 128; omega, by rw [upd_ne (by omega), upd_ne (by omega), upd_ne (by omega), show a + 4 - 1 = a + 3 by omega, upd_eq]; rfl⟩
theorem ch_by {x : Nat} (h : x < 128) : (nI x).toInt8.toInt32.toInt8.toInt32 = nI x ∧ ¬ 255 < nI x := by
  revert h
  revert x
  decide +kernel
/-- what the builder's calls touch -/
def KbA (b q : Nat) : Nat → Prop := fun x => x = b ∨ x = q
section PBROWS
variable {G : GG} {own : String} {cc : ByteArray} {p : Program} {l : Launch} {e : Env} {R : Room} {s : State} {m : MethodId} {args : Array Value} {below : List Frame} {meth : Method} {c : Code} {nL cells slots : Nat} {Q : State → Prop} {pc t : Nat} {lc : List (Nat × Value)} {st : List Value} {S : Heap → Prop} {k0 b : Nat} {L : List Nat}
/-- the new picture, from the callee's -/
theorem PB.mk (hS : SKB k0 b S) (hA : ∀ q, k0 ≤ q → gA G q) {M : List Nat} {q cap a2 cap2 q2 : Nat} {ml : Int32} {bs bs2 : Nat → Int32} {H H1 : Heap} (h : (((k0 ≤ q ∧ b ≠ q) ∧ gA G b ∧ gA G q) ∧ (sb_Fit bs ∧ L.length ≤ cap ∧ cap ≤ 16 + 2 * L.length ∧ 16 ≤ cap) ∧ ∀ j, j < L.length → L.getD j 0 < 128 ∧ bs j = nI (L.getD j 0)) ∧ (SOb G b q ml (nI L.length) H ∧ SAr G q cap bs H) ∧ S H)
    (hM : (L ++ M).length = a2) (hc : cap2 = ncap cap a2) (hE : SE (upK G (gn G) (KbA b q) H.size) b q2 cap2 ml (nI a2) bs2 H1) (hf : sb_Fit bs2) (hl : ∀ j, j < a2 → (L ++ M).getD j 0 < 128 ∧ bs2 j = nI ((L ++ M).getD j 0)) (hz : H.size ≤ H1.size) (ho : ∀ x : Nat, x < H.size → ¬ KbA b q x → H1[x]? = H[x]?) : PB G S k0 b (L ++ M) H1 := by
  obtain ⟨⟨⟨⟨g1, g2⟩, g3, g4⟩, ⟨g5, g6, g7, g70⟩, g8⟩, ⟨g9, g10⟩, g11⟩ := h
  obtain ⟨e1, ⟨e2, e3⟩, e4, e5⟩ := hE
  subst hM
  subst hc
  have hq : q < H.size := va_at.lt g10
  have hk2 : k0 ≤ q2 := by
    rcases e2 with (e | e) | e
    · exact absurd e.symm e3
    · omega
    · omega
  have hn := ncap_le cap (L ++ M).length
  refine ⟨q2, _, ml, bs2, ⟨⟨⟨hk2, e3⟩, g3, hA q2 hk2⟩, ⟨hf, hn.1, ncap_up ?_, Nat.le_trans g70 hn.2⟩, hl⟩, ⟨e4, e5⟩, hS H H1 g11 hz (fun x hx hk hb => ho x hx (fun hK => hK.elim hb (fun e => by omega)))⟩
  rw [List.length_append]
  omega
theorem J_bWord (hX : FX G own cc nL p s m args c) (hS : SKB k0 b S) (hA : ∀ q, k0 ≤ q → gA G q) {i index : Nat} (hi : i < 11) (hLn : L.length < 500) (hw : Cond.methodLink own index yJ4_append_15ec4 ∈ WALL) (hr : 6 ≤ R.frames ∧ 320 ≤ R.locals) (hf : cells + 1 ≤ R.cells ∧ slots + 1040 ≤ R.slots) (hcat : (st.map fun v => v.category).sum ≤ 8) (hdg : decode cc pc = .ok (.invokevirtual index, 3)) (ht : pc + 3 = t) (kk : J G p l e R s m args below meth c nL (cells + 1) (slots + 1040) Q (PB G S k0 b (L ++ wlN i)) t lc (.ref b :: st)) : J G p l e R s m args below meth c nL cells slots Q (PB G S k0 b L) pc lc (.ref (ga G (50 + i)) :: .ref b :: st) := by
  refine J_exE fun q => J_exE fun cap => J_exE fun ml => J_exE fun bs => J_pure fun hp => ?_
  obtain ⟨w1, w2⟩ := wl_ok i hi
  have w3 := lw_small i hi
  refine J_xV hX (n := gn G) (K := KbA b q) (fun x hx => hx.elim (fun h => h ▸ hp.1.2.1) (fun h => h ▸ hp.1.2.2)) (I1 := fun zz => SE (upK G (gn G) (KbA b q) zz) b q cap ml (nI L.length) bs) (P1 := fun zz v H => v = some (.ref b) ∧ Pas (upK G (gn G) (KbA b q) zz) b cap ml L.length bs i H) (I2 := fun v H => v = some (.ref b) ∧ PB G S k0 b (L ++ wlN i) H) [.ref (ga G (50 + i))] st (fun zz => ct_as4 (G := upK G (gn G) (KbA b q) zz) hi (by omega) (by omega) hp.2.1.2.1 hp.2.1.1) miJ4_append_15ec4 mvJ4_append_15ec4 cb11 (fun H h => ⟨_, h.1.1⟩)
    (fun H h => ⟨Or.inl (Or.inl rfl), ⟨Or.inl (Or.inr rfl), hp.1.1.2⟩, h.1.1, h.1.2⟩) (fun H H1 v h a z o => ⟨a.1, ?_⟩) hw ⟨rfl, rfl, hr.1, Nat.le_trans (by decide) hr.2⟩ rfl rfl hcat hf hdg ht (fun v => J_pure fun hv => by subst hv; exact kk)
  obtain ⟨-, q2, bs2, ⟨f1, f2⟩, hE⟩ := a
  refine PB.mk hS hA ⟨hp, h⟩ (by rw [List.length_append, w1]) rfl hE (fit_cpy f1 (fun j hj => lw_fits i hi j (by omega))) (fun j hj => ?_) z o
  by_cases hj2 : j < L.length
  · rw [ga_l hj2]
    refine ⟨(hp.2.2 j hj2).1, ?_⟩
    unfold va_cpy
    rw [if_neg (by omega), f2 j hj2]
    exact (hp.2.2 j hj2).2
  · rw [ga_r (by omega)]
    have h9 := w2 (j - L.length) (by omega) (by omega)
    refine ⟨h9.1, ?_⟩
    unfold va_cpy
    rw [if_pos ⟨by omega, by omega⟩, Nat.zero_add]
    exact h9.2
theorem J_bChar (hX : FX G own cc nL p s m args c) (hS : SKB k0 b S) (hA : ∀ q, k0 ≤ q → gA G q) {x index : Nat} (hx : x < 128) (hLn : L.length < 500) (hw : Cond.methodLink own index yJ4_append_cf468 ∈ WALL) (hr : 6 ≤ R.frames ∧ 320 ≤ R.locals) (hf : cells + 1 ≤ R.cells ∧ slots + 1040 ≤ R.slots) (hcat : (st.map fun v => v.category).sum ≤ 8) (hdg : decode cc pc = .ok (.invokevirtual index, 3)) (ht : pc + 3 = t) (kk : J G p l e R s m args below meth c nL (cells + 1) (slots + 1040) Q (PB G S k0 b (L ++ [x])) t lc (.ref b :: st)) : J G p l e R s m args below meth c nL cells slots Q (PB G S k0 b L) pc lc (.int (nI x) :: .ref b :: st) := by
  refine J_exE fun q => J_exE fun cap => J_exE fun ml => J_exE fun bs => J_pure fun hp => ?_
  obtain ⟨w1, w2⟩ := ch_by hx
  refine J_xV hX (n := gn G) (K := KbA b q) (fun x hx => hx.elim (fun h => h ▸ hp.1.2.1) (fun h => h ▸ hp.1.2.2)) (I1 := fun zz => SE (upK G (gn G) (KbA b q) zz) b q cap ml (nI L.length) bs) (P1 := fun zz v H => v = some (.ref b) ∧ Pap (upK G (gn G) (KbA b q) zz) b cap ml L.length bs (nI x) H) (I2 := fun v H => v = some (.ref b) ∧ PB G S k0 b (L ++ [x]) H) [.int (nI x)] st (fun zz => ct_ac4 (G := upK G (gn G) (KbA b q) zz) (by omega) (by omega) hp.2.1.2.1 w2 hp.2.1.1) miJ4_append_cf468 mvJ4_append_cf468 cb11 (fun H h => ⟨_, h.1.1⟩)
    (fun H h => ⟨Or.inl (Or.inl rfl), ⟨Or.inl (Or.inr rfl), hp.1.1.2⟩, h.1.1, h.1.2⟩) (fun H H1 v h a z o => ⟨a.1, ?_⟩) hw ⟨rfl, rfl, hr.1, Nat.le_trans (by decide) hr.2⟩ rfl rfl hcat hf hdg ht (fun v => J_pure fun hv => by subst hv; exact kk)
  obtain ⟨-, q2, bs2, ⟨f1, f2, f3⟩, hE⟩ := a
  refine PB.mk hS hA ⟨hp, h⟩ (by rw [List.length_append]; rfl) rfl hE f1 (fun j hj => ?_) z o
  by_cases hj2 : j < L.length
  · rw [ga_l hj2]
    exact ⟨(hp.2.2 j hj2).1, (f2 j hj2).trans (hp.2.2 j hj2).2⟩
  · have ej : j = L.length := by omega
    subst ej
    rw [ga_r (Nat.le_refl _), Nat.sub_self]
    exact ⟨hx, f3.trans w1⟩
theorem J_bInt (hX : FX G own cc nL p s m args c) (hS : SKB k0 b S) (hA : ∀ q, k0 ≤ q → gA G q) {v index : Nat} (hv : v < 10000) (hLn : L.length < 500) (hL3 : 3 ≤ L.length) (hw : Cond.methodLink own index yJ4_append_bf812 ∈ WALL) (hr : 6 ≤ R.frames ∧ 320 ≤ R.locals) (hf : cells + 1 ≤ R.cells ∧ slots + 1040 ≤ R.slots) (hcat : (st.map fun v => v.category).sum ≤ 8) (hdg : decode cc pc = .ok (.invokevirtual index, 3)) (ht : pc + 3 = t) (kk : J G p l e R s m args below meth c nL (cells + 1) (slots + 1040) Q (PB G S k0 b (L ++ dgl v)) t lc (.ref b :: st)) : J G p l e R s m args below meth c nL cells slots Q (PB G S k0 b L) pc lc (.int (nI v) :: .ref b :: st) := by
  refine J_exE fun q => J_exE fun cap => J_exE fun ml => J_exE fun bs => J_pure fun hp => ?_
  have hd := dg3_le v
  refine J_xV hX (n := gn G) (K := KbA b q) (fun x hx => hx.elim (fun h => h ▸ hp.1.2.1) (fun h => h ▸ hp.1.2.2)) (I1 := fun zz => SE (upK G (gn G) (KbA b q) zz) b q cap ml (nI L.length) bs) (P1 := fun zz r H => r = some (.ref b) ∧ ∃ q2, ∃ bs2, (sb_Fit bs2 ∧ (∀ i, i < L.length → bs2 i = bs i)) ∧ SE (upK G (gn G) (KbA b q) zz) b q2 (ncap cap (L.length + dg3 v)) ml (nI (L.length + dg3 v)) (gcB bs2 (L.length + dg3 v) v) H) (I2 := fun r H => r = some (.ref b) ∧ PB G S k0 b (L ++ dgl v) H) [.int (nI v)] st (fun zz => ct_an4 (G := upK G (gn G) (KbA b q) zz) (by omega) hL3 (by omega) hp.2.1.2.1 hv hp.2.1.1) miJ4_append_bf812 mvJ4_append_bf812 cb11 (fun H h => ⟨_, h.1.1⟩)
    (fun H h => ⟨Or.inl (Or.inl rfl), ⟨Or.inl (Or.inr rfl), hp.1.1.2⟩, h.1.1, h.1.2⟩) (fun H H1 r h a z o => ⟨a.1, ?_⟩) hw ⟨rfl, rfl, hr.1, Nat.le_trans (by decide) hr.2⟩ rfl rfl hcat hf hdg ht (fun r => J_pure fun hr9 => by subst hr9; exact kk)
  obtain ⟨-, q2, bs2, ⟨f1, f2⟩, hE⟩ := a
  obtain ⟨u1, u2, u3⟩ := gc_ok (a := L.length) hv f1
  refine PB.mk hS hA ⟨hp, h⟩ (by rw [List.length_append, dgl_len]) rfl hE u1 (fun j hj => ?_) z o
  by_cases hj2 : j < L.length
  · rw [ga_l hj2]
    exact ⟨(hp.2.2 j hj2).1, (u2 j hj2).trans ((f2 j hj2).trans (hp.2.2 j hj2).2)⟩
  · rw [ga_r (by omega)]
    have h9 := u3 (j - L.length) (by omega)
    rw [show L.length + (j - L.length) = j by omega] at h9
    exact h9
end PBROWS
