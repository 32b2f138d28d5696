set_option maxHeartbeats 400000
/-! one command of a script -/
def OneP (n : Nat) (w v : Wd) (k x nv nc : Nat) : Prop := ∃ (b : Bool) (e : Nat), FX1_faultIn n w 12 (5 + k) 1 = some e ∧ e < 4 ∧ FX13_may n v (nI x) = some b ∧ ((b = true ∧ e = 0 ∧ ∃ y M' v', FX1_applyTo n w 12 (5 + k) 1 = some (sW w 1 M') ∧ FX13_does n v (nI x) = some (y, v') ∧ Fr v v' ∧ RMc M' (row v') nv nc) ∨ (b = false ∧ e ≠ 0))
theorem o_sell {n : Nat} (hn : 1000 ≤ n) {w v : Wd} {k x nv nc ns : Nat} {bk : Nat → Nat} (hm : RelM (w 1) (row v) nv nc ns bk) (hx : x < 60) (h0 : (w 12).1 (5 + k) 0 = nI 4) (h7 : (v 15).1 7 x = nI 0) {cu va : Nat} (hcu : cu < nc) (hva : va < nv) (e2 : (w 12).1 (5 + k) 2 = nI cu) (e3 : (w 12).1 (5 + k) 3 = nI va) (r8 : (v 15).1 8 x = nI cu) (r9 : (v 15).1 9 x = nI va) (e4 : (w 12).1 (5 + k) 4 = (v 15).1 10 x) (e5 : (w 12).1 (5 + k) 5 = (v 15).1 11 x) : OneP n w v k x nv nc := by
  have hin : inb (nI x) 60 = true := inI hx (by decide)
  have hbv := hm.bv
  have hbc := hm.bc
  have hbs := hm.bs
  generalize hp : (v 15).1 10 x = p at e4
  generalize hq : (v 15).1 11 x = q at e5
  have hf : FX1_faultIn n w 12 (5 + k) 1 = bo1 (FX6_faultOfSale n (w 1) (nI cu) (nI va) p q) fun e => some e := by
    unfold FX1_faultIn
    rw [h0, nI_c (a := 4) (by decide), gd_t (by decide), gd_t (inI (by decide) (by decide)), nI_c (a := 4) (by decide), bnd_s, show swMap.getD 4 0 = 1 from rfl, if_pos rfl, e2, e3, e4, e5]
  have hmay : FX13_may n v (nI x) = if FX12_isWithin p 1 20 = true then (if FX12_isWithin q 1 4 = true then bo1 (FX13_refuses n v (nI cu) (nI va) q) fun x16 => if x16 = 0 then some true else some false else some false) else some false := by
    unfold FX13_may
    simp only [gd_t hin]
    rw [nI_c (a := x) (by omega), bnd_s, h7, if_pos (by decide), hp, hq, r8, r9, rLoud, rWalls, bnd_s, bnd_s]
  have hrr := rRefuses (n := n) (by omega) hm hcu hva q
  rw [hrr, bo1_s] at hmay
  cases h1 : FX12_isWithin p 1 20 with
  | false =>
    refine ⟨false, 2, ?_, by decide, ?_, Or.inr ⟨rfl, by decide⟩⟩
    · rw [hf]
      unfold FX6_faultOfSale FX6_hasCustomer FX6_hasValley
      rw [hm.c1, hm.v1, bnd_s, bnd_s, wi_nI hcu (by omega), bnd_s, if_pos rfl, wi_nI hva (by omega), bnd_s, if_pos rfl, h1, bnd_s, if_neg (by decide), bo1_s]
    · rw [hmay, h1, if_neg (by decide)]
  | true =>
    cases h2 : FX12_isWithin q 1 4 with
    | false =>
      refine ⟨false, 2, ?_, by decide, ?_, Or.inr ⟨rfl, by decide⟩⟩
      · rw [hf]
        unfold FX6_faultOfSale FX6_hasCustomer FX6_hasValley
        rw [hm.c1, hm.v1, bnd_s, bnd_s, wi_nI hcu (by omega), bnd_s, if_pos rfl, wi_nI hva (by omega), bnd_s, if_pos rfl, h1, bnd_s, if_pos rfl, h2, bnd_s, if_neg (by decide), bo1_s]
      · rw [hmay, h1, if_pos rfl, h2, if_neg (by decide)]
    | true =>
      rw [cFS (by omega) hm hcu hva h1 h2, bo1_s] at hf
      rw [h1, if_pos rfl, h2, if_pos rfl] at hmay
      by_cases hw : whyF (row v) ns cu va q = 0
      · rw [if_pos hw] at hf hmay
        have hns : ns < 30 := by
          by_cases zz : ns = 30
          · exfalso
            unfold whyF at hw
            rw [if_pos zz] at hw
            exact absurd hw (by decide)
          · omega
        obtain ⟨lo, l1, l2, rfl⟩ := wi_rng (a := 1) (b := 20) (by decide) (by decide) h1
        obtain ⟨od, o1, o2, rfl⟩ := wi_rng (a := 1) (b := 4) (by decide) (by decide) h2
        obtain ⟨y, M', v', q1, q2, q3, q4⟩ := sell_c hm hns hcu hva l1 l2 o1 o2
        refine ⟨true, 0, hf, by decide, hmay, Or.inl ⟨rfl, rfl, y, M', v', ?_, ?_, q3, q4⟩⟩
        · unfold FX1_applyTo
          rw [h0, nI_c (a := 4) (by decide), gd_t (by decide), gd_t (inI (by decide) (by decide)), nI_c (a := 4) (by decide), bnd_s, show swMap.getD 4 0 = 1 from rfl, if_pos rfl, e2, e3, e4, e5, q1, bo2_s, bnd_s]
        · unfold FX13_does
          simp only [gd_t hin]
          rw [nI_c (a := x) (by omega), bnd_s, h7, if_pos (by decide), r8, r9, hp, hq, q2, bo2_s]
      · rw [if_neg hw] at hf hmay
        exact ⟨false, 3, hf, by decide, hmay, Or.inr ⟨rfl, by decide⟩⟩
theorem o_fog {n : Nat} {w v : Wd} {k x nv nc ns : Nat} {bk : Nat → Nat} (hm : RelM (w 1) (row v) nv nc ns bk) (hx : x < 60) (h0 : (w 12).1 (5 + k) 0 = nI 5) (h7 : (v 15).1 7 x = nI 1) {va : Nat} (hva : va < nv) (e3 : (w 12).1 (5 + k) 3 = nI va) (r8 : (v 15).1 8 x = nI va) (e4 : (w 12).1 (5 + k) 4 = (v 15).1 9 x) : OneP n w v k x nv nc := by
  have hin : inb (nI x) 60 = true := inI hx (by decide)
  have hbv := hm.bv
  generalize hp : (v 15).1 9 x = p at e4
  have hf : FX1_faultIn n w 12 (5 + k) 1 = some (if FX12_isWithin p 0 9 = true then 0 else 2) := by
    unfold FX1_faultIn
    rw [h0, nI_c (a := 5) (by decide), gd_t (by decide), gd_t (inI (by decide) (by decide)), nI_c (a := 5) (by decide), bnd_s, show swMap.getD 5 0 = 2 from rfl, if_neg (by decide), if_pos rfl, e3, e4]
    unfold FX6_faultOfFog FX6_hasValley
    rw [hm.v1, bnd_s, bnd_s, wi_nI hva (by omega), bnd_s, if_pos rfl, bnd_s]
  have hmay : FX13_may n v (nI x) = some (FX12_isWithin p 0 9) := by
    unfold FX13_may
    simp only [gd_t hin]
    rw [nI_c (a := x) (by omega), bnd_s, h7, if_neg (by decide), if_pos (by decide), hp, isFog_w, bnd_s]
  cases h1 : FX12_isWithin p 0 9 with
  | false =>
    rw [h1, if_neg (by decide)] at hf
    rw [h1] at hmay
    exact ⟨false, 2, hf, by decide, hmay, Or.inr ⟨rfl, by decide⟩⟩
  | true =>
    rw [h1, if_pos rfl] at hf
    rw [h1] at hmay
    obtain ⟨d, -, d2, rfl⟩ := wi_rng (a := 0) (b := 9) (by decide) (by decide) h1
    obtain ⟨y, M', v', q1, q2, q3, q4⟩ := fog_c hm hva d2
    refine ⟨true, 0, hf, by decide, hmay, Or.inl ⟨rfl, rfl, y, M', v', ?_, ?_, q3, q4⟩⟩
    · unfold FX1_applyTo
      rw [h0, nI_c (a := 5) (by decide), gd_t (by decide), gd_t (inI (by decide) (by decide)), nI_c (a := 5) (by decide), bnd_s, show swMap.getD 5 0 = 2 from rfl, if_neg (by decide), if_pos rfl, e3, e4, q1, bo2_s, bnd_s]
    · unfold FX13_does
      simp only [gd_t hin]
      rw [nI_c (a := x) (by omega), bnd_s, h7, if_neg (by decide), if_pos (by decide), r8, hp, bnd_s, q2, bo2_s]
theorem o_price {n : Nat} {w v : Wd} {k x nv nc ns : Nat} {bk : Nat → Nat} (hm : RelM (w 1) (row v) nv nc ns bk) (hx : x < 60) (h0 : (w 12).1 (5 + k) 0 = nI 6) (h7 : (v 15).1 7 x = nI 2) {va : Nat} (hva : va < nv) (e3 : (w 12).1 (5 + k) 3 = nI va) (r8 : (v 15).1 8 x = nI va) (e4 : (w 12).1 (5 + k) 4 = (v 15).1 9 x) : OneP n w v k x nv nc := by
  have hin : inb (nI x) 60 = true := inI hx (by decide)
  have hbv := hm.bv
  generalize hp : (v 15).1 9 x = p at e4
  have hf : FX1_faultIn n w 12 (5 + k) 1 = some (if FX12_isWithin p 1 99 = true then 0 else 2) := by
    unfold FX1_faultIn
    rw [h0, nI_c (a := 6) (by decide), gd_t (by decide), gd_t (inI (by decide) (by decide)), nI_c (a := 6) (by decide), bnd_s, show swMap.getD 6 0 = 3 from rfl, if_neg (by decide), if_neg (by decide), if_pos rfl, e3, e4]
    unfold FX6_faultOfPrice FX6_hasValley
    rw [hm.v1, bnd_s, bnd_s, wi_nI hva (by omega), bnd_s, if_pos rfl, bnd_s]
  have hmay : FX13_may n v (nI x) = some (FX12_isWithin p 1 99) := by
    unfold FX13_may
    simp only [gd_t hin]
    rw [nI_c (a := x) (by omega), bnd_s, h7, if_neg (by decide), if_neg (by decide), if_pos (by decide), hp, isPrice_w, bnd_s]
  cases h1 : FX12_isWithin p 1 99 with
  | false =>
    rw [h1, if_neg (by decide)] at hf
    rw [h1] at hmay
    exact ⟨false, 2, hf, by decide, hmay, Or.inr ⟨rfl, by decide⟩⟩
  | true =>
    rw [h1, if_pos rfl] at hf
    rw [h1] at hmay
    obtain ⟨d, d1, d2, rfl⟩ := wi_rng (a := 1) (b := 99) (by decide) (by decide) h1
    obtain ⟨y, M', v', q1, q2, q3, q4⟩ := price_c hm hva d1 d2
    refine ⟨true, 0, hf, by decide, hmay, Or.inl ⟨rfl, rfl, y, M', v', ?_, ?_, q3, q4⟩⟩
    · unfold FX1_applyTo
      rw [h0, nI_c (a := 6) (by decide), gd_t (by decide), gd_t (inI (by decide) (by decide)), nI_c (a := 6) (by decide), bnd_s, show swMap.getD 6 0 = 3 from rfl, if_neg (by decide), if_neg (by decide), if_pos rfl, e3, e4, q1, bo2_s, bnd_s]
    · unfold FX13_does
      simp only [gd_t hin]
      rw [nI_c (a := x) (by omega), bnd_s, h7, if_neg (by decide), if_neg (by decide), if_pos (by decide), r8, hp, bnd_s, q2, bo2_s]
theorem o_depth {n : Nat} {w v : Wd} {k x nv nc ns : Nat} {bk : Nat → Nat} (hm : RelM (w 1) (row v) nv nc ns bk) (hx : x < 60) (h0 : (w 12).1 (5 + k) 0 = nI 7) (h7 : (v 15).1 7 x = nI 3) (e4 : (w 12).1 (5 + k) 4 = (v 15).1 8 x) : OneP n w v k x nv nc := by
  have hin : inb (nI x) 60 = true := inI hx (by decide)
  generalize hp : (v 15).1 8 x = p at e4
  have hf : FX1_faultIn n w 12 (5 + k) 1 = some (if FX12_isWithin p 0 20 = true then 0 else 2) := by
    unfold FX1_faultIn
    rw [h0, nI_c (a := 7) (by decide), gd_t (by decide), gd_t (inI (by decide) (by decide)), nI_c (a := 7) (by decide), bnd_s, show swMap.getD 7 0 = 4 from rfl, if_neg (by decide), if_neg (by decide), if_neg (by decide), if_pos rfl, e4]
    unfold FX6_faultOfDepth
    rw [bnd_s, bnd_s]
  have hmay : FX13_may n v (nI x) = some (FX12_isWithin p 0 20) := by
    unfold FX13_may
    simp only [gd_t hin]
    rw [nI_c (a := x) (by omega), bnd_s, h7, if_neg (by decide), if_neg (by decide), if_neg (by decide), if_pos (by decide), hp, rDepth, bnd_s]
  cases h1 : FX12_isWithin p 0 20 with
  | false =>
    rw [h1, if_neg (by decide)] at hf
    rw [h1] at hmay
    exact ⟨false, 2, hf, by decide, hmay, Or.inr ⟨rfl, by decide⟩⟩
  | true =>
    rw [h1, if_pos rfl] at hf
    rw [h1] at hmay
    obtain ⟨d, -, d2, rfl⟩ := wi_rng (a := 0) (b := 20) (by decide) (by decide) h1
    obtain ⟨y, M', v', q1, q2, q3, q4⟩ := depth_c hm d2
    refine ⟨true, 0, hf, by decide, hmay, Or.inl ⟨rfl, rfl, y, M', v', ?_, ?_, q3, q4⟩⟩
    · unfold FX1_applyTo
      rw [h0, nI_c (a := 7) (by decide), gd_t (by decide), gd_t (inI (by decide) (by decide)), nI_c (a := 7) (by decide), bnd_s, show swMap.getD 7 0 = 4 from rfl, if_neg (by decide), if_neg (by decide), if_neg (by decide), if_pos rfl, e4, q1, bnd2_s, bnd_s]
    · unfold FX13_does
      simp only [gd_t hin]
      rw [nI_c (a := x) (by omega), bnd_s, h7, if_neg (by decide), if_neg (by decide), if_neg (by decide), if_pos (by decide), hp, q2, bo2_s]
theorem o_pass {n : Nat} (hn : 1000 ≤ n) {w v : Wd} {k x nv nc ns : Nat} {bk : Nat → Nat} (hm : RelM (w 1) (row v) nv nc ns bk) (hx : x < 60) (h0 : (w 12).1 (5 + k) 0 = nI 8) (h7 : (v 15).1 7 x = nI 4) (e4 : (w 12).1 (5 + k) 4 = (v 15).1 8 x) : OneP n w v k x nv nc := by
  have hin : inb (nI x) 60 = true := inI hx (by decide)
  obtain ⟨t, ht, et⟩ := hm.tm
  generalize hp : (v 15).1 8 x = p at e4
  have hf : FX1_faultIn n w 12 (5 + k) 1 = some (if FX12_isWithin p 1 240 = true then (if 9999 < nI t + p then 3 else 0) else 2) := by
    unfold FX1_faultIn
    rw [h0, nI_c (a := 8) (by decide), gd_t (by decide), gd_t (inI (by decide) (by decide)), nI_c (a := 8) (by decide), bnd_s, show swMap.getD 8 0 = 5 from rfl, if_neg (by decide), if_neg (by decide), if_neg (by decide), if_neg (by decide), if_pos rfl, e4]
    unfold FX6_faultOfPassing
    rw [hm.time, et, bnd_s, bnd_s]
  have em : FX13_mayPass v p = some (if 9999 < nI t + p then false else true) := by
    unfold FX13_mayPass
    rw [gd3, show (v 15).1 2 3 = nI t from et, ite_some]
  have hmay : FX13_may n v (nI x) = some (if FX12_isWithin p 1 240 = true then (if 9999 < nI t + p then false else true) else false) := by
    unfold FX13_may
    simp only [gd_t hin]
    rw [nI_c (a := x) (by omega), bnd_s, h7, if_neg (by decide), if_neg (by decide), if_neg (by decide), if_neg (by decide), if_pos (by decide), hp, rPat, bnd_s, em, bo1_s]
    by_cases z : FX12_isWithin p 1 240 = true
    · rw [if_pos z, if_pos z]
      by_cases z2 : 9999 < nI t + p
      · rw [if_pos z2, if_neg (by decide)]
      · rw [if_neg z2, if_pos rfl]
    · rw [if_neg z, if_neg z]
  cases h1 : FX12_isWithin p 1 240 with
  | false =>
    rw [h1, if_neg (by decide)] at hf hmay
    exact ⟨false, 2, hf, by decide, hmay, Or.inr ⟨rfl, by decide⟩⟩
  | true =>
    rw [h1, if_pos rfl] at hf hmay
    obtain ⟨d, d1, d2, rfl⟩ := wi_rng (a := 1) (b := 240) (by decide) (by decide) h1
    by_cases hl : t + d ≤ 9999
    · have hnl : ¬ (9999 : Int32) < nI t + nI d := by
        rw [nI_add]
        show ¬ nI 9999 < nI (t + d)
        rw [nI_ltI (by omega) (by omega)]
        omega
      rw [if_neg hnl] at hf hmay
      obtain ⟨y, M', v', q1, q2, q3, q4⟩ := pass_c hn hm et d2 hl
      refine ⟨true, 0, hf, by decide, hmay, Or.inl ⟨rfl, rfl, y, M', v', ?_, ?_, q3, q4⟩⟩
      · unfold FX1_applyTo
        rw [h0, nI_c (a := 8) (by decide), gd_t (by decide), gd_t (inI (by decide) (by decide)), nI_c (a := 8) (by decide), bnd_s, show swMap.getD 8 0 = 5 from rfl, if_neg (by decide), if_neg (by decide), if_neg (by decide), if_neg (by decide), if_pos rfl, e4, q1, bo2_s, bnd_s]
      · unfold FX13_does
        simp only [gd_t hin]
        rw [nI_c (a := x) (by omega), bnd_s, h7, if_neg (by decide), if_neg (by decide), if_neg (by decide), if_neg (by decide), if_pos (by decide), hp, q2, bo2_s]
    · have hnl : (9999 : Int32) < nI t + nI d := by
        rw [nI_add]
        show nI 9999 < nI (t + d)
        exact nI_lt (by omega) (by omega)
      rw [if_pos hnl] at hf hmay
      exact ⟨false, 3, hf, by decide, hmay, Or.inr ⟨rfl, by decide⟩⟩
theorem o_fake {n : Nat} (hn : 1000 ≤ n) {w v : Wd} {k x nv nc ns : Nat} {bk : Nat → Nat} (hm : RelM (w 1) (row v) nv nc ns bk) (hx : x < 60) (h0 : (w 12).1 (5 + k) 0 = nI 9) (h7 : (v 15).1 7 x = nI 5) (e4 : (w 12).1 (5 + k) 4 = (v 15).1 8 x) : OneP n w v k x nv nc := by
  have hin : inb (nI x) 60 = true := inI hx (by decide)
  have hbs := hm.bs
  generalize hp : (v 15).1 8 x = p at e4
  have hf : FX1_faultIn n w 12 (5 + k) 1 = bo1 (FX6_faultOfOpen (w 1) p) fun e => some e := by
    unfold FX1_faultIn
    rw [h0, nI_c (a := 9) (by decide), gd_t (by decide), gd_t (inI (by decide) (by decide)), nI_c (a := 9) (by decide), bnd_s, show swMap.getD 9 0 = 8 from rfl, if_neg (by decide), if_neg (by decide), if_neg (by decide), if_neg (by decide), if_neg (by decide), e4]
  have hmay : FX13_may n v (nI x) = bo1 (FX13_isOpen v p) fun b => some b := by
    unfold FX13_may
    simp only [gd_t hin]
    rw [nI_c (a := x) (by omega), bnd_s, h7, if_neg (by decide), if_neg (by decide), if_neg (by decide), if_neg (by decide), if_neg (by decide), hp]
  cases hd : FX12_isWithin p 0 (nI ns - 1) with
  | false =>
    rw [cFO_x hm.s1 hd, bo1_s] at hf
    rw [rOpen_x hm.s0 hd, bo1_s] at hmay
    exact ⟨false, 1, hf, by decide, hmay, Or.inr ⟨rfl, by decide⟩⟩
  | true =>
    obtain ⟨i, hi, rfl⟩ := wi_in (by omega) hd
    rw [cFO_i hm.s1 hbs hi (hm.ss i hi).e8, bo1_s] at hf
    rw [rOpen hm.s0 hbs hi, bo1_s] at hmay
    by_cases ho : shF (row v) i 6 = 0
    · rw [if_pos ho] at hf
      rw [decide_eq_true ho] at hmay
      obtain ⟨y, M', v', q1, q2, q3, q4⟩ := fake_c (n := n) (by omega) hm hi ho
      refine ⟨true, 0, hf, by decide, hmay, Or.inl ⟨rfl, rfl, y, M', v', ?_, ?_, q3, q4⟩⟩
      · unfold FX1_applyTo
        rw [h0, nI_c (a := 9) (by decide), gd_t (by decide), gd_t (inI (by decide) (by decide)), nI_c (a := 9) (by decide), bnd_s, show swMap.getD 9 0 = 8 from rfl, if_neg (by decide), if_neg (by decide), if_neg (by decide), if_neg (by decide), if_neg (by decide), if_neg (by decide), if_neg (by decide), if_pos rfl, e4, q1, bo2_s, bnd_s]
      · unfold FX13_does
        simp only [gd_t hin]
        rw [nI_c (a := x) (by omega), bnd_s, h7, if_neg (by decide), if_neg (by decide), if_neg (by decide), if_neg (by decide), if_neg (by decide), if_pos (by decide), hp, q2, bo2_s]
    · rw [if_neg ho] at hf
      rw [decide_eq_false ho] at hmay
      exact ⟨false, 3, hf, by decide, hmay, Or.inr ⟨rfl, by decide⟩⟩
theorem o_cancel {n : Nat} {w v : Wd} {k x nv nc ns : Nat} {bk : Nat → Nat} (hm : RelM (w 1) (row v) nv nc ns bk) (hx : x < 60) (h0 : (w 12).1 (5 + k) 0 = nI 10) (h7 : (v 15).1 7 x = nI 6) (e4 : (w 12).1 (5 + k) 4 = (v 15).1 8 x) : OneP n w v k x nv nc := by
  have hin : inb (nI x) 60 = true := inI hx (by decide)
  have hbs := hm.bs
  generalize hp : (v 15).1 8 x = p at e4
  have hf : FX1_faultIn n w 12 (5 + k) 1 = bo1 (FX6_faultOfOpen (w 1) p) fun e => some e := by
    unfold FX1_faultIn
    rw [h0, nI_c (a := 10) (by decide), gd_t (by decide), gd_t (inI (by decide) (by decide)), nI_c (a := 10) (by decide), bnd_s, show swMap.getD 10 0 = 0 from rfl, if_neg (by decide), if_neg (by decide), if_neg (by decide), if_neg (by decide), if_neg (by decide), e4]
  have hmay : FX13_may n v (nI x) = bo1 (FX13_isOpen v p) fun b => some b := by
    unfold FX13_may
    simp only [gd_t hin]
    rw [nI_c (a := x) (by omega), bnd_s, h7, if_neg (by decide), if_neg (by decide), if_neg (by decide), if_neg (by decide), if_neg (by decide), hp]
  cases hd : FX12_isWithin p 0 (nI ns - 1) with
  | false =>
    rw [cFO_x hm.s1 hd, bo1_s] at hf
    rw [rOpen_x hm.s0 hd, bo1_s] at hmay
    exact ⟨false, 1, hf, by decide, hmay, Or.inr ⟨rfl, by decide⟩⟩
  | true =>
    obtain ⟨i, hi, rfl⟩ := wi_in (by omega) hd
    rw [cFO_i hm.s1 hbs hi (hm.ss i hi).e8, bo1_s] at hf
    rw [rOpen hm.s0 hbs hi, bo1_s] at hmay
    by_cases ho : shF (row v) i 6 = 0
    · rw [if_pos ho] at hf
      rw [decide_eq_true ho] at hmay
      obtain ⟨y, M', v', q1, q2, q3, q4⟩ := cancel_c hm hi ho
      refine ⟨true, 0, hf, by decide, hmay, Or.inl ⟨rfl, rfl, y, M', v', ?_, ?_, q3, q4⟩⟩
      · unfold FX1_applyTo
        rw [h0, nI_c (a := 10) (by decide), gd_t (by decide), gd_t (inI (by decide) (by decide)), nI_c (a := 10) (by decide), bnd_s, show swMap.getD 10 0 = 0 from rfl, if_neg (by decide), if_neg (by decide), if_neg (by decide), if_neg (by decide), if_neg (by decide), if_neg (by decide), if_neg (by decide), if_neg (by decide), e4, q1, bo2_s, bnd_s]
      · unfold FX13_does
        simp only [gd_t hin]
        rw [nI_c (a := x) (by omega), bnd_s, h7, if_neg (by decide), if_neg (by decide), if_neg (by decide), if_neg (by decide), if_neg (by decide), if_neg (by decide), hp, q2, bo2_s]
    · rw [if_neg ho] at hf
      rw [decide_eq_false ho] at hmay
      exact ⟨false, 3, hf, by decide, hmay, Or.inr ⟨rfl, by decide⟩⟩
/-- what both hold of the command at x of the reference's, at kp x of the class's -/
def CmdR (w v : Wd) (c kp : Nat → Nat) (nv nc x : Nat) : Prop :=
  c x ≤ 6 ∧ kp x < 30 ∧ (v 15).1 7 x = nI (c x) ∧ (w 12).1 (5 + kp x) 0 = nI (c x + 4) ∧
  (c x = 0 → ∃ cu va, cu < nc ∧ va < nv ∧ (w 12).1 (5 + kp x) 2 = nI cu ∧ (w 12).1 (5 + kp x) 3 = nI va ∧ (v 15).1 8 x = nI cu ∧ (v 15).1 9 x = nI va ∧ (w 12).1 (5 + kp x) 4 = (v 15).1 10 x ∧ (w 12).1 (5 + kp x) 5 = (v 15).1 11 x) ∧
  (c x = 1 ∨ c x = 2 → ∃ va, va < nv ∧ (w 12).1 (5 + kp x) 3 = nI va ∧ (v 15).1 8 x = nI va ∧ (w 12).1 (5 + kp x) 4 = (v 15).1 9 x) ∧
  (3 ≤ c x → (w 12).1 (5 + kp x) 4 = (v 15).1 8 x)
theorem one_pair {n : Nat} (hn : 1000 ≤ n) {w v : Wd} {c kp : Nat → Nat} {nv nc ns x : Nat} {bk : Nat → Nat} (hm : RelM (w 1) (row v) nv nc ns bk) (hx : x < 60) (h : CmdR w v c kp nv nc x) : OneP n w v (kp x) x nv nc := by
  obtain ⟨c6, -, h7, h0, q0, q1, q3⟩ := h
  rcases (by omega : c x = 0 ∨ c x = 1 ∨ c x = 2 ∨ c x = 3 ∨ c x = 4 ∨ c x = 5 ∨ c x = 6) with z | z | z | z | z | z | z
  · obtain ⟨cu, va, p1, p2, p3, p4, p5, p6, p7, p8⟩ := q0 z
    rw [z] at h0 h7
    exact o_sell hn hm hx h0 h7 p1 p2 p3 p4 p5 p6 p7 p8
  · obtain ⟨va, p2, p3, p4, p5⟩ := q1 (Or.inl z)
    rw [z] at h0 h7
    exact o_fog hm hx h0 h7 p2 p3 p4 p5
  · obtain ⟨va, p2, p3, p4, p5⟩ := q1 (Or.inr z)
    rw [z] at h0 h7
    exact o_price hm hx h0 h7 p2 p3 p4 p5
  · have e := q3 (by omega)
    rw [z] at h0 h7
    exact o_depth hm hx h0 h7 e
  · have e := q3 (by omega)
    rw [z] at h0 h7
    exact o_pass hn hm hx h0 h7 e
  · have e := q3 (by omega)
    rw [z] at h0 h7
    exact o_fake hn hm hx h0 h7 e
  · have e := q3 (by omega)
    rw [z] at h0 h7
    exact o_cancel hm hx h0 h7 e
