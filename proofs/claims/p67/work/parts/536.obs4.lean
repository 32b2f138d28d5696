set_option maxHeartbeats 200000
/-! calls that ask of a sale -/
theorem cHasV {w : Wd} {nv nc ns : Nat} {bk : Nat → Nat} (hm : RelM (w 1) (row w) nv nc ns bk) (p : Int32) : FX6_hasValley (w 1) p = FX12_isWithin p 0 (nI nv - 1) := by
  unfold FX6_hasValley
  rw [hm.v1, bnd_s]
theorem cHasC {w : Wd} {nv nc ns : Nat} {bk : Nat → Nat} (hm : RelM (w 1) (row w) nv nc ns bk) (p : Int32) : FX6_hasCustomer (w 1) p = FX12_isWithin p 0 (nI nc - 1) := by
  unfold FX6_hasCustomer
  rw [hm.c1, bnd_s]
theorem rWalls (p : Int32) : FX13_areWalls p = FX12_isWithin p 1 4 := by
  unfold FX13_areWalls
  rw [bnd_s, show (1 : Int64) = (1 : Int32).toInt64 by decide, show (4 : Int64) = (4 : Int32).toInt64 by decide, isIn_w]
theorem rm_cdow {M : MM} {w : Wd} {nv nc ns : Nat} {bk : Nat → Nat} (hm : RelM M (row w) nv nc ns bk) (x y : Int32) : RelM M (row (cd (ow w x) y)) nv nc ns bk := by
  rw [cd_row, ow_row]
  exact hm
theorem rm_cd {M : MM} {w : Wd} {nv nc ns : Nat} {bk : Nat → Nat} (hm : RelM M (row w) nv nc ns bk) (y : Int32) : RelM M (row (cd w y)) nv nc ns bk := by
  rw [cd_row]
  exact hm
theorem xo_s {ε α β : Type} (a : α) (f : α → Option (Except ε β)) : xo (some (.ok a)) f = f a := rfl
theorem xo_x {ε α β : Type} (e : ε) (f : α → Option (Except ε β)) : xo (some (.error e)) f = some (.error e) := rfl
theorem dI_t (w : Wd) : xw w (FX12_demandIndex true) = some (.ok ()) := rfl
theorem dI_f (w : Wd) : xw w (FX12_demandIndex false) = some (.error ("java/lang/IndexOutOfBoundsException", w)) := rfl
theorem dA_t (w : Wd) : xw w (FX12_demandArgument true) = some (.ok ()) := rfl
theorem dA_f (w : Wd) : xw w (FX12_demandArgument false) = some (.error ("java/lang/IllegalArgumentException", w)) := rfl
theorem dS_t (w : Wd) : xw w (FX12_demandState true) = some (.ok ()) := rfl
theorem dS_f (w : Wd) : xw w (FX12_demandState false) = some (.error ("java/lang/IllegalStateException", w)) := rfl
theorem ob_41 {n : Nat} (hn : 1000 ≤ n) {w : Wd} (h : Good w) (a1 a2 a3 a4 a5 : Int32) : ∃ w9, FLc_41 n w a1 a2 a3 a4 a5 = some w9 ∧ Good w9 := by
  obtain ⟨nv, nc, ns, bk, hm⟩ := h.m
  have hb := hm.bs
  have hbv := hm.bv
  have hbc := hm.bc
  show ∃ w9, (bo2 (FL_refusal n w a1 a2 a3) fun k w1 => bo2 (FX13_refusal n w1 a1 a2 a3) fun q w2 => chk k q w2) = some w9 ∧ Good w9
  unfold FL_refusal FX13_refusal
  cases hc : FX12_isWithin a1 0 (nI nc - 1) with
  | false =>
    have hx : FX12_refusal n w a1 a2 a3 = some (.error ("java/lang/IndexOutOfBoundsException", w)) := by
      unfold FX12_refusal
      rw [cHasC hm, hc, bnd_s, if_neg (by decide), dI_f]
      rfl
    rw [lwW_er (k := 1) hx (if_pos rfl), bo2_s, rIsC hm.c0, hc, bo1_s, if_neg (by decide), bnd_s, gb_f, bnd2_s, if_neg (by decide), bo2_s]
    exact ⟨_, er_chk h (by decide)⟩
  | true =>
    obtain ⟨c, hc1, rfl⟩ := wi_in (by omega) hc
    cases hv : FX12_isWithin a2 0 (nI nv - 1) with
    | false =>
      have hx : FX12_refusal n w (nI c) a2 a3 = some (.error ("java/lang/IndexOutOfBoundsException", w)) := by
        unfold FX12_refusal
        rw [cHasC hm, hc, bnd_s, if_pos rfl, cHasV hm, hv, bnd_s, if_neg (by decide), dI_f]
        rfl
      rw [lwW_er (k := 1) hx (if_pos rfl), bo2_s, rIsC hm.c0, hc, bo1_s, if_pos rfl, rIsV hm.v0, hv, bo1_s, if_neg (by decide), bnd_s, gb_f, bnd2_s, if_neg (by decide), bo2_s]
      exact ⟨_, er_chk h (by decide)⟩
    | true =>
      obtain ⟨v, hv1, rfl⟩ := wi_in (by omega) hv
      cases ho : FX12_isWithin a3 1 4 with
      | false =>
        have hx : FX12_refusal n w (nI c) (nI v) a3 = some (.error ("java/lang/IllegalArgumentException", w)) := by
          unfold FX12_refusal
          rw [cHasC hm, hc, bnd_s, if_pos rfl, cHasV hm, hv, bnd_s, if_pos rfl, dI_t, xo_s, bnd_s, ho, dA_f]
          rfl
        rw [lwW_er (k := 2) hx rfl, bo2_s, rIsC hm.c0, hc, bo1_s, if_pos rfl, rIsV hm.v0, hv, bo1_s, if_pos rfl, bnd_s, rWalls, ho, gb_tf, bnd2_s, if_neg (by decide), bo2_s]
        exact ⟨_, er_chk h (by decide)⟩
      | true =>
        have hx : FX12_refusal n w (nI c) (nI v) a3 = some (.ok (whyF (row w) ns c v a3)) := by
          unfold FX12_refusal
          rw [cHasC hm, hc, bnd_s, if_pos rfl, cHasV hm, hv, bnd_s, if_pos rfl, dI_t, xo_s, bnd_s, ho, dA_t, xo_s, cRefused (by omega) hm hc1 hv1, bo1_s]
        rw [lwW_ok hx, bo2_s, rIsC (w := ow w _) ((congrFun (ow_row w _) _).trans hm.c0), hc, bo1_s, if_pos rfl, rIsV (w := ow w _) ((congrFun (ow_row w _) _).trans hm.v0), hv, bo1_s, if_pos rfl, bnd_s, rWalls, ho, gb_tt, bnd2_s, if_pos rfl, rRefuses (by omega) (rm_cdow hm _ 0) hc1 hv1, bo1_s, bo2_s, cd_row, ow_row]
        exact ⟨_, ok_chk h⟩
