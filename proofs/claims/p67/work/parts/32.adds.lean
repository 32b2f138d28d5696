theorem p_402 : Cond.instantiable RJ4 4 ∈ WALL := WALL_in (List.mem_append_right _ (List.mem_append_right _ (List.mem_append_left _ (List.mem_of_getElem? (i := 138) rfl)))) rfl
theorem p_404 : Cond.instanceMethod yJ4_init_da8c8 ∈ WALL := WALL_in (List.mem_append_right _ (List.mem_append_right _ (List.mem_append_left _ (List.mem_of_getElem? (i := 140) rfl)))) rfl
theorem p_406 : Cond.methodLink RJ4 1 yJ5_init_d00df ∈ WALL := WALL_in (List.mem_append_right _ (List.mem_append_right _ (List.mem_append_left _ (List.mem_of_getElem? (i := 142) rfl)))) rfl
theorem p_407 : Cond.instanceMethod yJ5_init_d00df ∈ WALL := WALL_in (List.mem_append_right _ (List.mem_append_right _ (List.mem_append_left _ (List.mem_of_getElem? (i := 143) rfl)))) rfl
theorem p_409 : Cond.methodLink RJ5 3 ⟨"java/lang/Object", "<init>", "()V"⟩ ∈ WALL := WALL_in (List.mem_append_right _ (List.mem_append_right _ (List.mem_append_left _ (List.mem_of_getElem? (i := 145) rfl)))) rfl
theorem p_970 : Cond.methodLink RL 189 yX12_pass ∈ WALL := WALL_in (List.mem_append_right _ (List.mem_append_right _ (List.mem_append_right _ (List.mem_append_right _ (List.mem_append_left _ (List.mem_of_getElem? (i := 226) rfl)))))) rfl
theorem p_1259 : Cond.methodLink RL 180 yL_feeds ∈ WALL := WALL_in (List.mem_append_right _ (List.mem_append_right _ (List.mem_append_right _ (List.mem_append_right _ (List.mem_append_right _ (List.mem_append_right _ (List.mem_append_left _ (List.mem_of_getElem? (i := 35) rfl)))))))) rfl
theorem p_1260 : Cond.static yL_feeds ∈ WALL := WALL_in (List.mem_append_right _ (List.mem_append_right _ (List.mem_append_right _ (List.mem_append_right _ (List.mem_append_right _ (List.mem_append_right _ (List.mem_append_left _ (List.mem_of_getElem? (i := 36) rfl)))))))) rfl
theorem p_1452 : Cond.code yL_adds cL_adds 3 (some .boolean) ∈ WALL := WALL_in (List.mem_append_right _ (List.mem_append_right _ (List.mem_append_right _ (List.mem_append_right _ (List.mem_append_right _ (List.mem_append_right _ (List.mem_append_left _ (List.mem_of_getElem? (i := 228) rfl)))))))) rfl
theorem p_1453 : Cond.classLink RL 164 RJ4 ∈ WALL := WALL_in (List.mem_append_right _ (List.mem_append_right _ (List.mem_append_right _ (List.mem_append_right _ (List.mem_append_right _ (List.mem_append_right _ (List.mem_append_left _ (List.mem_of_getElem? (i := 229) rfl)))))))) rfl
theorem p_1454 : Cond.methodLink RL 166 yJ4_init_da8c8 ∈ WALL := WALL_in (List.mem_append_right _ (List.mem_append_right _ (List.mem_append_right _ (List.mem_append_right _ (List.mem_append_right _ (List.mem_append_right _ (List.mem_append_left _ (List.mem_of_getElem? (i := 230) rfl)))))))) rfl
theorem p_1456 : Cond.methodLink RL 169 yJ4_append_15ec4 ∈ WALL := WALL_in (List.mem_append_right _ (List.mem_append_right _ (List.mem_append_right _ (List.mem_append_right _ (List.mem_append_right _ (List.mem_append_right _ (List.mem_append_left _ (List.mem_of_getElem? (i := 232) rfl)))))))) rfl
theorem p_1457 : Cond.methodLink RL 173 yJ4_append_cf468 ∈ WALL := WALL_in (List.mem_append_right _ (List.mem_append_right _ (List.mem_append_right _ (List.mem_append_right _ (List.mem_append_right _ (List.mem_append_right _ (List.mem_append_left _ (List.mem_of_getElem? (i := 233) rfl)))))))) rfl
theorem p_1458 : Cond.methodLink RL 176 yJ4_toString_0e30d ∈ WALL := WALL_in (List.mem_append_right _ (List.mem_append_right _ (List.mem_append_right _ (List.mem_append_right _ (List.mem_append_right _ (List.mem_append_right _ (List.mem_append_left _ (List.mem_of_getElem? (i := 234) rfl)))))))) rfl
theorem p_1508 : Cond.methodLink RL 184 yX12_addValley ∈ WALL := WALL_in (List.mem_append_right _ (List.mem_append_right _ (List.mem_append_right _ (List.mem_append_right _ (List.mem_append_right _ (List.mem_append_right _ (List.mem_append_right _ (List.mem_of_getElem? (i := 44) rfl)))))))) rfl
theorem p_1518 : Cond.methodLink RL 188 yX13_addValley ∈ WALL := WALL_in (List.mem_append_right _ (List.mem_append_right _ (List.mem_append_right _ (List.mem_append_right _ (List.mem_append_right _ (List.mem_append_right _ (List.mem_append_right _ (List.mem_of_getElem? (i := 54) rfl)))))))) rfl
theorem p_1519 : Cond.methodLink RL 192 yX13_pass ∈ WALL := WALL_in (List.mem_append_right _ (List.mem_append_right _ (List.mem_append_right _ (List.mem_append_right _ (List.mem_append_right _ (List.mem_append_right _ (List.mem_append_right _ (List.mem_of_getElem? (i := 55) rfl)))))))) rfl
theorem p_1521 : Cond.methodLink RL 195 yX12_addCustomer ∈ WALL := WALL_in (List.mem_append_right _ (List.mem_append_right _ (List.mem_append_right _ (List.mem_append_right _ (List.mem_append_right _ (List.mem_append_right _ (List.mem_append_right _ (List.mem_of_getElem? (i := 57) rfl)))))))) rfl
theorem p_1527 : Cond.methodLink RL 198 yX13_addCustomer ∈ WALL := WALL_in (List.mem_append_right _ (List.mem_append_right _ (List.mem_append_right _ (List.mem_append_right _ (List.mem_append_right _ (List.mem_append_right _ (List.mem_append_right _ (List.mem_of_getElem? (i := 63) rfl)))))))) rfl
/-! THE LAW's adds: a name out of a new builder, fed; a valley, a customer, or a second -/
theorem SKI.gr {k1 : Nat} {I : Heap → Prop} (hs : SKI k1 I) (hk : ∀ H, I H → k1 ≤ H.size) : grows I := fun H H1 h hz hq => hs H H1 h hz (fun x hx => hq x (Nat.lt_of_lt_of_le hx (hk H h)))
theorem SKI.skb {k0 b : Nat} {I : Heap → Prop} (hs : SKI k0 I) (hb : k0 ≤ b) (hk : ∀ H, I H → k0 ≤ H.size) : SKB k0 b I := fun H H1 h hz hq => hs H H1 h hz (fun x hx => hq x (Nat.lt_of_lt_of_le hx (hk H h)) hx (by omega))
theorem LXK.ski {G : GG} {n1 k0 : Nat} {X : Heap → Prop} (hL : LOK G n1 X) (h1 : n1 + 495 ≤ k0) (z : Wd × MM) : SKI k0 (LH G n1 (XK G n1 k0 X) z) := fun H H1 h hz hq => ⟨h.1.kept (fun x hk _ => hq x (by have := hk.2; have := hL.1; omega)), h.2.1.kept (fun x hk _ => hq x (by have := hk.2; omega)), h.2.2.go hz (fun x hl _ _ => hq x hl)⟩
/-- beside X a String of the letters L -/
def XT (G : GG) (o r a : Nat) (f : Nat → Int32) (X : Heap → Prop) (H : Heap) : Prop := X H ∧ va_at (gD G) jcl (o, .inr (12, [.ref r, .int 0, .int 0, .int 0])) H ∧ va_at (gD G) jcl (r, aB G a f) H
theorem XT.lok {G : GG} {n1 k0 o r a : Nat} {f : Nat → Int32} {X : Heap → Prop} (hL : LOK G n1 X) (h1 : n1 + 495 ≤ k0) (ho : k0 ≤ o) (hr : k0 ≤ r) : LOK G n1 (XT G o r a f (XK G n1 k0 X)) :=
  ⟨hL.1, hL.2.1, fun H H1 h hz hq => ⟨h.1.go hz (fun x a b d => hq x (by have := h.1.le; omega) b d), h.2.1.kept (hq o h.2.1.lt (fun a => by have := a.2; have := hL.1; omega) (fun a => by have := a.2; omega)), h.2.2.kept (hq r h.2.2.lt (fun a => by have := a.2; have := hL.1; omega) (fun a => by have := a.2; omega))⟩⟩
theorem XT.tx {G : GG} {o r : Nat} {f : Nat → Int32} {X : Heap → Prop} {L : List Nat} (hf : ∀ j, j < L.length → L.getD j 0 < 128 ∧ f j = nI (L.getD j 0)) (hl : L.length < 2 ^ 20) : ∀ H, XT G o r L.length f X H → TX G false o L H := fun H h => ⟨r, L.length, f, 0, 0, ⟨Nat.le_refl _, hl, hf⟩, h.2.2, rfl, h.2.1⟩
section LDCS
variable {G : GG} {own : String} {cc : ByteArray} {p : Program} {l : Launch} {e : Env} {R : Room} {s : State} {m : MethodId} {args : Array Value} {below : List Frame} {meth : Method} {c : Code} {nL cells slots : Nat} {Q : State → Prop} {pc t : Nat} {lc : List (Nat × Value)} {st : List Value} {I : Heap → Prop}
theorem J_ldcStr (hX : FX G own cc nL p s m args c) {index i : Nat} {tx : String} (hm : (own, index, tx, i) ∈ lwRef) (hdg : decode cc pc = .ok (.ldc index, 2)) (ht : pc + 2 = t) (kk : J G p l e R s m args below meth c nL cells slots Q I t lc (.ref (ga G (50 + i)) :: st)) : J G p l e R s m args below meth c nL cells slots Q I pc lc st := by
  subst ht
  intro H locs ls h1 h2 h3
  exact va_ldcS hX.1 hX.2.1 hX.2.2.2.1 (hX.G2.2.2.2.2.2.2.2.1 _ hm) hdg (kk H locs ls h1 h2 h3)
end LDCS

theorem ad_ch {k : Nat} (h : k < 20) : ((97 + nI k).toUInt32 % 65536).toInt32 = nI (97 + k) := by
  revert h
  revert k
  decide +kernel

theorem cnJ5_initI {G : GG} {l : Launch} {I : Heap → Prop} {k1 b : Nat} (hs : SKI k1 I) (hb : k1 ≤ b) (hA : gA G b) : CTN G l yJ5_init_d00df cJ5_init_d00df 2 none { frames := 1, cells := 1, slots := 16, locals := 40 } 1 16 [.ref b, .int 16] (fun H => I H ∧ va_at (gD G) jcl (b, .inr (11, [.null, .int 0, .int 0, .int 0])) H) (fun v H => v = none ∧ ∃ q, (k1 ≤ q ∧ b < q ∧ gA G q) ∧ (SOb G b q 0 0 H ∧ SAr G q 16 (fun _ => 0) H) ∧ I H) := by
  refine CTN.of miJ5_init_d00df [(0, .ref b), (1, .int 16)] rfl (Nat.le_of_ble_eq_true rfl) ?_
  intro p e s m args below meth c hX hAO hnm hR hlk
  have hX : FX G RJ5 cJ5_init_d00df 2 p s m args c := hX
  refine J_aload_n hX dJ5_init_d00df_0 0 rfl (t := 1) rfl ?_
  refine N_obj hX p_409 ⟨Nat.le_of_ble_eq_true rfl, Nat.le_of_ble_eq_true rfl⟩ dJ5_init_d00df_1 (t := 4) rfl ?_
  refine J_gst hX hX.G2.1 p_410 dJ5_init_d00df_4 (t := 7) rfl ?_
  refine J_if_eq (tgt := 25) hX dJ5_init_d00df_7 (by decide) (t := 10) rfl (fun z => absurd z (by decide)) (fun z => ?_)
  refine J_aload_n hX dJ5_init_d00df_10 0 rfl (t := 11) rfl ?_
  refine J_iload_n hX dJ5_init_d00df_11 1 rfl (t := 12) rfl ?_
  refine J_newBI (N := 16) hX (by decide) (by decide) (Nat.le_of_ble_eq_true rfl) p_100 ⟨Nat.le_of_ble_eq_true rfl, Nat.le_of_ble_eq_true rfl⟩ (SKI.gr (k1 := b + 1) (fun H H1 h hz hq => ⟨hs H H1 h.1 hz (fun x hx => hq x (by omega)), h.2.kept (hq b (Nat.lt_succ_self _))⟩) (fun H h => h.2.lt)) (Φ := fun r => b < r) (fun H h => h.2.lt) dJ5_init_d00df_12 (t := 14) rfl (fun q hAq hq => ?_)
  refine J_putI (I2 := fun H => (I H ∧ va_at (gD G) jcl (b, .inr (11, [.ref q, .int 0, .int 0, .int 0])) H) ∧ va_at (gD G) jcl (q, aB G 16 (fun _ => 0)) H) hX cb11 (fs := [.null, .int 0, .int 0, .int 0]) (fun H h => h.1.2) hA 0 (by decide) p_419 rfl (ty := .array .byte) rfl rfl rfl (by show 0 < 4; decide) (fun H H1 h e hz hq9 => ⟨⟨hs H H1 h.1.1 (by omega) (fun x hx => hq9 x (by omega)), e⟩, h.2.kept (hq9 q (by omega))⟩) dJ5_init_d00df_14 (t := 17) rfl ?_
  refine J_aload_n hX dJ5_init_d00df_17 0 rfl (t := 18) rfl ?_
  refine J_iconst (v := 0) hX dJ5_init_d00df_18 (by decide) (t := 19) rfl ?_
  refine J_putI (I2 := fun H => (I H ∧ va_at (gD G) jcl (b, .inr (11, [.ref q, .int 0, .int 0, .int 0])) H) ∧ va_at (gD G) jcl (q, aB G 16 (fun _ => 0)) H) hX cb11 (fs := [.ref q, .int 0, .int 0, .int 0]) (fun H h => h.1.2) hA 1 (by decide) p_420 rfl (ty := .byte) rfl rfl rfl (by show 1 < 4; decide) (fun H H1 h e hz hq9 => ⟨⟨hs H H1 h.1.1 (by omega) (fun x hx => hq9 x (by omega)), e⟩, h.2.kept (hq9 q (by omega))⟩) dJ5_init_d00df_19 (t := 22) rfl ?_
  refine J_goto (tgt := 38) hX dJ5_init_d00df_22 (by decide) ?_
  exact J_vretP hX hR hlk (fun H h => ⟨rfl, q, ⟨by omega, hq, hAq⟩, ⟨h.1.2, h.2⟩, h.1.1⟩) dJ5_init_d00df_38
theorem cnJ4_initI {G : GG} {l : Launch} {I : Heap → Prop} {k1 b : Nat} (hs : SKI k1 I) (hb : k1 ≤ b) (hA : gA G b) : CTN G l yJ4_init_da8c8 cJ4_init_da8c8 1 none { frames := 2, cells := 1, slots := 16, locals := 100 } 1 16 [.ref b] (fun H => I H ∧ va_at (gD G) jcl (b, .inr (11, [.null, .int 0, .int 0, .int 0])) H) (fun v H => v = none ∧ ∃ q, (k1 ≤ q ∧ b < q ∧ gA G q) ∧ (SOb G b q 0 0 H ∧ SAr G q 16 (fun _ => 0) H) ∧ I H) := by
  refine CTN.of miJ4_init_da8c8 [(0, .ref b)] rfl (Nat.le_of_ble_eq_true rfl) ?_
  intro p e s m args below meth c hX hAO hnm hR hlk
  have hX : FX G RJ4 cJ4_init_da8c8 1 p s m args c := hX
  refine J_aload_n hX dJ4_init_da8c8_0 0 rfl (t := 1) rfl ?_
  refine J_bipush (v := 16) hX dJ4_init_da8c8_1 (by decide) (t := 3) rfl ?_
  refine N_call hX hAO [.int 16] [] (cnJ5_initI hs hb hA) miJ5_init_d00df p_407 rfl p_406 ⟨rfl, rfl, Nat.le_of_ble_eq_true rfl, Nat.le_of_ble_eq_true rfl⟩ rfl rfl (Nat.le_of_ble_eq_true rfl) ⟨Nat.le_of_ble_eq_true rfl, Nat.le_of_ble_eq_true rfl⟩ dJ4_init_da8c8_3 (t := 6) rfl (fun v => J_pure fun hv => ?_)
  subst hv
  exact J_vretP hX hR hlk (fun H h => ⟨rfl, h⟩) dJ4_init_da8c8_6
theorem addM_16 {G : GG} {l : Launch} {n1 : Nat} {X : Heap → Prop} (hL : LOK G n1 X) {p : Program} {e : Env} {R : Room} {s : State} {m : MethodId} {args : Array Value} {below : List Frame} {meth : Method} {c : Code} {cells slots : Nat} {Q : State → Prop} (hX : FX G RL cL_adds 3 p s m args c) {lc : List (Nat × Value)} (q1 : Nat) (hl1 : lc[q1]? = some (1, .ref (adW G 0))) (z : Wd × MM) {n k : Nat} (hk : k < 20) (hv : z.2.1 0 0 = nI k) {rb : Bool} {rw9 : Wd} (hF : FQ_feeds n [118, 97 + k] z.1 = some (rb, rw9)) (hr : 9 ≤ R.frames ∧ 420 ≤ R.locals) (hf : cells + 7 ≤ R.cells ∧ slots + 3200 ≤ R.slots) (kk : J G p l e R s m args below meth c 3 (cells + 7) (slots + 3149) Q (LH G n1 X (rw9, z.2)) 45 lc [.int (bI rb)]) : J G p l e R s m args below meth c 3 cells slots Q (LH G n1 X z) 16 lc [.ref (aC n1)] := by
  refine J_mark fun k0 hk0 => ?_
  refine J_newOI hX cb11 p_1453 p_402 p_27 [.null, .int 0, .int 0, .int 0] dfJ4 ⟨by have := hf.1; omega, by have := hf.2; omega⟩ ((LXK.ski hL hk0 z).gr (fun H h => h.2.2.le)) (Φ := fun o => k0 ≤ o) (fun H h => h.2.2.le) dL_adds_16 (t := 19) rfl (fun b hAb hb => ?_)
  refine J_dup hX dL_adds_19 rfl (t := 20) rfl ?_
  refine N_call hX hX.ao [] [.ref b, .ref (aC n1)] (cnJ4_initI (LXK.ski hL hk0 z) hb hAb) miJ4_init_da8c8 p_404 rfl p_1454 ⟨rfl, rfl, Nat.le_trans (by decide) hr.1, Nat.le_trans (by decide) hr.2⟩ rfl rfl (Nat.le_of_ble_eq_true rfl) ⟨by have := hf.1; omega, by have := hf.2; omega⟩ dL_adds_20 (t := 23) rfl (fun v => J_pure fun hv => ?_)
  subst hv
  refine J_imp (I2 := PB G (LH G n1 (XK G n1 k0 X) z) k0 b []) (fun H ⟨q, h1, h2, h3⟩ => ⟨q, 16, 0, fun _ => 0, ⟨⟨⟨h1.1, by omega⟩, hAb, h1.2.2⟩, ⟨fun _ => rfl, by decide, by decide, by decide⟩, fun j hj => absurd hj (Nat.not_lt_zero _)⟩, h2, h3⟩) ?_
  have hS : SKB k0 b (LH G n1 (XK G n1 k0 X) z) := (LXK.ski hL hk0 z).skb hb (fun H h => h.2.2.le)
  have hAk : ∀ q, k0 ≤ q → gA G q := fun q hq => hL.2.1 q (by have := hL.1; omega)
  refine J_ldcStr (i := 9) hX (List.mem_of_getElem? (i := 9) rfl) dL_adds_23 (t := 25) rfl ?_
  refine J_bWord hX hS hAk (i := 9) (by decide) (by decide) p_1456 ⟨Nat.le_trans (by decide) hr.1, Nat.le_trans (by decide) hr.2⟩ ⟨by have := hf.1; omega, by have := hf.2; omega⟩ (Nat.le_of_ble_eq_true rfl) dL_adds_25 (t := 28) rfl ?_
  refine J_bipush (v := 97) hX dL_adds_28 (by decide) (t := 30) rfl ?_
  refine J_aload_n hX dL_adds_30 q1 hl1 (t := 31) rfl ?_
  refine J_getI hX cb10 (fs := fWorld G (z.2.1 0)) (fun H h => by obtain ⟨_, _, _, _, _, _, h9⟩ := h; exact kW0 H h9) 0 (by decide) p_1021 rfl dL_adds_31 (t := 34) rfl ?_
  refine J_iadd hX dL_adds_34 (t := 35) rfl ?_
  refine J_i2c hX dL_adds_35 (t := 36) rfl ?_
  refine J_val (y := nI (97 + k)) (by rw [hv]; exact ad_ch hk) ?_
  refine J_bChar hX hS hAk (by omega) (by show (wlN 9).length < 500; decide) p_1457 ⟨Nat.le_trans (by decide) hr.1, Nat.le_trans (by decide) hr.2⟩ ⟨by have := hf.1; omega, by have := hf.2; omega⟩ (Nat.le_of_ble_eq_true rfl) dL_adds_36 (t := 39) rfl ?_
  have eL : ([] : List Nat) ++ wlN 9 ++ [97 + k] = [118, 97 + k] := rfl
  rw [eL]
  refine J_exE fun q => J_exE fun cap => J_exE fun ml => J_exE fun bs => J_pure fun hp => ?_
  refine J_callI hX [] [.ref (aC n1)] (ct_tsI (k0 := k0) (q := q) (cap := cap) (a := 2) (ml := ml) (bs := bs) (fun H H1 h hz hq => ⟨⟨h.1.1.kept (hq b h.1.1.lt), h.1.2.kept (hq q h.1.2.lt)⟩, hS H H1 h.2 hz (fun x hx _ _ => hq x hx)⟩) (fun H h => h.2.2.2.le) (fun H h => h.1.1) (fun H h => h.1.2) (by omega) (by decide) (by have := hp.2.1.2.2.1; have : cap ≤ 16 + 2 * 2 := this; omega) hp.2.1.1) miJ4_toString_0e30d mvJ4_toString_0e30d cb11 (fun H h => ⟨_, h.1.1⟩) p_1458 ⟨rfl, rfl, Nat.le_trans (by decide) hr.1, Nat.le_trans (by decide) hr.2⟩ rfl rfl (Nat.le_of_ble_eq_true rfl) ⟨by have := hf.1; omega, by have := hf.2; omega⟩ dL_adds_39 (t := 42) rfl (fun v => J_exE fun o => J_exE fun r => J_pure fun hv2 => J_pure fun ho => ?_)
  subst hv2
  refine J_imp (I2 := LH G n1 (XT G o r 2 (va_cpy bs (fun _ => 0) 0 0 2) (XK G n1 k0 X)) z) (fun H h => ⟨h.1.2.1, h.1.2.2.1, h.1.2.2.2, h.2⟩) ?_
  have hT : ∀ H, XT G o r 2 (va_cpy bs (fun _ => 0) 0 0 2) (XK G n1 k0 X) H → TX G false o [118, 97 + k] H := XT.tx (L := [118, 97 + k]) (fun j hj => ⟨(hp.2.2 j hj).1, by unfold va_cpy; rw [if_pos ⟨Nat.zero_le _, by omega⟩, Nat.zero_add, Nat.sub_zero]; exact (hp.2.2 j hj).2⟩) (show 2 < 2 ^ 20 by decide)
  refine J_lS hX [.ref (aC n1), .ref o] [] [.int (bI rb)] (z2 := (rw9, z.2)) (ctQ_feeds (l := l) (XT.lok hL hk0 ho.1 ho.2.1) hT (show 2 < 600 by decide) z n hF) miL_feeds p_1260 p_1259 ⟨rfl, rfl, Nat.le_trans (by decide) hr.1, Nat.le_trans (by decide) hr.2⟩ rfl rfl (Nat.le_of_ble_eq_true rfl) ⟨by have := hf.1; omega, by have := hf.2; omega⟩ dL_adds_42 (t := 45) rfl rfl ?_
  exact J_imp (fun H h => ⟨h.1, h.2.1, h.2.2.1.x hL.2.2⟩) kk
theorem addM_140 {G : GG} {l : Launch} {n1 : Nat} {X : Heap → Prop} (hL : LOK G n1 X) {p : Program} {e : Env} {R : Room} {s : State} {m : MethodId} {args : Array Value} {below : List Frame} {meth : Method} {c : Code} {cells slots : Nat} {Q : State → Prop} (hX : FX G RL cL_adds 3 p s m args c) {lc : List (Nat × Value)} (q1 : Nat) (hl1 : lc[q1]? = some (1, .ref (adW G 0))) (z : Wd × MM) {n k : Nat} (hk : k < 20) (hv : z.2.1 0 1 = nI k) {rb : Bool} {rw9 : Wd} (hF : FQ_feeds n [99, 97 + k] z.1 = some (rb, rw9)) (hr : 9 ≤ R.frames ∧ 420 ≤ R.locals) (hf : cells + 7 ≤ R.cells ∧ slots + 3200 ≤ R.slots) (kk : J G p l e R s m args below meth c 3 (cells + 7) (slots + 3149) Q (LH G n1 X (rw9, z.2)) 169 lc [.int (bI rb)]) : J G p l e R s m args below meth c 3 cells slots Q (LH G n1 X z) 140 lc [.ref (aC n1)] := by
  refine J_mark fun k0 hk0 => ?_
  refine J_newOI hX cb11 p_1453 p_402 p_27 [.null, .int 0, .int 0, .int 0] dfJ4 ⟨by have := hf.1; omega, by have := hf.2; omega⟩ ((LXK.ski hL hk0 z).gr (fun H h => h.2.2.le)) (Φ := fun o => k0 ≤ o) (fun H h => h.2.2.le) dL_adds_140 (t := 143) rfl (fun b hAb hb => ?_)
  refine J_dup hX dL_adds_143 rfl (t := 144) rfl ?_
  refine N_call hX hX.ao [] [.ref b, .ref (aC n1)] (cnJ4_initI (LXK.ski hL hk0 z) hb hAb) miJ4_init_da8c8 p_404 rfl p_1454 ⟨rfl, rfl, Nat.le_trans (by decide) hr.1, Nat.le_trans (by decide) hr.2⟩ rfl rfl (Nat.le_of_ble_eq_true rfl) ⟨by have := hf.1; omega, by have := hf.2; omega⟩ dL_adds_144 (t := 147) rfl (fun v => J_pure fun hv => ?_)
  subst hv
  refine J_imp (I2 := PB G (LH G n1 (XK G n1 k0 X) z) k0 b []) (fun H ⟨q, h1, h2, h3⟩ => ⟨q, 16, 0, fun _ => 0, ⟨⟨⟨h1.1, by omega⟩, hAb, h1.2.2⟩, ⟨fun _ => rfl, by decide, by decide, by decide⟩, fun j hj => absurd hj (Nat.not_lt_zero _)⟩, h2, h3⟩) ?_
  have hS : SKB k0 b (LH G n1 (XK G n1 k0 X) z) := (LXK.ski hL hk0 z).skb hb (fun H h => h.2.2.le)
  have hAk : ∀ q, k0 ≤ q → gA G q := fun q hq => hL.2.1 q (by have := hL.1; omega)
  refine J_ldcStr (i := 4) hX (List.mem_of_getElem? (i := 10) rfl) dL_adds_147 (t := 149) rfl ?_
  refine J_bWord hX hS hAk (i := 4) (by decide) (by decide) p_1456 ⟨Nat.le_trans (by decide) hr.1, Nat.le_trans (by decide) hr.2⟩ ⟨by have := hf.1; omega, by have := hf.2; omega⟩ (Nat.le_of_ble_eq_true rfl) dL_adds_149 (t := 152) rfl ?_
  refine J_bipush (v := 97) hX dL_adds_152 (by decide) (t := 154) rfl ?_
  refine J_aload_n hX dL_adds_154 q1 hl1 (t := 155) rfl ?_
  refine J_getI hX cb10 (fs := fWorld G (z.2.1 0)) (fun H h => by obtain ⟨_, _, _, _, _, _, h9⟩ := h; exact kW0 H h9) 1 (by decide) p_1022 rfl dL_adds_155 (t := 158) rfl ?_
  refine J_iadd hX dL_adds_158 (t := 159) rfl ?_
  refine J_i2c hX dL_adds_159 (t := 160) rfl ?_
  refine J_val (y := nI (97 + k)) (by rw [hv]; exact ad_ch hk) ?_
  refine J_bChar hX hS hAk (by omega) (by show (wlN 4).length < 500; decide) p_1457 ⟨Nat.le_trans (by decide) hr.1, Nat.le_trans (by decide) hr.2⟩ ⟨by have := hf.1; omega, by have := hf.2; omega⟩ (Nat.le_of_ble_eq_true rfl) dL_adds_160 (t := 163) rfl ?_
  have eL : ([] : List Nat) ++ wlN 4 ++ [97 + k] = [99, 97 + k] := rfl
  rw [eL]
  refine J_exE fun q => J_exE fun cap => J_exE fun ml => J_exE fun bs => J_pure fun hp => ?_
  refine J_callI hX [] [.ref (aC n1)] (ct_tsI (k0 := k0) (q := q) (cap := cap) (a := 2) (ml := ml) (bs := bs) (fun H H1 h hz hq => ⟨⟨h.1.1.kept (hq b h.1.1.lt), h.1.2.kept (hq q h.1.2.lt)⟩, hS H H1 h.2 hz (fun x hx _ _ => hq x hx)⟩) (fun H h => h.2.2.2.le) (fun H h => h.1.1) (fun H h => h.1.2) (by omega) (by decide) (by have := hp.2.1.2.2.1; have : cap ≤ 16 + 2 * 2 := this; omega) hp.2.1.1) miJ4_toString_0e30d mvJ4_toString_0e30d cb11 (fun H h => ⟨_, h.1.1⟩) p_1458 ⟨rfl, rfl, Nat.le_trans (by decide) hr.1, Nat.le_trans (by decide) hr.2⟩ rfl rfl (Nat.le_of_ble_eq_true rfl) ⟨by have := hf.1; omega, by have := hf.2; omega⟩ dL_adds_163 (t := 166) rfl (fun v => J_exE fun o => J_exE fun r => J_pure fun hv2 => J_pure fun ho => ?_)
  subst hv2
  refine J_imp (I2 := LH G n1 (XT G o r 2 (va_cpy bs (fun _ => 0) 0 0 2) (XK G n1 k0 X)) z) (fun H h => ⟨h.1.2.1, h.1.2.2.1, h.1.2.2.2, h.2⟩) ?_
  have hT : ∀ H, XT G o r 2 (va_cpy bs (fun _ => 0) 0 0 2) (XK G n1 k0 X) H → TX G false o [99, 97 + k] H := XT.tx (L := [99, 97 + k]) (fun j hj => ⟨(hp.2.2 j hj).1, by unfold va_cpy; rw [if_pos ⟨Nat.zero_le _, by omega⟩, Nat.zero_add, Nat.sub_zero]; exact (hp.2.2 j hj).2⟩) (show 2 < 2 ^ 20 by decide)
  refine J_lS hX [.ref (aC n1), .ref o] [] [.int (bI rb)] (z2 := (rw9, z.2)) (ctQ_feeds (l := l) (XT.lok hL hk0 ho.1 ho.2.1) hT (show 2 < 600 by decide) z n hF) miL_feeds p_1260 p_1259 ⟨rfl, rfl, Nat.le_trans (by decide) hr.1, Nat.le_trans (by decide) hr.2⟩ rfl rfl (Nat.le_of_ble_eq_true rfl) ⟨by have := hf.1; omega, by have := hf.2; omega⟩ dL_adds_166 (t := 169) rfl rfl ?_
  exact J_imp (fun H h => ⟨h.1, h.2.1, h.2.2.1.x hL.2.2⟩) kk
theorem inb_nI {i : Int32} {n : Nat} (h : inb i n = true) : i = nI i.toNatClampNeg := by
  have h1 := (inb_in h)
  have h2 : ¬ i < 0 := fun z => h1 (Or.inl z)
  obtain ⟨j, hj, e⟩ := nI_of h2
  rw [e, nI_clamp hj]
abbrev rmL_adds : Room := { frames := 9, cells := 8, slots := 3200, locals := 480 }
theorem miL_adds : MI yL_adds cL_adds 3 (some .boolean) 3 := ⟨p_1452, p_24, by decide +kernel, by decide +kernel, by decide +kernel, by decide +kernel⟩
noncomputable def FQ_adds_B111 (n : Nat) (z : Wd × MM) (l2 : Int32) : Option (Bool × (Wd × MM)) :=
  if z.2.1 0 1 = 8 then
    bx2 (FX12_pass n z.1 1) fun x21 w22 =>
    gh (FLc_58 n z.1 1 0 0 0 0) w22 fun w23 =>
    bnd ((w23, z.2)) fun z25 =>
    bo2 (FW_pass n z25.2 1) fun x28 M29 =>
    bnd ((z25.1, M29)) fun z30 =>
    if x21 = x28 then
      some (true, z30)
    else
      some (false, z30)
  else
    gd (inb (z.2.1 0 1) 20) <|
    bo2 (FQ_feeds n [99, 97 + (z.2.1 0 1).toNatClampNeg] z.1) fun x2 w3 =>
    bnd ((w3, z.2)) fun z5 =>
    if x2 = true then
      bx2 (FX12_addCustomer n z5.1 (1 + (l2 - l2 / 90 * 90)) ((l2 / 90) - (l2 / 90) / 300 * 300)) fun x9 w10 =>
      gh (FLc_51 n z5.1 (1 + (l2 - l2 / 90 * 90)) ((l2 / 90) - (l2 / 90) / 300 * 300) 0 0 0) w10 fun w11 =>
      bnd ((w11, z5.2)) fun z13 =>
      bo2 (FW_addCustomer z13.2 (1 + (l2 - l2 / 90 * 90)) ((l2 / 90) - (l2 / 90) / 300 * 300)) fun x16 M17 =>
      bnd ((z13.1, M17)) fun z18 =>
      if x9 = x16 then
        some (true, z18)
      else
        some (false, z18)
    else
      some (false, z5)
set_option maxHeartbeats 4000000 in
set_option maxRecDepth 100000 in
theorem BQ_adds_111 {G : GG} {l : Launch} {n1 : Nat} {X : Heap → Prop} (hL : LOK G n1 X) {p : Program} {e : Env} {s : State} {m : MethodId} {args : Array Value} {below : List Frame} {meth : Method} {c : Code} (hX : FX G RL cL_adds 3 p s m args c) (hR : meth.sig.returnType = (some .boolean)) (hlk : meth.locks = false) {rx : Bool} {rw : Wd × MM} (n : Nat) (z : Wd × MM) (l2 : Int32)  (hF : FQ_adds_B111 n z l2 = some (rx, rw)) : J G p l e rmL_adds s m args below meth c 3 0 0 (MQ below (QP G (fun v9 H => v9 = some (.int (bI rx)) ∧ LH G n1 X rw H)) args s 8 3200 (gA G)) (LH G n1 X z) 111 [(0, .ref (aC n1)), (1, .ref (adW G 0)), (2, .int l2)] [] := by
  unfold FQ_adds_B111 at hF
  refine J_aload_n hX dL_adds_111 1 rfl (t := 112) rfl ?_
  refine J_wGet hX 1 (by decide) p_1022 rfl dL_adds_112 (t := 115) rfl ?_
  refine J_bipush (v := 8) hX dL_adds_115 (by decide) (t := 117) rfl ?_
  refine J_icmp_ne (tgt := 139) hX dL_adds_117 (by decide) (t := 120) rfl (fun zc => ?_) (fun zc => ?_)
  · replace hF := it_f hF zc
    refine J_aload_n hX dL_adds_139 0 rfl (t := 140) rfl ?_
    obtain ⟨g1, hF⟩ := gd_e hF
    obtain ⟨x2, w3, h4, hF⟩ := bo2_e hF
    obtain ⟨z5, e6, hF⟩ := bnd_e hF
    refine addM_140 (l := l) hL hX 1 rfl z (inb_lt g1) (inb_nI g1) h4 ⟨Nat.le_of_ble_eq_true rfl, Nat.le_of_ble_eq_true rfl⟩ ⟨Nat.le_of_ble_eq_true rfl, Nat.le_of_ble_eq_true rfl⟩ ?_
    rw [e6]
    refine J_ifZ_eq (tgt := 215) hX dL_adds_169 (by decide) (t := 172) rfl (fun zc => ?_) (fun zc => ?_)
    · replace hF := ib_f hF zc
      refine J_iconst (v := 0) hX dL_adds_215 (by decide) (t := 216) rfl ?_
      replace hF := Option.some.inj hF
      obtain ⟨hF, hF2⟩ := Prod.mk.inj hF
      subst hF
      subst hF2
      refine J_wid (k := 8) (n := 3200) (Nat.le_of_ble_eq_true rfl) (Nat.le_of_ble_eq_true rfl) ?_
      exact J_zretP (b := false) hX hR hlk (fun H h => ⟨rfl, h⟩) dL_adds_216
    · replace hF := it_t hF zc
      refine J_aload_n hX dL_adds_172 0 rfl (t := 173) rfl ?_
      refine J_iconst (v := 1) hX dL_adds_173 (by decide) (t := 174) rfl ?_
      refine J_iload_n hX dL_adds_174 2 rfl (t := 175) rfl ?_
      refine J_bipush (v := 90) hX dL_adds_175 (by decide) (t := 177) rfl ?_
      refine J_irem hX dL_adds_177 (by decide) (t := 178) rfl ?_
      refine J_iadd hX dL_adds_178 (t := 179) rfl ?_
      refine J_iload_n hX dL_adds_179 2 rfl (t := 180) rfl ?_
      refine J_bipush (v := 90) hX dL_adds_180 (by decide) (t := 182) rfl ?_
      refine J_idiv hX dL_adds_182 (by decide) (t := 183) rfl ?_
      refine J_sipush (v := 300) hX dL_adds_183 (by decide) (t := 186) rfl ?_
      refine J_irem hX dL_adds_186 (by decide) (t := 187) rfl ?_
      obtain ⟨x9, w10, h8, hF⟩ := bx2_e hF
      obtain ⟨w11, a12, hF⟩ := gh_e hF
      obtain ⟨z13, e14, hF⟩ := bnd_e hF
      refine J_lCg hX hL a12 [.int (1 + (l2 - l2 / 90 * 90)), .int ((l2 / 90) - (l2 / 90) / 300 * 300)] [] [.int x9] (fun zz => ctX12_addCustomer (G := GCz G n1 zz) (l := l) z5.1 (1 + (l2 - l2 / 90 * 90)) ((l2 / 90) - (l2 / 90) / 300 * 300) n h8) e14 miX12_addCustomer mvX12_addCustomer cb9 p_1521 ⟨rfl, rfl, Nat.le_of_ble_eq_true rfl, Nat.le_of_ble_eq_true rfl⟩ rfl rfl (Nat.le_of_ble_eq_true rfl) ⟨Nat.le_of_ble_eq_true rfl, Nat.le_of_ble_eq_true rfl⟩ dL_adds_187 (t := 190) rfl rfl ?_
      refine J_aload_n hX dL_adds_190 1 rfl (t := 191) rfl ?_
      refine J_iconst (v := 1) hX dL_adds_191 (by decide) (t := 192) rfl ?_
      refine J_iload_n hX dL_adds_192 2 rfl (t := 193) rfl ?_
      refine J_bipush (v := 90) hX dL_adds_193 (by decide) (t := 195) rfl ?_
      refine J_irem hX dL_adds_195 (by decide) (t := 196) rfl ?_
      refine J_iadd hX dL_adds_196 (t := 197) rfl ?_
      refine J_iload_n hX dL_adds_197 2 rfl (t := 198) rfl ?_
      refine J_bipush (v := 90) hX dL_adds_198 (by decide) (t := 200) rfl ?_
      refine J_idiv hX dL_adds_200 (by decide) (t := 201) rfl ?_
      refine J_sipush (v := 300) hX dL_adds_201 (by decide) (t := 204) rfl ?_
      refine J_irem hX dL_adds_204 (by decide) (t := 205) rfl ?_
      obtain ⟨x16, M17, h15, hF⟩ := bo2_e hF
      obtain ⟨z18, e19, hF⟩ := bnd_e hF
      refine J_lW hX hL [.int (1 + (l2 - l2 / 90 * 90)), .int ((l2 / 90) - (l2 / 90) / 300 * 300)] [.int x9] [.int x16, .int x9] (fun zz => ctW_addCustomer (G := upK G (gn G) (KwA G) zz) (l := l) z13.2 (1 + (l2 - l2 / 90 * 90)) ((l2 / 90) - (l2 / 90) / 300 * 300) h15) e19 miX13_addCustomer mvX13_addCustomer cb10 p_1527 ⟨rfl, rfl, Nat.le_of_ble_eq_true rfl, Nat.le_of_ble_eq_true rfl⟩ rfl rfl (Nat.le_of_ble_eq_true rfl) ⟨Nat.le_of_ble_eq_true rfl, Nat.le_of_ble_eq_true rfl⟩ dL_adds_205 (t := 208) rfl rfl ?_
      refine J_icmp_ne (tgt := 215) hX dL_adds_208 (by decide) (t := 211) rfl (fun zc => ?_) (fun zc => ?_)
      · replace hF := it_f hF zc
        refine J_iconst (v := 0) hX dL_adds_215 (by decide) (t := 216) rfl ?_
        replace hF := Option.some.inj hF
        obtain ⟨hF, hF2⟩ := Prod.mk.inj hF
        subst hF
        subst hF2
        refine J_wid (k := 8) (n := 3200) (Nat.le_of_ble_eq_true rfl) (Nat.le_of_ble_eq_true rfl) ?_
        exact J_zretP (b := false) hX hR hlk (fun H h => ⟨rfl, h⟩) dL_adds_216
      · replace hF := it_t hF zc
        refine J_iconst (v := 1) hX dL_adds_211 (by decide) (t := 212) rfl ?_
        refine J_goto (tgt := 216) hX dL_adds_212 (by decide) ?_
        replace hF := Option.some.inj hF
        obtain ⟨hF, hF2⟩ := Prod.mk.inj hF
        subst hF
        subst hF2
        refine J_wid (k := 8) (n := 3200) (Nat.le_of_ble_eq_true rfl) (Nat.le_of_ble_eq_true rfl) ?_
        exact J_zretP (b := true) hX hR hlk (fun H h => ⟨rfl, h⟩) dL_adds_216
  · replace hF := it_t hF zc
    refine J_aload_n hX dL_adds_120 0 rfl (t := 121) rfl ?_
    refine J_iconst (v := 1) hX dL_adds_121 (by decide) (t := 122) rfl ?_
    obtain ⟨x21, w22, h20, hF⟩ := bx2_e hF
    obtain ⟨w23, a24, hF⟩ := gh_e hF
    obtain ⟨z25, e26, hF⟩ := bnd_e hF
    refine J_lCg hX hL a24 [.int 1] [] [.int x21] (fun zz => ctX12_pass (G := GCz G n1 zz) (l := l) z.1 1 n h20) e26 miX12_pass mvX12_pass cb9 p_970 ⟨rfl, rfl, Nat.le_of_ble_eq_true rfl, Nat.le_of_ble_eq_true rfl⟩ rfl rfl (Nat.le_of_ble_eq_true rfl) ⟨Nat.le_of_ble_eq_true rfl, Nat.le_of_ble_eq_true rfl⟩ dL_adds_122 (t := 125) rfl rfl ?_
    refine J_aload_n hX dL_adds_125 1 rfl (t := 126) rfl ?_
    refine J_iconst (v := 1) hX dL_adds_126 (by decide) (t := 127) rfl ?_
    obtain ⟨x28, M29, h27, hF⟩ := bo2_e hF
    obtain ⟨z30, e31, hF⟩ := bnd_e hF
    refine J_lW hX hL [.int 1] [.int x21] [.int x28, .int x21] (fun zz => ctW_pass (G := upK G (gn G) (KwA G) zz) (l := l) z25.2 1 n h27) e31 miX13_pass mvX13_pass cb10 p_1519 ⟨rfl, rfl, Nat.le_of_ble_eq_true rfl, Nat.le_of_ble_eq_true rfl⟩ rfl rfl (Nat.le_of_ble_eq_true rfl) ⟨Nat.le_of_ble_eq_true rfl, Nat.le_of_ble_eq_true rfl⟩ dL_adds_127 (t := 130) rfl rfl ?_
    refine J_icmp_ne (tgt := 137) hX dL_adds_130 (by decide) (t := 133) rfl (fun zc => ?_) (fun zc => ?_)
    · replace hF := it_f hF zc
      refine J_iconst (v := 0) hX dL_adds_137 (by decide) (t := 138) rfl ?_
      replace hF := Option.some.inj hF
      obtain ⟨hF, hF2⟩ := Prod.mk.inj hF
      subst hF
      subst hF2
      refine J_wid (k := 8) (n := 3200) (Nat.le_of_ble_eq_true rfl) (Nat.le_of_ble_eq_true rfl) ?_
      exact J_zretP (b := false) hX hR hlk (fun H h => ⟨rfl, h⟩) dL_adds_138
    · replace hF := it_t hF zc
      refine J_iconst (v := 1) hX dL_adds_133 (by decide) (t := 134) rfl ?_
      refine J_goto (tgt := 138) hX dL_adds_134 (by decide) ?_
      replace hF := Option.some.inj hF
      obtain ⟨hF, hF2⟩ := Prod.mk.inj hF
      subst hF
      subst hF2
      refine J_wid (k := 8) (n := 3200) (Nat.le_of_ble_eq_true rfl) (Nat.le_of_ble_eq_true rfl) ?_
      exact J_zretP (b := true) hX hR hlk (fun H h => ⟨rfl, h⟩) dL_adds_138
noncomputable def FQ_adds (n : Nat) (z : Wd × MM) (p2 : Int32) : Option (Bool × (Wd × MM)) :=
  if p2 - p2 / 2 * 2 = 0 then
    if 8 ≤ z.2.1 0 0 then
      FQ_adds_B111 n z p2
    else
      gd (inb (z.2.1 0 0) 20) <|
      bo2 (FQ_feeds n [118, 97 + (z.2.1 0 0).toNatClampNeg] z.1) fun x33 w34 =>
      bnd ((w34, z.2)) fun z36 =>
      if x33 = true then
        bx2 (FX12_addValley n z36.1 (1 + (p2 - p2 / 20 * 20)) (1 + ((p2 / 20) - (p2 / 20) / 4 * 4)) (1 + ((p2 / 80) - (p2 / 80) / 9 * 9))) fun x40 w41 =>
        gh (FLc_50 n z36.1 (1 + (p2 - p2 / 20 * 20)) (1 + ((p2 / 20) - (p2 / 20) / 4 * 4)) (1 + ((p2 / 80) - (p2 / 80) / 9 * 9)) 0 0) w41 fun w42 =>
        bnd ((w42, z36.2)) fun z44 =>
        bo2 (FW_addValley z44.2 (1 + (p2 - p2 / 20 * 20)) (1 + ((p2 / 20) - (p2 / 20) / 4 * 4)) (1 + ((p2 / 80) - (p2 / 80) / 9 * 9))) fun x47 M48 =>
        bnd ((z44.1, M48)) fun z49 =>
        if x40 = x47 then
          some (true, z49)
        else
          some (false, z49)
      else
        some (false, z36)
  else
    FQ_adds_B111 n z p2
set_option maxHeartbeats 4000000 in
set_option maxRecDepth 100000 in
theorem ctQ_adds {G : GG} {l : Launch} {n1 : Nat} {X : Heap → Prop} (hL : LOK G n1 X) (z : Wd × MM) (p2 : Int32)  (n : Nat) {rx : Bool} {rw : Wd × MM} (hF : FQ_adds n z p2 = some (rx, rw)) : CTP G l yL_adds cL_adds 3 (some .boolean) rmL_adds 8 3200 [.ref (aC n1), .ref (adW G 0), .int p2] (LH G n1 X z) (fun v9 H => v9 = some (.int (bI rx)) ∧ LH G n1 X rw H) := by
  refine CTP.of miL_adds [(0, .ref (aC n1)), (1, .ref (adW G 0)), (2, .int p2)] rfl (Nat.le_of_ble_eq_true rfl) ?_
  intro p e s m args below meth c hX hR hlk
  have hX : FX G RL cL_adds 3 p s m args c := hX
  unfold FQ_adds at hF
  refine J_iload_n hX dL_adds_0 2 rfl (t := 1) rfl ?_
  refine J_iconst (v := 2) hX dL_adds_1 (by decide) (t := 2) rfl ?_
  refine J_irem hX dL_adds_2 (by decide) (t := 3) rfl ?_
  refine J_if_ne (tgt := 111) hX dL_adds_3 (by decide) (t := 6) rfl (fun zc => ?_) (fun zc => ?_)
  · replace hF := it_f hF zc
    refine J_sub (lc2 := [(0, .ref (aC n1)), (1, .ref (adW G 0)), (2, .int p2)]) [0, 1, 2] rfl ?_
    exact BQ_adds_111 hL hX hR hlk n z p2 hF
  · replace hF := it_t hF zc
    refine J_aload_n hX dL_adds_6 1 rfl (t := 7) rfl ?_
    refine J_wGet hX 0 (by decide) p_1021 rfl dL_adds_7 (t := 10) rfl ?_
    refine J_bipush (v := 8) hX dL_adds_10 (by decide) (t := 12) rfl ?_
    refine J_icmp_ge (tgt := 111) hX dL_adds_12 (by decide) (t := 15) rfl (fun zc => ?_) (fun zc => ?_)
    · replace hF := it_t hF zc
      refine J_sub (lc2 := [(0, .ref (aC n1)), (1, .ref (adW G 0)), (2, .int p2)]) [0, 1, 2] rfl ?_
      exact BQ_adds_111 hL hX hR hlk n z p2 hF
    · replace hF := it_f hF zc
      refine J_aload_n hX dL_adds_15 0 rfl (t := 16) rfl ?_
      obtain ⟨g32, hF⟩ := gd_e hF
      obtain ⟨x33, w34, h35, hF⟩ := bo2_e hF
      obtain ⟨z36, e37, hF⟩ := bnd_e hF
      refine addM_16 (l := l) hL hX 1 rfl z (inb_lt g32) (inb_nI g32) h35 ⟨Nat.le_of_ble_eq_true rfl, Nat.le_of_ble_eq_true rfl⟩ ⟨Nat.le_of_ble_eq_true rfl, Nat.le_of_ble_eq_true rfl⟩ ?_
      rw [e37]
      refine J_ifZ_eq (tgt := 109) hX dL_adds_45 (by decide) (t := 48) rfl (fun zc => ?_) (fun zc => ?_)
      · replace hF := ib_f hF zc
        refine J_iconst (v := 0) hX dL_adds_109 (by decide) (t := 110) rfl ?_
        replace hF := Option.some.inj hF
        obtain ⟨hF, hF2⟩ := Prod.mk.inj hF
        subst hF
        subst hF2
        refine J_wid (k := 8) (n := 3200) (Nat.le_of_ble_eq_true rfl) (Nat.le_of_ble_eq_true rfl) ?_
        exact J_zretP (b := false) hX hR hlk (fun H h => ⟨rfl, h⟩) dL_adds_110
      · replace hF := it_t hF zc
        refine J_aload_n hX dL_adds_48 0 rfl (t := 49) rfl ?_
        refine J_iconst (v := 1) hX dL_adds_49 (by decide) (t := 50) rfl ?_
        refine J_iload_n hX dL_adds_50 2 rfl (t := 51) rfl ?_
        refine J_bipush (v := 20) hX dL_adds_51 (by decide) (t := 53) rfl ?_
        refine J_irem hX dL_adds_53 (by decide) (t := 54) rfl ?_
        refine J_iadd hX dL_adds_54 (t := 55) rfl ?_
        refine J_iconst (v := 1) hX dL_adds_55 (by decide) (t := 56) rfl ?_
        refine J_iload_n hX dL_adds_56 2 rfl (t := 57) rfl ?_
        refine J_bipush (v := 20) hX dL_adds_57 (by decide) (t := 59) rfl ?_
        refine J_idiv hX dL_adds_59 (by decide) (t := 60) rfl ?_
        refine J_iconst (v := 4) hX dL_adds_60 (by decide) (t := 61) rfl ?_
        refine J_irem hX dL_adds_61 (by decide) (t := 62) rfl ?_
        refine J_iadd hX dL_adds_62 (t := 63) rfl ?_
        refine J_iconst (v := 1) hX dL_adds_63 (by decide) (t := 64) rfl ?_
        refine J_iload_n hX dL_adds_64 2 rfl (t := 65) rfl ?_
        refine J_bipush (v := 80) hX dL_adds_65 (by decide) (t := 67) rfl ?_
        refine J_idiv hX dL_adds_67 (by decide) (t := 68) rfl ?_
        refine J_bipush (v := 9) hX dL_adds_68 (by decide) (t := 70) rfl ?_
        refine J_irem hX dL_adds_70 (by decide) (t := 71) rfl ?_
        refine J_iadd hX dL_adds_71 (t := 72) rfl ?_
        obtain ⟨x40, w41, h39, hF⟩ := bx2_e hF
        obtain ⟨w42, a43, hF⟩ := gh_e hF
        obtain ⟨z44, e45, hF⟩ := bnd_e hF
        refine J_lCg hX hL a43 [.int (1 + (p2 - p2 / 20 * 20)), .int (1 + ((p2 / 20) - (p2 / 20) / 4 * 4)), .int (1 + ((p2 / 80) - (p2 / 80) / 9 * 9))] [] [.int x40] (fun zz => ctX12_addValley (G := GCz G n1 zz) (l := l) z36.1 (1 + (p2 - p2 / 20 * 20)) (1 + ((p2 / 20) - (p2 / 20) / 4 * 4)) (1 + ((p2 / 80) - (p2 / 80) / 9 * 9)) n h39) e45 miX12_addValley mvX12_addValley cb9 p_1508 ⟨rfl, rfl, Nat.le_of_ble_eq_true rfl, Nat.le_of_ble_eq_true rfl⟩ rfl rfl (Nat.le_of_ble_eq_true rfl) ⟨Nat.le_of_ble_eq_true rfl, Nat.le_of_ble_eq_true rfl⟩ dL_adds_72 (t := 75) rfl rfl ?_
        refine J_aload_n hX dL_adds_75 1 rfl (t := 76) rfl ?_
        refine J_iconst (v := 1) hX dL_adds_76 (by decide) (t := 77) rfl ?_
        refine J_iload_n hX dL_adds_77 2 rfl (t := 78) rfl ?_
        refine J_bipush (v := 20) hX dL_adds_78 (by decide) (t := 80) rfl ?_
        refine J_irem hX dL_adds_80 (by decide) (t := 81) rfl ?_
        refine J_iadd hX dL_adds_81 (t := 82) rfl ?_
        refine J_iconst (v := 1) hX dL_adds_82 (by decide) (t := 83) rfl ?_
        refine J_iload_n hX dL_adds_83 2 rfl (t := 84) rfl ?_
        refine J_bipush (v := 20) hX dL_adds_84 (by decide) (t := 86) rfl ?_
        refine J_idiv hX dL_adds_86 (by decide) (t := 87) rfl ?_
        refine J_iconst (v := 4) hX dL_adds_87 (by decide) (t := 88) rfl ?_
        refine J_irem hX dL_adds_88 (by decide) (t := 89) rfl ?_
        refine J_iadd hX dL_adds_89 (t := 90) rfl ?_
        refine J_iconst (v := 1) hX dL_adds_90 (by decide) (t := 91) rfl ?_
        refine J_iload_n hX dL_adds_91 2 rfl (t := 92) rfl ?_
        refine J_bipush (v := 80) hX dL_adds_92 (by decide) (t := 94) rfl ?_
        refine J_idiv hX dL_adds_94 (by decide) (t := 95) rfl ?_
        refine J_bipush (v := 9) hX dL_adds_95 (by decide) (t := 97) rfl ?_
        refine J_irem hX dL_adds_97 (by decide) (t := 98) rfl ?_
        refine J_iadd hX dL_adds_98 (t := 99) rfl ?_
        obtain ⟨x47, M48, h46, hF⟩ := bo2_e hF
        obtain ⟨z49, e50, hF⟩ := bnd_e hF
        refine J_lW hX hL [.int (1 + (p2 - p2 / 20 * 20)), .int (1 + ((p2 / 20) - (p2 / 20) / 4 * 4)), .int (1 + ((p2 / 80) - (p2 / 80) / 9 * 9))] [.int x40] [.int x47, .int x40] (fun zz => ctW_addValley (G := upK G (gn G) (KwA G) zz) (l := l) z44.2 (1 + (p2 - p2 / 20 * 20)) (1 + ((p2 / 20) - (p2 / 20) / 4 * 4)) (1 + ((p2 / 80) - (p2 / 80) / 9 * 9)) h46) e50 miX13_addValley mvX13_addValley cb10 p_1518 ⟨rfl, rfl, Nat.le_of_ble_eq_true rfl, Nat.le_of_ble_eq_true rfl⟩ rfl rfl (Nat.le_of_ble_eq_true rfl) ⟨Nat.le_of_ble_eq_true rfl, Nat.le_of_ble_eq_true rfl⟩ dL_adds_99 (t := 102) rfl rfl ?_
        refine J_icmp_ne (tgt := 109) hX dL_adds_102 (by decide) (t := 105) rfl (fun zc => ?_) (fun zc => ?_)
        · replace hF := it_f hF zc
          refine J_iconst (v := 0) hX dL_adds_109 (by decide) (t := 110) rfl ?_
          replace hF := Option.some.inj hF
          obtain ⟨hF, hF2⟩ := Prod.mk.inj hF
          subst hF
          subst hF2
          refine J_wid (k := 8) (n := 3200) (Nat.le_of_ble_eq_true rfl) (Nat.le_of_ble_eq_true rfl) ?_
          exact J_zretP (b := false) hX hR hlk (fun H h => ⟨rfl, h⟩) dL_adds_110
        · replace hF := it_t hF zc
          refine J_iconst (v := 1) hX dL_adds_105 (by decide) (t := 106) rfl ?_
          refine J_goto (tgt := 110) hX dL_adds_106 (by decide) ?_
          replace hF := Option.some.inj hF
          obtain ⟨hF, hF2⟩ := Prod.mk.inj hF
          subst hF
          subst hF2
          refine J_wid (k := 8) (n := 3200) (Nat.le_of_ble_eq_true rfl) (Nat.le_of_ble_eq_true rfl) ?_
          exact J_zretP (b := true) hX hR hlk (fun H h => ⟨rfl, h⟩) dL_adds_110
