theorem p_1009 : Cond.code yX13_grown cX13_grown 13 (some (.object RX13)) ∈ WALL := WALL_in (List.mem_append_right _ (List.mem_append_right _ (List.mem_append_right _ (List.mem_append_right _ (List.mem_append_right _ (List.mem_append_left _ (List.mem_of_getElem? (i := 25) rfl))))))) rfl
theorem p_1080 : Cond.methodLink RX13 40 yJ4_append_15ec4 ∈ WALL := WALL_in (List.mem_append_right _ (List.mem_append_right _ (List.mem_append_right _ (List.mem_append_right _ (List.mem_append_right _ (List.mem_append_left _ (List.mem_of_getElem? (i := 96) rfl))))))) rfl
theorem p_1177 : Cond.methodLink RX13 44 yX13_addValley ∈ WALL := WALL_in (List.mem_append_right _ (List.mem_append_right _ (List.mem_append_right _ (List.mem_append_right _ (List.mem_append_right _ (List.mem_append_left _ (List.mem_of_getElem? (i := 193) rfl))))))) rfl
theorem p_1183 : Cond.methodLink RX13 50 yJ4_append_cf468 ∈ WALL := WALL_in (List.mem_append_right _ (List.mem_append_right _ (List.mem_append_right _ (List.mem_append_right _ (List.mem_append_right _ (List.mem_append_left _ (List.mem_of_getElem? (i := 199) rfl))))))) rfl
theorem p_1197 : Cond.methodLink RX13 55 yJ4_append_bf812 ∈ WALL := WALL_in (List.mem_append_right _ (List.mem_append_right _ (List.mem_append_right _ (List.mem_append_right _ (List.mem_append_right _ (List.mem_append_left _ (List.mem_of_getElem? (i := 213) rfl))))))) rfl
theorem p_1222 : Cond.methodLink RX13 58 yX13_addCustomer ∈ WALL := WALL_in (List.mem_append_right _ (List.mem_append_right _ (List.mem_append_right _ (List.mem_append_right _ (List.mem_append_right _ (List.mem_append_left _ (List.mem_of_getElem? (i := 238) rfl))))))) rfl
theorem p_1227 : Cond.methodLink RX13 64 yX13_refusal ∈ WALL := WALL_in (List.mem_append_right _ (List.mem_append_right _ (List.mem_append_right _ (List.mem_append_right _ (List.mem_append_right _ (List.mem_append_right _ (List.mem_append_left _ (List.mem_of_getElem? (i := 3) rfl)))))))) rfl
theorem p_1231 : Cond.methodLink RX13 67 yX13_sell ∈ WALL := WALL_in (List.mem_append_right _ (List.mem_append_right _ (List.mem_append_right _ (List.mem_append_right _ (List.mem_append_right _ (List.mem_append_right _ (List.mem_append_left _ (List.mem_of_getElem? (i := 7) rfl)))))))) rfl
theorem p_1237 : Cond.methodLink RX13 75 yX13_pass ∈ WALL := WALL_in (List.mem_append_right _ (List.mem_append_right _ (List.mem_append_right _ (List.mem_append_right _ (List.mem_append_right _ (List.mem_append_right _ (List.mem_append_left _ (List.mem_of_getElem? (i := 13) rfl)))))))) rfl
/-! THE LAW's World.grown: the world and its text -/
/-- the world beside its text -/
def TH (G : GG) (y : MM × List Nat) : Heap → Prop := PB G (WH G Tr y.1) (g0 G + 51) (adW G 50) y.2
theorem WH.skb {G : GG} {V : MM} : SKB (g0 G + 51) (adW G 50) (WH G Tr V) := fun H H1 h hz hq => ⟨h.1.kept (fun x hk hl => hq x hl (by have := hk.2; omega) (by have := hk.2; unfold adW; omega)), trivial⟩
theorem lw_pos {i : Nat} (hi : i < 11) : 0 + 1 ≤ (wlN i).length := by
  rw [(wl_ok i hi).1]
  exact (lw_small i hi).2
section TROWS
variable {G : GG} {own : String} {cc : ByteArray} {p : Program} {l : Launch} {e : Env} {R : Room} {s : State} {m : MethodId} {args : Array Value} {below : List Frame} {meth : Method} {c : Code} {nL : Nat} {Q : State → Prop} {pc t : Nat} {lc : List (Nat × Value)} {st : List Value} {y y2 : MM × List Nat}
theorem J_tWord (hX : FX G own cc nL p s m args c) (hAll : ∀ q, g0 G ≤ q → gA G q) {i index mc ms : Nat} (hi : i < 11) (hLn : y.2.length < 500) (hd : mc + 1 ≤ (wlN i).length) (hy : (y.1, y.2 ++ wlN i) = y2) (hw : Cond.methodLink own index yJ4_append_15ec4 ∈ WALL) (hr : 6 ≤ R.frames ∧ 320 ≤ R.locals ∧ 700 ≤ R.cells ∧ 700000 ≤ R.slots) (hms : mc ≤ 1 ∧ ms ≤ 9) (hcat : (st.map fun v => v.category).sum ≤ 8) (hdg : decode cc pc = .ok (.invokevirtual index, 3)) (ht : pc + 3 = t) (kk : y2.2.length < 520 → J G p l e R s m args below meth c nL (60 + y2.2.length) (600 + 1100 * y2.2.length) Q (TH G y2) t lc (.ref (adW G 50) :: st)) : J G p l e R s m args below meth c nL (60 + y.2.length + mc) (600 + 1100 * y.2.length + ms) Q (TH G y) pc lc (.ref (ga G (50 + i)) :: .ref (adW G 50) :: st) := by
  subst hy
  have hw3 := wl_ok i hi
  have hw4 := lw_small i hi
  have hlen : (y.2 ++ wlN i).length = y.2.length + (wlN i).length := List.length_append
  refine J_bWord hX WH.skb (fun q hq => hAll q (by omega)) hi hLn hw ⟨hr.1, hr.2.1⟩ ⟨by have := hr.2.2.1; omega, by have := hr.2.2.2; omega⟩ hcat hdg ht ?_
  refine J_wid (k := 60 + (y.2 ++ wlN i).length) (n := 600 + 1100 * (y.2 ++ wlN i).length) (by omega) (by omega) (kk (by show (y.2 ++ wlN i).length < 520; omega))
theorem J_tChar (hX : FX G own cc nL p s m args c) (hAll : ∀ q, g0 G ≤ q → gA G q) {index : Nat} {x : Int32} (hg : (decide (y.2.length < 500) && inb x 20) = true) (hy : (y.1, y.2 ++ [97 + x.toNatClampNeg]) = y2) (hw : Cond.methodLink own index yJ4_append_cf468 ∈ WALL) (hr : 6 ≤ R.frames ∧ 320 ≤ R.locals ∧ 700 ≤ R.cells ∧ 700000 ≤ R.slots) (hcat : (st.map fun v => v.category).sum ≤ 8) (hdg : decode cc pc = .ok (.invokevirtual index, 3)) (ht : pc + 3 = t) (kk : y2.2.length < 520 → J G p l e R s m args below meth c nL (60 + y2.2.length) (600 + 1100 * y2.2.length) Q (TH G y2) t lc (.ref (adW G 50) :: st)) : J G p l e R s m args below meth c nL (60 + y.2.length) (600 + 1100 * y.2.length) Q (TH G y) pc lc (.int ((97 + x).toUInt32 % 65536).toInt32 :: .ref (adW G 50) :: st) := by
  subst hy
  obtain ⟨h1, h2⟩ := Bool.and_eq_true_iff.mp hg
  have hLn := of_decide_eq_true h1
  have hk := inb_lt h2
  have hlen : (y.2 ++ [97 + x.toNatClampNeg]).length = y.2.length + 1 := List.length_append
  refine J_val (y := nI (97 + x.toNatClampNeg)) ((congrArg (fun z => ((97 + z).toUInt32 % 65536).toInt32) (inb_nI h2)).trans (ad_ch hk)) ?_
  refine J_bChar hX WH.skb (fun q hq => hAll q (by omega)) (by omega) hLn hw ⟨hr.1, hr.2.1⟩ ⟨by have := hr.2.2.1; omega, by have := hr.2.2.2; omega⟩ hcat hdg ht ?_
  refine J_wid (k := 60 + (y.2 ++ [97 + x.toNatClampNeg]).length) (n := 600 + 1100 * (y.2 ++ [97 + x.toNatClampNeg]).length) (by omega) (by omega) (kk (by show (y.2 ++ [97 + x.toNatClampNeg]).length < 520; omega))
theorem J_tInt (hX : FX G own cc nL p s m args c) (hAll : ∀ q, g0 G ≤ q → gA G q) {index : Nat} {x : Int32} (hg : (decide (3 ≤ y.2.length ∧ y.2.length < 500) && inb x 10000) = true) (hy : (y.1, y.2 ++ dgl x.toNatClampNeg) = y2) (hw : Cond.methodLink own index yJ4_append_bf812 ∈ WALL) (hr : 6 ≤ R.frames ∧ 320 ≤ R.locals ∧ 700 ≤ R.cells ∧ 700000 ≤ R.slots) (hcat : (st.map fun v => v.category).sum ≤ 8) (hdg : decode cc pc = .ok (.invokevirtual index, 3)) (ht : pc + 3 = t) (kk : y2.2.length < 520 → J G p l e R s m args below meth c nL (60 + y2.2.length) (600 + 1100 * y2.2.length) Q (TH G y2) t lc (.ref (adW G 50) :: st)) : J G p l e R s m args below meth c nL (60 + y.2.length) (600 + 1100 * y.2.length) Q (TH G y) pc lc (.int x :: .ref (adW G 50) :: st) := by
  subst hy
  obtain ⟨h1, h2⟩ := Bool.and_eq_true_iff.mp hg
  have hLn := of_decide_eq_true h1
  have hk := inb_lt h2
  have hdl := dgl_len x.toNatClampNeg
  have hd := dg3_le x.toNatClampNeg
  have hlen : (y.2 ++ dgl x.toNatClampNeg).length = y.2.length + (dgl x.toNatClampNeg).length := List.length_append
  refine J_val (y := nI x.toNatClampNeg) (inb_nI h2) ?_
  refine J_bInt hX WH.skb (fun q hq => hAll q (by omega)) hk hLn.2 hLn.1 hw ⟨hr.1, hr.2.1⟩ ⟨by have := hr.2.2.1; omega, by have := hr.2.2.2; omega⟩ hcat hdg ht ?_
  refine J_wid (k := 60 + (y.2 ++ dgl x.toNatClampNeg).length) (n := 600 + 1100 * (y.2 ++ dgl x.toNatClampNeg).length) (by omega) (by omega) (kk (by show (y.2 ++ dgl x.toNatClampNeg).length < 520; omega))
theorem J_tP (hX : FX G own cc nL p s m args c) (hB : y.2.length < 520) {host : String} {yy : MethodName} {cd : ByteArray} {mL n9 index : Nat} {ret : Option FieldType} {rm : Room} {v : Option Value} (As rest : List Value) (hM : CTP G l yy cd mL ret rm 0 0 As (TH G y) (fun v9 H => v9 = v ∧ TH G y H)) (mi : MI yy cd mL ret n9) (mv : Cond.static yy ∈ WALL) (hw : (own, index, yy, host) ∈ nestL) (hrm : 0 ≤ rm.cells ∧ 0 ≤ rm.slots ∧ rm.frames + 1 ≤ R.frames ∧ 8 + (mL + 11) + rm.locals ≤ R.locals) (hrc : (rm.cells, rm.slots) = (0, 0)) (hn : As.length = n9) (hst : st = As.reverse ++ rest) (hcat : (rest.map fun v => v.category).sum ≤ 8) (hr : 700 ≤ R.cells ∧ 700000 ≤ R.slots)
    (hdg : decode cc pc = .ok (.invokestatic index, 3)) (ht : pc + 3 = t) (kk : J G p l e R s m args below meth c nL (60 + y.2.length) (600 + 1100 * y.2.length) Q (TH G y) t lc (v.toList ++ rest)) : J G p l e R s m args below meth c nL (60 + y.2.length) (600 + 1100 * y.2.length) Q (TH G y) pc lc st := by
  obtain ⟨r1, r2⟩ := Prod.mk.inj hrc
  refine J_callSNP hX As rest hM mi mv hw ⟨r1, r2, hrm.2.2⟩ hn hst hcat ⟨by have := hr.1; omega, by have := hr.2; omega⟩ hdg ht (fun v9 => J_pure fun hv => ?_)
  subst hv
  exact kk
theorem J_tW (hX : FX G own cc nL p s m args c) (hAll : ∀ q, g0 G ≤ q → gA G q) (hB : y.2.length < 520) {yy : MethodName} {cd : ByteArray} {mL n9 index mc ms : Nat} {ret : Option FieldType} {rm : Room} {v : Option Value} {V2 : MM} (As rest st2 : List Value) (hM : ∀ zz, CTP (upK G (gn G) (KwA G) zz) l yy cd mL ret rm mc ms (.ref (adW G 0) :: As) (WH (upK G (gn G) (KwA G) zz) Tr y.1) (fun v9 H => v9 = v ∧ WH (upK G (gn G) (KwA G) zz) Tr V2 H)) (hz : (V2, y.2) = y2) (mi : MI yy cd mL ret n9) (mv : MV yy) (cb : CB 10 yy.cls TX13 12 tyX13) (hw : Cond.methodLink own index yy ∈ WALL) (hrm : rm.cells = mc ∧ rm.slots = ms ∧ rm.frames + 1 ≤ R.frames ∧ 8 + (mL + 11) + rm.locals ≤ R.locals) (hn : As.length = n9) (hst : st = As.reverse ++ .ref (adW G 0) :: rest) (hcat : (rest.map fun v => v.category).sum ≤ 8) (hmc : mc ≤ 1 ∧ ms ≤ 9) (hr : 700 ≤ R.cells ∧ 700000 ≤ R.slots)
    (hdg : decode cc pc = .ok (.invokevirtual index, 3)) (ht : pc + 3 = t) (hst2 : v.toList ++ rest = st2) (kk : y2.2.length < 520 → J G p l e R s m args below meth c nL (60 + y2.2.length + mc) (600 + 1100 * y2.2.length + ms) Q (TH G y2) t lc st2) : J G p l e R s m args below meth c nL (60 + y.2.length) (600 + 1100 * y.2.length) Q (TH G y) pc lc st := by
  subst hst2; subst hz
  refine J_xV hX (n := gn G) (K := KwA G) (fun q hq => hAll q hq.1) (I1 := fun zz => WH (upK G (gn G) (KwA G) zz) Tr y.1) (P1 := fun zz v9 H => v9 = v ∧ WH (upK G (gn G) (KwA G) zz) Tr V2 H) (I2 := fun v9 H1 => v9 = v ∧ TH G (V2, y.2) H1) As rest hM mi mv cb (fun H h => by obtain ⟨_, _, _, _, _, _, h9⟩ := h; exact ⟨_, kW0 H h9⟩) (fun H h => by obtain ⟨_, _, _, _, _, _, h9⟩ := h; exact ⟨⟨h9.1.1, fun j hj => Or.inl (adW_K hj)⟩, trivial⟩)
    (fun H H1 v9 h a b d => ⟨a.1, by
      obtain ⟨q, cap, ml, bs, g1, g2, g3⟩ := h
      exact ⟨q, cap, ml, bs, g1, ⟨g2.1.kept (d _ g2.1.lt (fun hk => by have := hk.2; unfold adW at this; omega)), g2.2.kept (d _ g2.2.lt (fun hk => by have := hk.2; have := g1.1.1.1; omega))⟩, ⟨a.2.1.1, fun j hj => hAll _ (Nat.le_add_right _ _)⟩, trivial⟩⟩) hw hrm hn hst hcat ⟨by have := hr.1; omega, by have := hr.2; omega⟩ hdg ht (fun v9 => J_pure fun hv => ?_)
  subst hv
  exact kk hB
theorem J_tRet (hX : FX G own cc nL p s m args c) (hR : meth.sig.returnType = some (.object RX13)) (hlk : meth.locks = false) (hB : y.2.length < 520) (hdg : decode cc pc = .ok (.areturn, 1)) : J G p l e R s m args below meth c nL (60 + y.2.length) (600 + 1100 * y.2.length) (MQ below (QP G (fun v9 H => v9 = some (.ref (adW G 0)) ∧ TH G y H)) args s 700 700000 (gA G)) (TH G y) pc lc [.ref (adW G 0)] :=
  J_wid (k := 700) (n := 700000) (by omega) (by omega) (J_aretP hX hR (Or.inl ⟨_, rfl⟩) hlk (fun H h => ⟨rfl, h⟩) hdg)
end TROWS
abbrev rmX13_grown : Room := { frames := 6, cells := 700, slots := 700000, locals := 320 }
theorem miX13_grown : MI yX13_grown cX13_grown 13 (some (.object RX13)) 1 := ⟨p_1009, p_25, by decide +kernel, by decide +kernel, by decide +kernel, by decide +kernel⟩
def FW_grown_B594 (n : Nat) (N : Nat) (f : Nat → Int32) (rc385 : (MM × List Nat) → Nat → Int32 → Int32 → Int32 → Int32 → Option (MM × List Nat)) (rc220 : (MM × List Nat) → Nat → Int32 → Int32 → Int32 → Option (MM × List Nat)) (rc53 : (MM × List Nat) → Nat → Int32 → Int32 → Option (MM × List Nat)) (y : MM × List Nat) (l2 : Nat) (l4 : Int32) (l5 : Int32) (l6 : Int32) (l7 : Int32) : Option (MM × List Nat) :=
  rc385 y l2 l4 l5 l6 (l7 + 1)
set_option maxHeartbeats 4000000 in
set_option maxRecDepth 100000 in
theorem BW_grown_594 {G : GG} {l : Launch} (hAll : ∀ q, g0 G ≤ q → gA G q) {p : Program} {e : Env} {s : State} {m : MethodId} {args : Array Value} {below : List Frame} {meth : Method} {c : Code} (hX : FX G RX13 cX13_grown 13 p s m args c) (hR : meth.sig.returnType = (some (.object RX13))) (hlk : meth.locks = false) {rw : MM × List Nat} (n : Nat) (rc385 : (MM × List Nat) → Nat → Int32 → Int32 → Int32 → Int32 → Option (MM × List Nat)) (hrc385 : ∀ (y : MM × List Nat) (l2 : Nat) (l4 : Int32) (l5 : Int32) (l6 : Int32) (l7 : Int32) (hB_y : y.2.length < 520) (hl2 : l2 < 11), rc385 y l2 l4 l5 l6 l7 = some rw → J G p l e rmX13_grown s m args below meth c 13 (60 + y.2.length) (600 + 1100 * y.2.length) (MQ below (QP G (fun v9 H => v9 = some (.ref (adW G 0)) ∧ TH G rw H)) args s 700 700000 (gA G)) (TH G y) 385 [(0, .ref (ga G 90)), (1, .ref (adW G 0)), (2, .ref (ga G (50 + l2))), (3, .ref (adW G 50)), (4, .int l4), (5, .int l5), (6, .int l6), (7, .int l7)] []) (rc220 : (MM × List Nat) → Nat → Int32 → Int32 → Int32 → Option (MM × List Nat)) (hrc220 : ∀ (y : MM × List Nat) (l2 : Nat) (l4 : Int32) (l5 : Int32) (l6 : Int32) (hB_y : y.2.length < 520) (hl2 : l2 < 11), rc220 y l2 l4 l5 l6 = some rw → J G p l e rmX13_grown s m args below meth c 13 (60 + y.2.length) (600 + 1100 * y.2.length) (MQ below (QP G (fun v9 H => v9 = some (.ref (adW G 0)) ∧ TH G rw H)) args s 700 700000 (gA G)) (TH G y) 220 [(0, .ref (ga G 90)), (1, .ref (adW G 0)), (2, .ref (ga G (50 + l2))), (3, .ref (adW G 50)), (4, .int l4), (5, .int l5), (6, .int l6)] []) (rc53 : (MM × List Nat) → Nat → Int32 → Int32 → Option (MM × List Nat)) (hrc53 : ∀ (y : MM × List Nat) (l2 : Nat) (l4 : Int32) (l5 : Int32) (hB_y : y.2.length < 520) (hl2 : l2 < 11), rc53 y l2 l4 l5 = some rw → J G p l e rmX13_grown s m args below meth c 13 (60 + y.2.length) (600 + 1100 * y.2.length) (MQ below (QP G (fun v9 H => v9 = some (.ref (adW G 0)) ∧ TH G rw H)) args s 700 700000 (gA G)) (TH G y) 53 [(0, .ref (ga G 90)), (1, .ref (adW G 0)), (2, .ref (ga G (50 + l2))), (3, .ref (adW G 50)), (4, .int l4), (5, .int l5)] []) (y : MM × List Nat) (l2 : Nat) (l4 : Int32) (l5 : Int32) (l6 : Int32) (l7 : Int32) (hB_y : y.2.length < 520) (hl2 : l2 < 11) (hF : FW_grown_B594 n (gN G) (gX G) rc385 rc220 rc53 y l2 l4 l5 l6 l7 = some rw) : J G p l e rmX13_grown s m args below meth c 13 (60 + y.2.length) (600 + 1100 * y.2.length) (MQ below (QP G (fun v9 H => v9 = some (.ref (adW G 0)) ∧ TH G rw H)) args s 700 700000 (gA G)) (TH G y) 594 [(0, .ref (ga G 90)), (1, .ref (adW G 0)), (2, .ref (ga G (50 + l2))), (3, .ref (adW G 50)), (4, .int l4), (5, .int l5), (6, .int l6), (7, .int l7)] [] := by
  unfold FW_grown_B594 at hF
  refine J_iinc (v := l7 + 1) (lc2 := [(7, .int (l7 + 1)), (0, .ref (ga G 90)), (1, .ref (adW G 0)), (2, .ref (ga G (50 + l2))), (3, .ref (adW G 50)), (4, .int l4), (5, .int l5), (6, .int l6)]) hX dX13_grown_594 7 rfl rfl (Nat.le_of_ble_eq_true rfl) rfl (t := 597) rfl ?_
  refine J_goto (tgt := 385) hX dX13_grown_597 (by decide) ?_
  refine J_sub (lc2 := [(0, .ref (ga G 90)), (1, .ref (adW G 0)), (2, .ref (ga G (50 + l2))), (3, .ref (adW G 50)), (4, .int l4), (5, .int l5), (6, .int l6), (7, .int (l7 + 1))]) [1, 2, 3, 4, 5, 6, 7, 0] rfl ?_
  exact hrc385 y l2 l4 l5 l6 (l7 + 1) hB_y hl2 hF
def FW_grown_B529 (n : Nat) (N : Nat) (f : Nat → Int32) (rc385 : (MM × List Nat) → Nat → Int32 → Int32 → Int32 → Int32 → Option (MM × List Nat)) (rc220 : (MM × List Nat) → Nat → Int32 → Int32 → Int32 → Option (MM × List Nat)) (rc53 : (MM × List Nat) → Nat → Int32 → Int32 → Option (MM × List Nat)) (y : MM × List Nat) (l2 : Nat) (l4 : Int32) (l5 : Int32) (l6 : Int32) (l7 : Int32) : Option (MM × List Nat) :=
  bo1 (FQ_pick N f (140 + l7) 3) fun x24 =>
  if x24 ≤ 0 then
    bo1 (FQ_pick N f (150 + l7) 20) fun x26 =>
    bo2 (FW_pass n y.1 (1 + x26)) fun x28 M29 =>
    bnd ((M29, y.2)) fun y30 =>
    gd (decide (y30.2.length < 500)) <|
    bnd ((y30.1, y30.2 ++ wlN 7)) fun y33 =>
    bo1 (FQ_pick N f (150 + l7) 20) fun x36 =>
    gd (decide (3 ≤ y33.2.length ∧ y33.2.length < 500) && inb (1 + x36) 10000) <|
    bnd ((y33.1, y33.2 ++ dgl (1 + x36).toNatClampNeg)) fun y38 =>
    gd (decide (y38.2.length < 500)) <|
    bnd ((y38.1, y38.2 ++ wlN l2)) fun y41 =>
    FW_grown_B594 n N f rc385 rc220 rc53 y41 l2 l4 l5 l6 l7
  else
    FW_grown_B594 n N f rc385 rc220 rc53 y l2 l4 l5 l6 l7
set_option maxHeartbeats 4000000 in
set_option maxRecDepth 100000 in
theorem BW_grown_529 {G : GG} {l : Launch} (hAll : ∀ q, g0 G ≤ q → gA G q) {p : Program} {e : Env} {s : State} {m : MethodId} {args : Array Value} {below : List Frame} {meth : Method} {c : Code} (hX : FX G RX13 cX13_grown 13 p s m args c) (hR : meth.sig.returnType = (some (.object RX13))) (hlk : meth.locks = false) {rw : MM × List Nat} (n : Nat) (rc385 : (MM × List Nat) → Nat → Int32 → Int32 → Int32 → Int32 → Option (MM × List Nat)) (hrc385 : ∀ (y : MM × List Nat) (l2 : Nat) (l4 : Int32) (l5 : Int32) (l6 : Int32) (l7 : Int32) (hB_y : y.2.length < 520) (hl2 : l2 < 11), rc385 y l2 l4 l5 l6 l7 = some rw → J G p l e rmX13_grown s m args below meth c 13 (60 + y.2.length) (600 + 1100 * y.2.length) (MQ below (QP G (fun v9 H => v9 = some (.ref (adW G 0)) ∧ TH G rw H)) args s 700 700000 (gA G)) (TH G y) 385 [(0, .ref (ga G 90)), (1, .ref (adW G 0)), (2, .ref (ga G (50 + l2))), (3, .ref (adW G 50)), (4, .int l4), (5, .int l5), (6, .int l6), (7, .int l7)] []) (rc220 : (MM × List Nat) → Nat → Int32 → Int32 → Int32 → Option (MM × List Nat)) (hrc220 : ∀ (y : MM × List Nat) (l2 : Nat) (l4 : Int32) (l5 : Int32) (l6 : Int32) (hB_y : y.2.length < 520) (hl2 : l2 < 11), rc220 y l2 l4 l5 l6 = some rw → J G p l e rmX13_grown s m args below meth c 13 (60 + y.2.length) (600 + 1100 * y.2.length) (MQ below (QP G (fun v9 H => v9 = some (.ref (adW G 0)) ∧ TH G rw H)) args s 700 700000 (gA G)) (TH G y) 220 [(0, .ref (ga G 90)), (1, .ref (adW G 0)), (2, .ref (ga G (50 + l2))), (3, .ref (adW G 50)), (4, .int l4), (5, .int l5), (6, .int l6)] []) (rc53 : (MM × List Nat) → Nat → Int32 → Int32 → Option (MM × List Nat)) (hrc53 : ∀ (y : MM × List Nat) (l2 : Nat) (l4 : Int32) (l5 : Int32) (hB_y : y.2.length < 520) (hl2 : l2 < 11), rc53 y l2 l4 l5 = some rw → J G p l e rmX13_grown s m args below meth c 13 (60 + y.2.length) (600 + 1100 * y.2.length) (MQ below (QP G (fun v9 H => v9 = some (.ref (adW G 0)) ∧ TH G rw H)) args s 700 700000 (gA G)) (TH G y) 53 [(0, .ref (ga G 90)), (1, .ref (adW G 0)), (2, .ref (ga G (50 + l2))), (3, .ref (adW G 50)), (4, .int l4), (5, .int l5)] []) (y : MM × List Nat) (l2 : Nat) (l4 : Int32) (l5 : Int32) (l6 : Int32) (l7 : Int32) (hB_y : y.2.length < 520) (hl2 : l2 < 11) (hF : FW_grown_B529 n (gN G) (gX G) rc385 rc220 rc53 y l2 l4 l5 l6 l7 = some rw) : J G p l e rmX13_grown s m args below meth c 13 (60 + y.2.length) (600 + 1100 * y.2.length) (MQ below (QP G (fun v9 H => v9 = some (.ref (adW G 0)) ∧ TH G rw H)) args s 700 700000 (gA G)) (TH G y) 529 [(0, .ref (ga G 90)), (1, .ref (adW G 0)), (2, .ref (ga G (50 + l2))), (3, .ref (adW G 50)), (4, .int l4), (5, .int l5), (6, .int l6), (7, .int l7)] [] := by
  unfold FW_grown_B529 at hF
  refine J_aload_n hX dX13_grown_529 0 rfl (t := 530) rfl ?_
  refine J_sipush (v := 140) hX dX13_grown_530 (by decide) (t := 533) rfl ?_
  refine J_iload hX dX13_grown_533 7 rfl (t := 535) rfl ?_
  refine J_iadd hX dX13_grown_535 (t := 536) rfl ?_
  refine J_iconst (v := 3) hX dX13_grown_536 (by decide) (t := 537) rfl ?_
  obtain ⟨x24, h23, hF⟩ := bo1_e hF
  refine J_tP hX hB_y [.ref (ga G 90), .int (140 + l7), .int 3] [] (ctQ_pick (G := G) (l := l) (140 + l7) 3 h23) miL_pick p_1069 (List.mem_of_getElem? (i := 12) rfl) ⟨Nat.le_of_ble_eq_true rfl, Nat.le_of_ble_eq_true rfl, Nat.le_of_ble_eq_true rfl, Nat.le_of_ble_eq_true rfl⟩ rfl rfl rfl (Nat.le_of_ble_eq_true rfl) ⟨Nat.le_of_ble_eq_true rfl, Nat.le_of_ble_eq_true rfl⟩ dX13_grown_537 (t := 540) rfl ?_
  refine J_if_le (tgt := 546) hX dX13_grown_540 (by decide) (t := 543) rfl (fun zc => ?_) (fun zc => ?_)
  · replace hF := it_t hF zc
    refine J_aload_n hX dX13_grown_546 1 rfl (t := 547) rfl ?_
    refine J_iconst (v := 1) hX dX13_grown_547 (by decide) (t := 548) rfl ?_
    refine J_aload_n hX dX13_grown_548 0 rfl (t := 549) rfl ?_
    refine J_sipush (v := 150) hX dX13_grown_549 (by decide) (t := 552) rfl ?_
    refine J_iload hX dX13_grown_552 7 rfl (t := 554) rfl ?_
    refine J_iadd hX dX13_grown_554 (t := 555) rfl ?_
    refine J_bipush (v := 20) hX dX13_grown_555 (by decide) (t := 557) rfl ?_
    obtain ⟨x26, h25, hF⟩ := bo1_e hF
    refine J_tP hX hB_y [.ref (ga G 90), .int (150 + l7), .int 20] [.int 1, .ref (adW G 0)] (ctQ_pick (G := G) (l := l) (150 + l7) 20 h25) miL_pick p_1069 (List.mem_of_getElem? (i := 12) rfl) ⟨Nat.le_of_ble_eq_true rfl, Nat.le_of_ble_eq_true rfl, Nat.le_of_ble_eq_true rfl, Nat.le_of_ble_eq_true rfl⟩ rfl rfl rfl (Nat.le_of_ble_eq_true rfl) ⟨Nat.le_of_ble_eq_true rfl, Nat.le_of_ble_eq_true rfl⟩ dX13_grown_557 (t := 560) rfl ?_
    refine J_iadd hX dX13_grown_560 (t := 561) rfl ?_
    obtain ⟨x28, M29, h27, hF⟩ := bo2_e hF
    obtain ⟨y30, e31, hF⟩ := bnd_e hF
    refine J_tW hX hAll hB_y [.int (1 + x26)] [] [.int x28] (fun zz => ctW_pass (G := upK G (gn G) (KwA G) zz) (l := l) y.1 (1 + x26) n h27) e31 miX13_pass mvX13_pass cb10 p_1237 ⟨rfl, rfl, Nat.le_of_ble_eq_true rfl, Nat.le_of_ble_eq_true rfl⟩ rfl rfl (Nat.le_of_ble_eq_true rfl) ⟨Nat.le_of_ble_eq_true rfl, Nat.le_of_ble_eq_true rfl⟩ ⟨Nat.le_of_ble_eq_true rfl, Nat.le_of_ble_eq_true rfl⟩ dX13_grown_561 (t := 564) rfl rfl (fun hB_y30 => ?_)
    refine J_istore (lc2 := [(12, .int x28), (0, .ref (ga G 90)), (1, .ref (adW G 0)), (2, .ref (ga G (50 + l2))), (3, .ref (adW G 50)), (4, .int l4), (5, .int l5), (6, .int l6), (7, .int l7)]) hX dX13_grown_564 (Nat.le_of_ble_eq_true rfl) rfl (t := 566) rfl ?_
    refine J_aload_n hX dX13_grown_566 4 rfl (t := 567) rfl ?_
    refine J_ldcStr (i := 7) hX (List.mem_of_getElem? (i := 8) rfl) dX13_grown_567 (t := 569) rfl ?_
    obtain ⟨g32, hF⟩ := gd_e hF
    obtain ⟨y33, e34, hF⟩ := bnd_e hF
    refine J_tWord (mc := 0) (ms := 0) hX hAll (i := 7) (by decide) (of_decide_eq_true g32) (lw_pos (by decide)) e34 p_1080 ⟨Nat.le_of_ble_eq_true rfl, Nat.le_of_ble_eq_true rfl, Nat.le_of_ble_eq_true rfl, Nat.le_of_ble_eq_true rfl⟩ ⟨Nat.le_of_ble_eq_true rfl, Nat.le_of_ble_eq_true rfl⟩ (Nat.le_of_ble_eq_true rfl) dX13_grown_569 (t := 572) rfl (fun hB_y33 => ?_)
    refine J_iconst (v := 1) hX dX13_grown_572 (by decide) (t := 573) rfl ?_
    refine J_aload_n hX dX13_grown_573 1 rfl (t := 574) rfl ?_
    refine J_sipush (v := 150) hX dX13_grown_574 (by decide) (t := 577) rfl ?_
    refine J_iload hX dX13_grown_577 8 rfl (t := 579) rfl ?_
    refine J_iadd hX dX13_grown_579 (t := 580) rfl ?_
    refine J_bipush (v := 20) hX dX13_grown_580 (by decide) (t := 582) rfl ?_
    obtain ⟨x36, h35, hF⟩ := bo1_e hF
    refine J_tP hX hB_y33 [.ref (ga G 90), .int (150 + l7), .int 20] [.int 1, .ref (adW G 50)] (ctQ_pick (G := G) (l := l) (150 + l7) 20 h35) miL_pick p_1069 (List.mem_of_getElem? (i := 12) rfl) ⟨Nat.le_of_ble_eq_true rfl, Nat.le_of_ble_eq_true rfl, Nat.le_of_ble_eq_true rfl, Nat.le_of_ble_eq_true rfl⟩ rfl rfl rfl (Nat.le_of_ble_eq_true rfl) ⟨Nat.le_of_ble_eq_true rfl, Nat.le_of_ble_eq_true rfl⟩ dX13_grown_582 (t := 585) rfl ?_
    refine J_iadd hX dX13_grown_585 (t := 586) rfl ?_
    obtain ⟨g37, hF⟩ := gd_e hF
    obtain ⟨y38, e39, hF⟩ := bnd_e hF
    refine J_tInt hX hAll g37 e39 p_1197 ⟨Nat.le_of_ble_eq_true rfl, Nat.le_of_ble_eq_true rfl, Nat.le_of_ble_eq_true rfl, Nat.le_of_ble_eq_true rfl⟩ (Nat.le_of_ble_eq_true rfl) dX13_grown_586 (t := 589) rfl (fun hB_y38 => ?_)
    refine J_aload_n hX dX13_grown_589 3 rfl (t := 590) rfl ?_
    obtain ⟨g40, hF⟩ := gd_e hF
    obtain ⟨y41, e42, hF⟩ := bnd_e hF
    refine J_tWord (mc := 0) (ms := 0) hX hAll (i := l2) hl2 (of_decide_eq_true g40) (lw_pos hl2) e42 p_1080 ⟨Nat.le_of_ble_eq_true rfl, Nat.le_of_ble_eq_true rfl, Nat.le_of_ble_eq_true rfl, Nat.le_of_ble_eq_true rfl⟩ ⟨Nat.le_of_ble_eq_true rfl, Nat.le_of_ble_eq_true rfl⟩ (Nat.le_of_ble_eq_true rfl) dX13_grown_590 (t := 593) rfl (fun hB_y41 => ?_)
    refine J_pop hX dX13_grown_593 rfl (t := 594) rfl ?_
    refine J_sub (lc2 := [(0, .ref (ga G 90)), (1, .ref (adW G 0)), (2, .ref (ga G (50 + l2))), (3, .ref (adW G 50)), (4, .int l4), (5, .int l5), (6, .int l6), (7, .int l7)]) [1, 2, 3, 4, 5, 6, 7, 8] rfl ?_
    exact BW_grown_594 hAll hX hR hlk n rc385 hrc385 rc220 hrc220 rc53 hrc53 y41 l2 l4 l5 l6 l7 hB_y41 hl2 hF
  · replace hF := it_f hF zc
    refine J_goto (tgt := 594) hX dX13_grown_543 (by decide) ?_
    refine J_sub (lc2 := [(0, .ref (ga G 90)), (1, .ref (adW G 0)), (2, .ref (ga G (50 + l2))), (3, .ref (adW G 50)), (4, .int l4), (5, .int l5), (6, .int l6), (7, .int l7)]) [0, 1, 2, 3, 4, 5, 6, 7] rfl ?_
    exact BW_grown_594 hAll hX hR hlk n rc385 hrc385 rc220 hrc220 rc53 hrc53 y l2 l4 l5 l6 l7 hB_y hl2 hF
def FW_grown_L385 (n : Nat) (N : Nat) (f : Nat → Int32) (rc220 : (MM × List Nat) → Nat → Int32 → Int32 → Int32 → Option (MM × List Nat)) (rc53 : (MM × List Nat) → Nat → Int32 → Int32 → Option (MM × List Nat)) : Nat → (MM × List Nat) → Nat → Int32 → Int32 → Int32 → Int32 → Option (MM × List Nat)
  | 0 => fun _ _ _ _ _ _ => none
  | k + 1 => fun y l2 l4 l5 l6 l7 =>
    let rc385 := FW_grown_L385 n N f rc220 rc53 k
    if l6 ≤ l7 then
      some y
    else
      bo1 (FQ_pick N f (100 + l7) l5) fun x14 =>
      bo1 (FQ_pick N f (110 + l7) l4) fun x16 =>
      bo1 (FQ_pick N f (120 + l7) 20) fun x18 =>
      bo1 (FQ_pick N f (130 + l7) 4) fun x20 =>
      bo1 (FW_refusal n y.1 x14 x16 (1 + x20)) fun x22 =>
      if x22 = 0 then
        bo2 (FW_sell y.1 x14 x16 (1 + x18) (1 + x20)) fun x44 M45 =>
        bnd ((M45, y.2)) fun y46 =>
        gd (decide (y46.2.length < 500)) <|
        bnd ((y46.1, y46.2 ++ wlN 8)) fun y49 =>
        gd (decide (y49.2.length < 500) && inb x14 20) <|
        bnd ((y49.1, y49.2 ++ [97 + x14.toNatClampNeg])) fun y52 =>
        gd (decide (y52.2.length < 500)) <|
        bnd ((y52.1, y52.2 ++ wlN 2)) fun y55 =>
        gd (decide (y55.2.length < 500) && inb x16 20) <|
        bnd ((y55.1, y55.2 ++ [97 + x16.toNatClampNeg])) fun y58 =>
        gd (decide (y58.2.length < 500)) <|
        bnd ((y58.1, y58.2 ++ wlN 0)) fun y61 =>
        gd (decide (3 ≤ y61.2.length ∧ y61.2.length < 500) && inb (1 + x18) 10000) <|
        bnd ((y61.1, y61.2 ++ dgl (1 + x18).toNatClampNeg)) fun y64 =>
        gd (decide (y64.2.length < 500)) <|
        bnd ((y64.1, y64.2 ++ wlN 0)) fun y67 =>
        gd (decide (3 ≤ y67.2.length ∧ y67.2.length < 500) && inb (1 + x20) 10000) <|
        bnd ((y67.1, y67.2 ++ dgl (1 + x20).toNatClampNeg)) fun y70 =>
        gd (decide (y70.2.length < 500)) <|
        bnd ((y70.1, y70.2 ++ wlN l2)) fun y73 =>
        FW_grown_B529 n N f rc385 rc220 rc53 y73 l2 l4 l5 l6 l7
      else
        FW_grown_B529 n N f rc385 rc220 rc53 y l2 l4 l5 l6 l7
set_option maxHeartbeats 4000000 in
set_option maxRecDepth 100000 in
theorem LW_grown_385 {G : GG} {l : Launch} (hAll : ∀ q, g0 G ≤ q → gA G q) {p : Program} {e : Env} {s : State} {m : MethodId} {args : Array Value} {below : List Frame} {meth : Method} {c : Code} (hX : FX G RX13 cX13_grown 13 p s m args c) (hR : meth.sig.returnType = (some (.object RX13))) (hlk : meth.locks = false) {rw : MM × List Nat} (n : Nat) (rc220 : (MM × List Nat) → Nat → Int32 → Int32 → Int32 → Option (MM × List Nat)) (hrc220 : ∀ (y : MM × List Nat) (l2 : Nat) (l4 : Int32) (l5 : Int32) (l6 : Int32) (hB_y : y.2.length < 520) (hl2 : l2 < 11), rc220 y l2 l4 l5 l6 = some rw → J G p l e rmX13_grown s m args below meth c 13 (60 + y.2.length) (600 + 1100 * y.2.length) (MQ below (QP G (fun v9 H => v9 = some (.ref (adW G 0)) ∧ TH G rw H)) args s 700 700000 (gA G)) (TH G y) 220 [(0, .ref (ga G 90)), (1, .ref (adW G 0)), (2, .ref (ga G (50 + l2))), (3, .ref (adW G 50)), (4, .int l4), (5, .int l5), (6, .int l6)] []) (rc53 : (MM × List Nat) → Nat → Int32 → Int32 → Option (MM × List Nat)) (hrc53 : ∀ (y : MM × List Nat) (l2 : Nat) (l4 : Int32) (l5 : Int32) (hB_y : y.2.length < 520) (hl2 : l2 < 11), rc53 y l2 l4 l5 = some rw → J G p l e rmX13_grown s m args below meth c 13 (60 + y.2.length) (600 + 1100 * y.2.length) (MQ below (QP G (fun v9 H => v9 = some (.ref (adW G 0)) ∧ TH G rw H)) args s 700 700000 (gA G)) (TH G y) 53 [(0, .ref (ga G 90)), (1, .ref (adW G 0)), (2, .ref (ga G (50 + l2))), (3, .ref (adW G 50)), (4, .int l4), (5, .int l5)] []) : ∀ (k : Nat) (y : MM × List Nat) (l2 : Nat) (l4 : Int32) (l5 : Int32) (l6 : Int32) (l7 : Int32) (hB_y : y.2.length < 520) (hl2 : l2 < 11), FW_grown_L385 n (gN G) (gX G) rc220 rc53 k y l2 l4 l5 l6 l7 = some rw → J G p l e rmX13_grown s m args below meth c 13 (60 + y.2.length) (600 + 1100 * y.2.length) (MQ below (QP G (fun v9 H => v9 = some (.ref (adW G 0)) ∧ TH G rw H)) args s 700 700000 (gA G)) (TH G y) 385 [(0, .ref (ga G 90)), (1, .ref (adW G 0)), (2, .ref (ga G (50 + l2))), (3, .ref (adW G 50)), (4, .int l4), (5, .int l5), (6, .int l6), (7, .int l7)] [] := by
  intro k
  induction k with
  | zero => intro y l2 l4 l5 l6 l7 hB_y hl2 hF; cases hF
  | succ k ih =>
    intro y l2 l4 l5 l6 l7 hB_y hl2 hF
    simp only [FW_grown_L385] at hF
    generalize hrcd : FW_grown_L385 n (gN G) (gX G) rc220 rc53 k = rc385 at hF ih
    have hrc385 := ih
    refine J_iload hX dX13_grown_385 7 rfl (t := 387) rfl ?_
    refine J_iload hX dX13_grown_387 6 rfl (t := 389) rfl ?_
    refine J_icmp_ge (tgt := 600) hX dX13_grown_389 (by decide) (t := 392) rfl (fun zc => ?_) (fun zc => ?_)
    · replace hF := it_t hF zc
      refine J_aload_n hX dX13_grown_600 1 rfl (t := 601) rfl ?_
      replace hF := Option.some.inj hF
      subst hF
      exact J_tRet hX hR hlk hB_y dX13_grown_601
    · replace hF := it_f hF zc
      refine J_aload_n hX dX13_grown_392 0 rfl (t := 393) rfl ?_
      refine J_bipush (v := 100) hX dX13_grown_393 (by decide) (t := 395) rfl ?_
      refine J_iload hX dX13_grown_395 7 rfl (t := 397) rfl ?_
      refine J_iadd hX dX13_grown_397 (t := 398) rfl ?_
      refine J_iload hX dX13_grown_398 5 rfl (t := 400) rfl ?_
      obtain ⟨x14, h13, hF⟩ := bo1_e hF
      refine J_tP hX hB_y [.ref (ga G 90), .int (100 + l7), .int l5] [] (ctQ_pick (G := G) (l := l) (100 + l7) l5 h13) miL_pick p_1069 (List.mem_of_getElem? (i := 12) rfl) ⟨Nat.le_of_ble_eq_true rfl, Nat.le_of_ble_eq_true rfl, Nat.le_of_ble_eq_true rfl, Nat.le_of_ble_eq_true rfl⟩ rfl rfl rfl (Nat.le_of_ble_eq_true rfl) ⟨Nat.le_of_ble_eq_true rfl, Nat.le_of_ble_eq_true rfl⟩ dX13_grown_400 (t := 403) rfl ?_
      refine J_istore (lc2 := [(8, .int x14), (0, .ref (ga G 90)), (1, .ref (adW G 0)), (2, .ref (ga G (50 + l2))), (3, .ref (adW G 50)), (4, .int l4), (5, .int l5), (6, .int l6), (7, .int l7)]) hX dX13_grown_403 (Nat.le_of_ble_eq_true rfl) rfl (t := 405) rfl ?_
      refine J_aload_n hX dX13_grown_405 1 rfl (t := 406) rfl ?_
      refine J_bipush (v := 110) hX dX13_grown_406 (by decide) (t := 408) rfl ?_
      refine J_iload hX dX13_grown_408 8 rfl (t := 410) rfl ?_
      refine J_iadd hX dX13_grown_410 (t := 411) rfl ?_
      refine J_iload hX dX13_grown_411 5 rfl (t := 413) rfl ?_
      obtain ⟨x16, h15, hF⟩ := bo1_e hF
      refine J_tP hX hB_y [.ref (ga G 90), .int (110 + l7), .int l4] [] (ctQ_pick (G := G) (l := l) (110 + l7) l4 h15) miL_pick p_1069 (List.mem_of_getElem? (i := 12) rfl) ⟨Nat.le_of_ble_eq_true rfl, Nat.le_of_ble_eq_true rfl, Nat.le_of_ble_eq_true rfl, Nat.le_of_ble_eq_true rfl⟩ rfl rfl rfl (Nat.le_of_ble_eq_true rfl) ⟨Nat.le_of_ble_eq_true rfl, Nat.le_of_ble_eq_true rfl⟩ dX13_grown_413 (t := 416) rfl ?_
      refine J_istore (lc2 := [(9, .int x16), (8, .int x14), (0, .ref (ga G 90)), (1, .ref (adW G 0)), (2, .ref (ga G (50 + l2))), (3, .ref (adW G 50)), (4, .int l4), (5, .int l5), (6, .int l6), (7, .int l7)]) hX dX13_grown_416 (Nat.le_of_ble_eq_true rfl) rfl (t := 418) rfl ?_
      refine J_iconst (v := 1) hX dX13_grown_418 (by decide) (t := 419) rfl ?_
      refine J_aload_n hX dX13_grown_419 2 rfl (t := 420) rfl ?_
      refine J_bipush (v := 120) hX dX13_grown_420 (by decide) (t := 422) rfl ?_
      refine J_iload hX dX13_grown_422 9 rfl (t := 424) rfl ?_
      refine J_iadd hX dX13_grown_424 (t := 425) rfl ?_
      refine J_bipush (v := 20) hX dX13_grown_425 (by decide) (t := 427) rfl ?_
      obtain ⟨x18, h17, hF⟩ := bo1_e hF
      refine J_tP hX hB_y [.ref (ga G 90), .int (120 + l7), .int 20] [.int 1] (ctQ_pick (G := G) (l := l) (120 + l7) 20 h17) miL_pick p_1069 (List.mem_of_getElem? (i := 12) rfl) ⟨Nat.le_of_ble_eq_true rfl, Nat.le_of_ble_eq_true rfl, Nat.le_of_ble_eq_true rfl, Nat.le_of_ble_eq_true rfl⟩ rfl rfl rfl (Nat.le_of_ble_eq_true rfl) ⟨Nat.le_of_ble_eq_true rfl, Nat.le_of_ble_eq_true rfl⟩ dX13_grown_427 (t := 430) rfl ?_
      refine J_iadd hX dX13_grown_430 (t := 431) rfl ?_
      refine J_istore (lc2 := [(10, .int (1 + x18)), (9, .int x16), (8, .int x14), (0, .ref (ga G 90)), (1, .ref (adW G 0)), (2, .ref (ga G (50 + l2))), (3, .ref (adW G 50)), (4, .int l4), (5, .int l5), (6, .int l6), (7, .int l7)]) hX dX13_grown_431 (Nat.le_of_ble_eq_true rfl) rfl (t := 433) rfl ?_
      refine J_iconst (v := 1) hX dX13_grown_433 (by decide) (t := 434) rfl ?_
      refine J_aload_n hX dX13_grown_434 3 rfl (t := 435) rfl ?_
      refine J_sipush (v := 130) hX dX13_grown_435 (by decide) (t := 438) rfl ?_
      refine J_iload hX dX13_grown_438 10 rfl (t := 440) rfl ?_
      refine J_iadd hX dX13_grown_440 (t := 441) rfl ?_
      refine J_iconst (v := 4) hX dX13_grown_441 (by decide) (t := 442) rfl ?_
      obtain ⟨x20, h19, hF⟩ := bo1_e hF
      refine J_tP hX hB_y [.ref (ga G 90), .int (130 + l7), .int 4] [.int 1] (ctQ_pick (G := G) (l := l) (130 + l7) 4 h19) miL_pick p_1069 (List.mem_of_getElem? (i := 12) rfl) ⟨Nat.le_of_ble_eq_true rfl, Nat.le_of_ble_eq_true rfl, Nat.le_of_ble_eq_true rfl, Nat.le_of_ble_eq_true rfl⟩ rfl rfl rfl (Nat.le_of_ble_eq_true rfl) ⟨Nat.le_of_ble_eq_true rfl, Nat.le_of_ble_eq_true rfl⟩ dX13_grown_442 (t := 445) rfl ?_
      refine J_iadd hX dX13_grown_445 (t := 446) rfl ?_
      refine J_istore (lc2 := [(11, .int (1 + x20)), (10, .int (1 + x18)), (9, .int x16), (8, .int x14), (0, .ref (ga G 90)), (1, .ref (adW G 0)), (2, .ref (ga G (50 + l2))), (3, .ref (adW G 50)), (4, .int l4), (5, .int l5), (6, .int l6), (7, .int l7)]) hX dX13_grown_446 (Nat.le_of_ble_eq_true rfl) rfl (t := 448) rfl ?_
      refine J_aload_n hX dX13_grown_448 5 rfl (t := 449) rfl ?_
      refine J_iload hX dX13_grown_449 3 rfl (t := 451) rfl ?_
      refine J_iload hX dX13_grown_451 2 rfl (t := 453) rfl ?_
      refine J_iload hX dX13_grown_453 0 rfl (t := 455) rfl ?_
      obtain ⟨x22, h21, hF⟩ := bo1_e hF
      refine J_tW hX hAll hB_y [.int x14, .int x16, .int (1 + x20)] [] [.int x22] (fun zz => ctW_refusal (G := upK G (gn G) (KwA G) zz) (l := l) y.1 x14 x16 (1 + x20) n h21) rfl miX13_refusal mvX13_refusal cb10 p_1227 ⟨rfl, rfl, Nat.le_of_ble_eq_true rfl, Nat.le_of_ble_eq_true rfl⟩ rfl rfl (Nat.le_of_ble_eq_true rfl) ⟨Nat.le_of_ble_eq_true rfl, Nat.le_of_ble_eq_true rfl⟩ ⟨Nat.le_of_ble_eq_true rfl, Nat.le_of_ble_eq_true rfl⟩ dX13_grown_455 (t := 458) rfl rfl (fun _ => ?_)
      refine J_if_ne (tgt := 529) hX dX13_grown_458 (by decide) (t := 461) rfl (fun zc => ?_) (fun zc => ?_)
      · replace hF := it_f hF zc
        refine J_sub (lc2 := [(0, .ref (ga G 90)), (1, .ref (adW G 0)), (2, .ref (ga G (50 + l2))), (3, .ref (adW G 50)), (4, .int l4), (5, .int l5), (6, .int l6), (7, .int l7)]) [4, 5, 6, 7, 8, 9, 10, 11] rfl ?_
        exact BW_grown_529 hAll hX hR hlk n rc385 hrc385 rc220 hrc220 rc53 hrc53 y l2 l4 l5 l6 l7 hB_y hl2 hF
      · replace hF := it_t hF zc
        refine J_aload_n hX dX13_grown_461 5 rfl (t := 462) rfl ?_
        refine J_iload hX dX13_grown_462 3 rfl (t := 464) rfl ?_
        refine J_iload hX dX13_grown_464 2 rfl (t := 466) rfl ?_
        refine J_iload hX dX13_grown_466 1 rfl (t := 468) rfl ?_
        refine J_iload hX dX13_grown_468 0 rfl (t := 470) rfl ?_
        obtain ⟨x44, M45, h43, hF⟩ := bo2_e hF
        obtain ⟨y46, e47, hF⟩ := bnd_e hF
        refine J_tW hX hAll hB_y [.int x14, .int x16, .int (1 + x18), .int (1 + x20)] [] [.int x44] (fun zz => ctW_sell (G := upK G (gn G) (KwA G) zz) (l := l) y.1 x14 x16 (1 + x18) (1 + x20) h43) e47 miX13_sell mvX13_sell cb10 p_1231 ⟨rfl, rfl, Nat.le_of_ble_eq_true rfl, Nat.le_of_ble_eq_true rfl⟩ rfl rfl (Nat.le_of_ble_eq_true rfl) ⟨Nat.le_of_ble_eq_true rfl, Nat.le_of_ble_eq_true rfl⟩ ⟨Nat.le_of_ble_eq_true rfl, Nat.le_of_ble_eq_true rfl⟩ dX13_grown_470 (t := 473) rfl rfl (fun hB_y46 => ?_)
        refine J_istore (lc2 := [(12, .int x44), (11, .int (1 + x20)), (10, .int (1 + x18)), (9, .int x16), (8, .int x14), (0, .ref (ga G 90)), (1, .ref (adW G 0)), (2, .ref (ga G (50 + l2))), (3, .ref (adW G 50)), (4, .int l4), (5, .int l5), (6, .int l6), (7, .int l7)]) hX dX13_grown_473 (Nat.le_of_ble_eq_true rfl) rfl (t := 475) rfl ?_
        refine J_aload_n hX dX13_grown_475 8 rfl (t := 476) rfl ?_
        refine J_ldcStr (i := 8) hX (List.mem_of_getElem? (i := 6) rfl) dX13_grown_476 (t := 478) rfl ?_
        obtain ⟨g48, hF⟩ := gd_e hF
        obtain ⟨y49, e50, hF⟩ := bnd_e hF
        refine J_tWord (mc := 1) (ms := 9) hX hAll (i := 8) (by decide) (of_decide_eq_true g48) (by decide) e50 p_1080 ⟨Nat.le_of_ble_eq_true rfl, Nat.le_of_ble_eq_true rfl, Nat.le_of_ble_eq_true rfl, Nat.le_of_ble_eq_true rfl⟩ ⟨Nat.le_of_ble_eq_true rfl, Nat.le_of_ble_eq_true rfl⟩ (Nat.le_of_ble_eq_true rfl) dX13_grown_478 (t := 481) rfl (fun hB_y49 => ?_)
        refine J_bipush (v := 97) hX dX13_grown_481 (by decide) (t := 483) rfl ?_
        refine J_iload hX dX13_grown_483 4 rfl (t := 485) rfl ?_
        refine J_iadd hX dX13_grown_485 (t := 486) rfl ?_
        refine J_i2c hX dX13_grown_486 (t := 487) rfl ?_
        obtain ⟨g51, hF⟩ := gd_e hF
        obtain ⟨y52, e53, hF⟩ := bnd_e hF
        refine J_tChar hX hAll g51 e53 p_1183 ⟨Nat.le_of_ble_eq_true rfl, Nat.le_of_ble_eq_true rfl, Nat.le_of_ble_eq_true rfl, Nat.le_of_ble_eq_true rfl⟩ (Nat.le_of_ble_eq_true rfl) dX13_grown_487 (t := 490) rfl (fun hB_y52 => ?_)
        refine J_ldcStr (i := 2) hX (List.mem_of_getElem? (i := 7) rfl) dX13_grown_490 (t := 492) rfl ?_
        obtain ⟨g54, hF⟩ := gd_e hF
        obtain ⟨y55, e56, hF⟩ := bnd_e hF
        refine J_tWord (mc := 0) (ms := 0) hX hAll (i := 2) (by decide) (of_decide_eq_true g54) (lw_pos (by decide)) e56 p_1080 ⟨Nat.le_of_ble_eq_true rfl, Nat.le_of_ble_eq_true rfl, Nat.le_of_ble_eq_true rfl, Nat.le_of_ble_eq_true rfl⟩ ⟨Nat.le_of_ble_eq_true rfl, Nat.le_of_ble_eq_true rfl⟩ (Nat.le_of_ble_eq_true rfl) dX13_grown_492 (t := 495) rfl (fun hB_y55 => ?_)
        refine J_bipush (v := 97) hX dX13_grown_495 (by decide) (t := 497) rfl ?_
        refine J_iload hX dX13_grown_497 3 rfl (t := 499) rfl ?_
        refine J_iadd hX dX13_grown_499 (t := 500) rfl ?_
        refine J_i2c hX dX13_grown_500 (t := 501) rfl ?_
        obtain ⟨g57, hF⟩ := gd_e hF
        obtain ⟨y58, e59, hF⟩ := bnd_e hF
        refine J_tChar hX hAll g57 e59 p_1183 ⟨Nat.le_of_ble_eq_true rfl, Nat.le_of_ble_eq_true rfl, Nat.le_of_ble_eq_true rfl, Nat.le_of_ble_eq_true rfl⟩ (Nat.le_of_ble_eq_true rfl) dX13_grown_501 (t := 504) rfl (fun hB_y58 => ?_)
        refine J_ldcStr (i := 0) hX (List.mem_of_getElem? (i := 4) rfl) dX13_grown_504 (t := 506) rfl ?_
        obtain ⟨g60, hF⟩ := gd_e hF
        obtain ⟨y61, e62, hF⟩ := bnd_e hF
        refine J_tWord (mc := 0) (ms := 0) hX hAll (i := 0) (by decide) (of_decide_eq_true g60) (lw_pos (by decide)) e62 p_1080 ⟨Nat.le_of_ble_eq_true rfl, Nat.le_of_ble_eq_true rfl, Nat.le_of_ble_eq_true rfl, Nat.le_of_ble_eq_true rfl⟩ ⟨Nat.le_of_ble_eq_true rfl, Nat.le_of_ble_eq_true rfl⟩ (Nat.le_of_ble_eq_true rfl) dX13_grown_506 (t := 509) rfl (fun hB_y61 => ?_)
        refine J_iload hX dX13_grown_509 2 rfl (t := 511) rfl ?_
        obtain ⟨g63, hF⟩ := gd_e hF
        obtain ⟨y64, e65, hF⟩ := bnd_e hF
        refine J_tInt hX hAll g63 e65 p_1197 ⟨Nat.le_of_ble_eq_true rfl, Nat.le_of_ble_eq_true rfl, Nat.le_of_ble_eq_true rfl, Nat.le_of_ble_eq_true rfl⟩ (Nat.le_of_ble_eq_true rfl) dX13_grown_511 (t := 514) rfl (fun hB_y64 => ?_)
        refine J_ldcStr (i := 0) hX (List.mem_of_getElem? (i := 4) rfl) dX13_grown_514 (t := 516) rfl ?_
        obtain ⟨g66, hF⟩ := gd_e hF
        obtain ⟨y67, e68, hF⟩ := bnd_e hF
        refine J_tWord (mc := 0) (ms := 0) hX hAll (i := 0) (by decide) (of_decide_eq_true g66) (lw_pos (by decide)) e68 p_1080 ⟨Nat.le_of_ble_eq_true rfl, Nat.le_of_ble_eq_true rfl, Nat.le_of_ble_eq_true rfl, Nat.le_of_ble_eq_true rfl⟩ ⟨Nat.le_of_ble_eq_true rfl, Nat.le_of_ble_eq_true rfl⟩ (Nat.le_of_ble_eq_true rfl) dX13_grown_516 (t := 519) rfl (fun hB_y67 => ?_)
        refine J_iload hX dX13_grown_519 1 rfl (t := 521) rfl ?_
        obtain ⟨g69, hF⟩ := gd_e hF
        obtain ⟨y70, e71, hF⟩ := bnd_e hF
        refine J_tInt hX hAll g69 e71 p_1197 ⟨Nat.le_of_ble_eq_true rfl, Nat.le_of_ble_eq_true rfl, Nat.le_of_ble_eq_true rfl, Nat.le_of_ble_eq_true rfl⟩ (Nat.le_of_ble_eq_true rfl) dX13_grown_521 (t := 524) rfl (fun hB_y70 => ?_)
        refine J_aload_n hX dX13_grown_524 7 rfl (t := 525) rfl ?_
        obtain ⟨g72, hF⟩ := gd_e hF
        obtain ⟨y73, e74, hF⟩ := bnd_e hF
        refine J_tWord (mc := 0) (ms := 0) hX hAll (i := l2) hl2 (of_decide_eq_true g72) (lw_pos hl2) e74 p_1080 ⟨Nat.le_of_ble_eq_true rfl, Nat.le_of_ble_eq_true rfl, Nat.le_of_ble_eq_true rfl, Nat.le_of_ble_eq_true rfl⟩ ⟨Nat.le_of_ble_eq_true rfl, Nat.le_of_ble_eq_true rfl⟩ (Nat.le_of_ble_eq_true rfl) dX13_grown_525 (t := 528) rfl (fun hB_y73 => ?_)
        refine J_pop hX dX13_grown_528 rfl (t := 529) rfl ?_
        refine J_sub (lc2 := [(0, .ref (ga G 90)), (1, .ref (adW G 0)), (2, .ref (ga G (50 + l2))), (3, .ref (adW G 50)), (4, .int l4), (5, .int l5), (6, .int l6), (7, .int l7)]) [5, 6, 7, 8, 9, 10, 11, 12] rfl ?_
        exact BW_grown_529 hAll hX hR hlk n rc385 hrc385 rc220 hrc220 rc53 hrc53 y73 l2 l4 l5 l6 l7 hB_y73 hl2 hF
def FW_grown_B380 (n : Nat) (N : Nat) (f : Nat → Int32) (rc220 : (MM × List Nat) → Nat → Int32 → Int32 → Int32 → Option (MM × List Nat)) (rc53 : (MM × List Nat) → Nat → Int32 → Int32 → Option (MM × List Nat)) (y : MM × List Nat) (l2 : Nat) (l4 : Int32) (l5 : Int32) (y0 : Int32) : Option (MM × List Nat) :=
  FW_grown_L385 n N f rc220 rc53 n y l2 l4 l5 y0 0
set_option maxHeartbeats 4000000 in
set_option maxRecDepth 100000 in
theorem BW_grown_380 {G : GG} {l : Launch} (hAll : ∀ q, g0 G ≤ q → gA G q) {p : Program} {e : Env} {s : State} {m : MethodId} {args : Array Value} {below : List Frame} {meth : Method} {c : Code} (hX : FX G RX13 cX13_grown 13 p s m args c) (hR : meth.sig.returnType = (some (.object RX13))) (hlk : meth.locks = false) {rw : MM × List Nat} (n : Nat) (rc220 : (MM × List Nat) → Nat → Int32 → Int32 → Int32 → Option (MM × List Nat)) (hrc220 : ∀ (y : MM × List Nat) (l2 : Nat) (l4 : Int32) (l5 : Int32) (l6 : Int32) (hB_y : y.2.length < 520) (hl2 : l2 < 11), rc220 y l2 l4 l5 l6 = some rw → J G p l e rmX13_grown s m args below meth c 13 (60 + y.2.length) (600 + 1100 * y.2.length) (MQ below (QP G (fun v9 H => v9 = some (.ref (adW G 0)) ∧ TH G rw H)) args s 700 700000 (gA G)) (TH G y) 220 [(0, .ref (ga G 90)), (1, .ref (adW G 0)), (2, .ref (ga G (50 + l2))), (3, .ref (adW G 50)), (4, .int l4), (5, .int l5), (6, .int l6)] []) (rc53 : (MM × List Nat) → Nat → Int32 → Int32 → Option (MM × List Nat)) (hrc53 : ∀ (y : MM × List Nat) (l2 : Nat) (l4 : Int32) (l5 : Int32) (hB_y : y.2.length < 520) (hl2 : l2 < 11), rc53 y l2 l4 l5 = some rw → J G p l e rmX13_grown s m args below meth c 13 (60 + y.2.length) (600 + 1100 * y.2.length) (MQ below (QP G (fun v9 H => v9 = some (.ref (adW G 0)) ∧ TH G rw H)) args s 700 700000 (gA G)) (TH G y) 53 [(0, .ref (ga G 90)), (1, .ref (adW G 0)), (2, .ref (ga G (50 + l2))), (3, .ref (adW G 50)), (4, .int l4), (5, .int l5)] []) (y : MM × List Nat) (l2 : Nat) (l4 : Int32) (l5 : Int32) (y0 : Int32) (hB_y : y.2.length < 520) (hl2 : l2 < 11) (hF : FW_grown_B380 n (gN G) (gX G) rc220 rc53 y l2 l4 l5 y0 = some rw) : J G p l e rmX13_grown s m args below meth c 13 (60 + y.2.length) (600 + 1100 * y.2.length) (MQ below (QP G (fun v9 H => v9 = some (.ref (adW G 0)) ∧ TH G rw H)) args s 700 700000 (gA G)) (TH G y) 380 [(0, .ref (ga G 90)), (1, .ref (adW G 0)), (2, .ref (ga G (50 + l2))), (3, .ref (adW G 50)), (4, .int l4), (5, .int l5)] [.int y0] := by
  unfold FW_grown_B380 at hF
  refine J_istore (lc2 := [(6, .int y0), (0, .ref (ga G 90)), (1, .ref (adW G 0)), (2, .ref (ga G (50 + l2))), (3, .ref (adW G 50)), (4, .int l4), (5, .int l5)]) hX dX13_grown_380 (Nat.le_of_ble_eq_true rfl) rfl (t := 382) rfl ?_
  refine J_iconst (v := 0) hX dX13_grown_382 (by decide) (t := 383) rfl ?_
  refine J_istore (lc2 := [(7, .int 0), (6, .int y0), (0, .ref (ga G 90)), (1, .ref (adW G 0)), (2, .ref (ga G (50 + l2))), (3, .ref (adW G 50)), (4, .int l4), (5, .int l5)]) hX dX13_grown_383 (Nat.le_of_ble_eq_true rfl) rfl (t := 385) rfl ?_
  refine J_sub (lc2 := [(0, .ref (ga G 90)), (1, .ref (adW G 0)), (2, .ref (ga G (50 + l2))), (3, .ref (adW G 50)), (4, .int l4), (5, .int l5), (6, .int y0), (7, .int 0)]) [2, 3, 4, 5, 6, 7, 1, 0] rfl ?_
  exact LW_grown_385 hAll hX hR hlk n rc220 hrc220 rc53 hrc53 n y l2 l4 l5 y0 0 hB_y hl2 hF
def FW_grown_B369 (n : Nat) (N : Nat) (f : Nat → Int32) (rc220 : (MM × List Nat) → Nat → Int32 → Int32 → Int32 → Option (MM × List Nat)) (rc53 : (MM × List Nat) → Nat → Int32 → Int32 → Option (MM × List Nat)) (y : MM × List Nat) (l2 : Nat) (l4 : Int32) (l5 : Int32) : Option (MM × List Nat) :=
  FW_grown_B380 n N f rc220 rc53 y l2 l4 l5 0
set_option maxHeartbeats 4000000 in
set_option maxRecDepth 100000 in
theorem BW_grown_369 {G : GG} {l : Launch} (hAll : ∀ q, g0 G ≤ q → gA G q) {p : Program} {e : Env} {s : State} {m : MethodId} {args : Array Value} {below : List Frame} {meth : Method} {c : Code} (hX : FX G RX13 cX13_grown 13 p s m args c) (hR : meth.sig.returnType = (some (.object RX13))) (hlk : meth.locks = false) {rw : MM × List Nat} (n : Nat) (rc220 : (MM × List Nat) → Nat → Int32 → Int32 → Int32 → Option (MM × List Nat)) (hrc220 : ∀ (y : MM × List Nat) (l2 : Nat) (l4 : Int32) (l5 : Int32) (l6 : Int32) (hB_y : y.2.length < 520) (hl2 : l2 < 11), rc220 y l2 l4 l5 l6 = some rw → J G p l e rmX13_grown s m args below meth c 13 (60 + y.2.length) (600 + 1100 * y.2.length) (MQ below (QP G (fun v9 H => v9 = some (.ref (adW G 0)) ∧ TH G rw H)) args s 700 700000 (gA G)) (TH G y) 220 [(0, .ref (ga G 90)), (1, .ref (adW G 0)), (2, .ref (ga G (50 + l2))), (3, .ref (adW G 50)), (4, .int l4), (5, .int l5), (6, .int l6)] []) (rc53 : (MM × List Nat) → Nat → Int32 → Int32 → Option (MM × List Nat)) (hrc53 : ∀ (y : MM × List Nat) (l2 : Nat) (l4 : Int32) (l5 : Int32) (hB_y : y.2.length < 520) (hl2 : l2 < 11), rc53 y l2 l4 l5 = some rw → J G p l e rmX13_grown s m args below meth c 13 (60 + y.2.length) (600 + 1100 * y.2.length) (MQ below (QP G (fun v9 H => v9 = some (.ref (adW G 0)) ∧ TH G rw H)) args s 700 700000 (gA G)) (TH G y) 53 [(0, .ref (ga G 90)), (1, .ref (adW G 0)), (2, .ref (ga G (50 + l2))), (3, .ref (adW G 50)), (4, .int l4), (5, .int l5)] []) (y : MM × List Nat) (l2 : Nat) (l4 : Int32) (l5 : Int32) (hB_y : y.2.length < 520) (hl2 : l2 < 11) (hF : FW_grown_B369 n (gN G) (gX G) rc220 rc53 y l2 l4 l5 = some rw) : J G p l e rmX13_grown s m args below meth c 13 (60 + y.2.length) (600 + 1100 * y.2.length) (MQ below (QP G (fun v9 H => v9 = some (.ref (adW G 0)) ∧ TH G rw H)) args s 700 700000 (gA G)) (TH G y) 369 [(0, .ref (ga G 90)), (1, .ref (adW G 0)), (2, .ref (ga G (50 + l2))), (3, .ref (adW G 50)), (4, .int l4), (5, .int l5)] [] := by
  unfold FW_grown_B369 at hF
  refine J_iconst (v := 0) hX dX13_grown_369 (by decide) (t := 370) rfl ?_
  refine J_goto (tgt := 380) hX dX13_grown_370 (by decide) ?_
  refine J_sub (lc2 := [(0, .ref (ga G 90)), (1, .ref (adW G 0)), (2, .ref (ga G (50 + l2))), (3, .ref (adW G 50)), (4, .int l4), (5, .int l5)]) [0, 1, 2, 3, 4, 5] rfl ?_
  exact BW_grown_380 hAll hX hR hlk n rc220 hrc220 rc53 hrc53 y l2 l4 l5 0 hB_y hl2 hF
def FW_grown_B301 (n : Nat) (N : Nat) (f : Nat → Int32) (rc220 : (MM × List Nat) → Nat → Int32 → Int32 → Int32 → Option (MM × List Nat)) (rc53 : (MM × List Nat) → Nat → Int32 → Int32 → Option (MM × List Nat)) (y : MM × List Nat) (l2 : Nat) (l4 : Int32) (l5 : Int32) (l6 : Int32) (l7 : Int32) (y0 : Int32) : Option (MM × List Nat) :=
  bo2 (FW_addCustomer y.1 l7 y0) fun x86 M87 =>
  bnd ((M87, y.2)) fun y88 =>
  gd (decide (y88.2.length < 500)) <|
  bnd ((y88.1, y88.2 ++ wlN 5)) fun y91 =>
  gd (decide (y91.2.length < 500) && inb l6 20) <|
  bnd ((y91.1, y91.2 ++ [97 + l6.toNatClampNeg])) fun y94 =>
  gd (decide (y94.2.length < 500)) <|
  bnd ((y94.1, y94.2 ++ wlN 0)) fun y97 =>
  gd (decide (3 ≤ y97.2.length ∧ y97.2.length < 500) && inb l7 10000) <|
  bnd ((y97.1, y97.2 ++ dgl l7.toNatClampNeg)) fun y100 =>
  gd (decide (y100.2.length < 500)) <|
  bnd ((y100.1, y100.2 ++ wlN 0)) fun y103 =>
  gd (decide (3 ≤ y103.2.length ∧ y103.2.length < 500) && inb y0 10000) <|
  bnd ((y103.1, y103.2 ++ dgl y0.toNatClampNeg)) fun y106 =>
  gd (decide (y106.2.length < 500)) <|
  bnd ((y106.1, y106.2 ++ wlN l2)) fun y109 =>
  rc220 y109 l2 l4 l5 (l6 + 1)
set_option maxHeartbeats 4000000 in
set_option maxRecDepth 100000 in
theorem BW_grown_301 {G : GG} {l : Launch} (hAll : ∀ q, g0 G ≤ q → gA G q) {p : Program} {e : Env} {s : State} {m : MethodId} {args : Array Value} {below : List Frame} {meth : Method} {c : Code} (hX : FX G RX13 cX13_grown 13 p s m args c) (hR : meth.sig.returnType = (some (.object RX13))) (hlk : meth.locks = false) {rw : MM × List Nat} (n : Nat) (rc220 : (MM × List Nat) → Nat → Int32 → Int32 → Int32 → Option (MM × List Nat)) (hrc220 : ∀ (y : MM × List Nat) (l2 : Nat) (l4 : Int32) (l5 : Int32) (l6 : Int32) (hB_y : y.2.length < 520) (hl2 : l2 < 11), rc220 y l2 l4 l5 l6 = some rw → J G p l e rmX13_grown s m args below meth c 13 (60 + y.2.length) (600 + 1100 * y.2.length) (MQ below (QP G (fun v9 H => v9 = some (.ref (adW G 0)) ∧ TH G rw H)) args s 700 700000 (gA G)) (TH G y) 220 [(0, .ref (ga G 90)), (1, .ref (adW G 0)), (2, .ref (ga G (50 + l2))), (3, .ref (adW G 50)), (4, .int l4), (5, .int l5), (6, .int l6)] []) (rc53 : (MM × List Nat) → Nat → Int32 → Int32 → Option (MM × List Nat)) (hrc53 : ∀ (y : MM × List Nat) (l2 : Nat) (l4 : Int32) (l5 : Int32) (hB_y : y.2.length < 520) (hl2 : l2 < 11), rc53 y l2 l4 l5 = some rw → J G p l e rmX13_grown s m args below meth c 13 (60 + y.2.length) (600 + 1100 * y.2.length) (MQ below (QP G (fun v9 H => v9 = some (.ref (adW G 0)) ∧ TH G rw H)) args s 700 700000 (gA G)) (TH G y) 53 [(0, .ref (ga G 90)), (1, .ref (adW G 0)), (2, .ref (ga G (50 + l2))), (3, .ref (adW G 50)), (4, .int l4), (5, .int l5)] []) (y : MM × List Nat) (l2 : Nat) (l4 : Int32) (l5 : Int32) (l6 : Int32) (l7 : Int32) (y0 : Int32) (hB_y : y.2.length < 520) (hl2 : l2 < 11) (hF : FW_grown_B301 n (gN G) (gX G) rc220 rc53 y l2 l4 l5 l6 l7 y0 = some rw) : J G p l e rmX13_grown s m args below meth c 13 (60 + y.2.length) (600 + 1100 * y.2.length) (MQ below (QP G (fun v9 H => v9 = some (.ref (adW G 0)) ∧ TH G rw H)) args s 700 700000 (gA G)) (TH G y) 301 [(0, .ref (ga G 90)), (1, .ref (adW G 0)), (2, .ref (ga G (50 + l2))), (3, .ref (adW G 50)), (4, .int l4), (5, .int l5), (6, .int l6), (7, .int l7)] [.int y0] := by
  unfold FW_grown_B301 at hF
  refine J_istore (lc2 := [(8, .int y0), (0, .ref (ga G 90)), (1, .ref (adW G 0)), (2, .ref (ga G (50 + l2))), (3, .ref (adW G 50)), (4, .int l4), (5, .int l5), (6, .int l6), (7, .int l7)]) hX dX13_grown_301 (Nat.le_of_ble_eq_true rfl) rfl (t := 303) rfl ?_
  refine J_aload_n hX dX13_grown_303 2 rfl (t := 304) rfl ?_
  refine J_iload hX dX13_grown_304 8 rfl (t := 306) rfl ?_
  refine J_iload hX dX13_grown_306 0 rfl (t := 308) rfl ?_
  obtain ⟨x86, M87, h85, hF⟩ := bo2_e hF
  obtain ⟨y88, e89, hF⟩ := bnd_e hF
  refine J_tW hX hAll hB_y [.int l7, .int y0] [] [.int x86] (fun zz => ctW_addCustomer (G := upK G (gn G) (KwA G) zz) (l := l) y.1 l7 y0 h85) e89 miX13_addCustomer mvX13_addCustomer cb10 p_1222 ⟨rfl, rfl, Nat.le_of_ble_eq_true rfl, Nat.le_of_ble_eq_true rfl⟩ rfl rfl (Nat.le_of_ble_eq_true rfl) ⟨Nat.le_of_ble_eq_true rfl, Nat.le_of_ble_eq_true rfl⟩ ⟨Nat.le_of_ble_eq_true rfl, Nat.le_of_ble_eq_true rfl⟩ dX13_grown_308 (t := 311) rfl rfl (fun hB_y88 => ?_)
  refine J_istore (lc2 := [(9, .int x86), (8, .int y0), (0, .ref (ga G 90)), (1, .ref (adW G 0)), (2, .ref (ga G (50 + l2))), (3, .ref (adW G 50)), (4, .int l4), (5, .int l5), (6, .int l6), (7, .int l7)]) hX dX13_grown_311 (Nat.le_of_ble_eq_true rfl) rfl (t := 313) rfl ?_
  refine J_aload_n hX dX13_grown_313 5 rfl (t := 314) rfl ?_
  refine J_ldcStr (i := 5) hX (List.mem_of_getElem? (i := 5) rfl) dX13_grown_314 (t := 316) rfl ?_
  obtain ⟨g90, hF⟩ := gd_e hF
  obtain ⟨y91, e92, hF⟩ := bnd_e hF
  refine J_tWord (mc := 1) (ms := 4) hX hAll (i := 5) (by decide) (of_decide_eq_true g90) (by decide) e92 p_1080 ⟨Nat.le_of_ble_eq_true rfl, Nat.le_of_ble_eq_true rfl, Nat.le_of_ble_eq_true rfl, Nat.le_of_ble_eq_true rfl⟩ ⟨Nat.le_of_ble_eq_true rfl, Nat.le_of_ble_eq_true rfl⟩ (Nat.le_of_ble_eq_true rfl) dX13_grown_316 (t := 319) rfl (fun hB_y91 => ?_)
  refine J_bipush (v := 97) hX dX13_grown_319 (by decide) (t := 321) rfl ?_
  refine J_iload hX dX13_grown_321 8 rfl (t := 323) rfl ?_
  refine J_iadd hX dX13_grown_323 (t := 324) rfl ?_
  refine J_i2c hX dX13_grown_324 (t := 325) rfl ?_
  obtain ⟨g93, hF⟩ := gd_e hF
  obtain ⟨y94, e95, hF⟩ := bnd_e hF
  refine J_tChar hX hAll g93 e95 p_1183 ⟨Nat.le_of_ble_eq_true rfl, Nat.le_of_ble_eq_true rfl, Nat.le_of_ble_eq_true rfl, Nat.le_of_ble_eq_true rfl⟩ (Nat.le_of_ble_eq_true rfl) dX13_grown_325 (t := 328) rfl (fun hB_y94 => ?_)
  refine J_ldcStr (i := 0) hX (List.mem_of_getElem? (i := 4) rfl) dX13_grown_328 (t := 330) rfl ?_
  obtain ⟨g96, hF⟩ := gd_e hF
  obtain ⟨y97, e98, hF⟩ := bnd_e hF
  refine J_tWord (mc := 0) (ms := 0) hX hAll (i := 0) (by decide) (of_decide_eq_true g96) (lw_pos (by decide)) e98 p_1080 ⟨Nat.le_of_ble_eq_true rfl, Nat.le_of_ble_eq_true rfl, Nat.le_of_ble_eq_true rfl, Nat.le_of_ble_eq_true rfl⟩ ⟨Nat.le_of_ble_eq_true rfl, Nat.le_of_ble_eq_true rfl⟩ (Nat.le_of_ble_eq_true rfl) dX13_grown_330 (t := 333) rfl (fun hB_y97 => ?_)
  refine J_iload hX dX13_grown_333 9 rfl (t := 335) rfl ?_
  obtain ⟨g99, hF⟩ := gd_e hF
  obtain ⟨y100, e101, hF⟩ := bnd_e hF
  refine J_tInt hX hAll g99 e101 p_1197 ⟨Nat.le_of_ble_eq_true rfl, Nat.le_of_ble_eq_true rfl, Nat.le_of_ble_eq_true rfl, Nat.le_of_ble_eq_true rfl⟩ (Nat.le_of_ble_eq_true rfl) dX13_grown_335 (t := 338) rfl (fun hB_y100 => ?_)
  refine J_ldcStr (i := 0) hX (List.mem_of_getElem? (i := 4) rfl) dX13_grown_338 (t := 340) rfl ?_
  obtain ⟨g102, hF⟩ := gd_e hF
  obtain ⟨y103, e104, hF⟩ := bnd_e hF
  refine J_tWord (mc := 0) (ms := 0) hX hAll (i := 0) (by decide) (of_decide_eq_true g102) (lw_pos (by decide)) e104 p_1080 ⟨Nat.le_of_ble_eq_true rfl, Nat.le_of_ble_eq_true rfl, Nat.le_of_ble_eq_true rfl, Nat.le_of_ble_eq_true rfl⟩ ⟨Nat.le_of_ble_eq_true rfl, Nat.le_of_ble_eq_true rfl⟩ (Nat.le_of_ble_eq_true rfl) dX13_grown_340 (t := 343) rfl (fun hB_y103 => ?_)
  refine J_iload hX dX13_grown_343 1 rfl (t := 345) rfl ?_
  obtain ⟨g105, hF⟩ := gd_e hF
  obtain ⟨y106, e107, hF⟩ := bnd_e hF
  refine J_tInt hX hAll g105 e107 p_1197 ⟨Nat.le_of_ble_eq_true rfl, Nat.le_of_ble_eq_true rfl, Nat.le_of_ble_eq_true rfl, Nat.le_of_ble_eq_true rfl⟩ (Nat.le_of_ble_eq_true rfl) dX13_grown_345 (t := 348) rfl (fun hB_y106 => ?_)
  refine J_aload_n hX dX13_grown_348 4 rfl (t := 349) rfl ?_
  obtain ⟨g108, hF⟩ := gd_e hF
  obtain ⟨y109, e110, hF⟩ := bnd_e hF
  refine J_tWord (mc := 0) (ms := 0) hX hAll (i := l2) hl2 (of_decide_eq_true g108) (lw_pos hl2) e110 p_1080 ⟨Nat.le_of_ble_eq_true rfl, Nat.le_of_ble_eq_true rfl, Nat.le_of_ble_eq_true rfl, Nat.le_of_ble_eq_true rfl⟩ ⟨Nat.le_of_ble_eq_true rfl, Nat.le_of_ble_eq_true rfl⟩ (Nat.le_of_ble_eq_true rfl) dX13_grown_349 (t := 352) rfl (fun hB_y109 => ?_)
  refine J_pop hX dX13_grown_352 rfl (t := 353) rfl ?_
  refine J_iinc (v := l6 + 1) (lc2 := [(6, .int (l6 + 1)), (9, .int x86), (8, .int y0), (0, .ref (ga G 90)), (1, .ref (adW G 0)), (2, .ref (ga G (50 + l2))), (3, .ref (adW G 50)), (4, .int l4), (5, .int l5), (7, .int l7)]) hX dX13_grown_353 8 rfl rfl (Nat.le_of_ble_eq_true rfl) rfl (t := 356) rfl ?_
  refine J_goto (tgt := 220) hX dX13_grown_356 (by decide) ?_
  refine J_sub (lc2 := [(0, .ref (ga G 90)), (1, .ref (adW G 0)), (2, .ref (ga G (50 + l2))), (3, .ref (adW G 50)), (4, .int l4), (5, .int l5), (6, .int (l6 + 1))]) [3, 4, 5, 6, 7, 8, 0] rfl ?_
  exact hrc220 y109 l2 l4 l5 (l6 + 1) hB_y109 hl2 hF
def FW_grown_B255 (n : Nat) (N : Nat) (f : Nat → Int32) (rc220 : (MM × List Nat) → Nat → Int32 → Int32 → Int32 → Option (MM × List Nat)) (rc53 : (MM × List Nat) → Nat → Int32 → Int32 → Option (MM × List Nat)) (y : MM × List Nat) (l2 : Nat) (l4 : Int32) (l5 : Int32) (l6 : Int32) (y0 : Int32) (y1 : Int32) : Option (MM × List Nat) :=
  bo1 (FQ_pick N f y1 y0) fun x80 =>
  bo1 (FQ_pick N f (80 + l6) 3) fun x82 =>
  if x82 = 0 then
    bo1 (FQ_pick N f (90 + l6) 10000) fun x112 =>
    FW_grown_B301 n N f rc220 rc53 y l2 l4 l5 l6 (1 + x80) x112
  else
    bo1 (FQ_pick N f (90 + l6) 300) fun x84 =>
    FW_grown_B301 n N f rc220 rc53 y l2 l4 l5 l6 (1 + x80) x84
set_option maxHeartbeats 4000000 in
set_option maxRecDepth 100000 in
theorem BW_grown_255 {G : GG} {l : Launch} (hAll : ∀ q, g0 G ≤ q → gA G q) {p : Program} {e : Env} {s : State} {m : MethodId} {args : Array Value} {below : List Frame} {meth : Method} {c : Code} (hX : FX G RX13 cX13_grown 13 p s m args c) (hR : meth.sig.returnType = (some (.object RX13))) (hlk : meth.locks = false) {rw : MM × List Nat} (n : Nat) (rc220 : (MM × List Nat) → Nat → Int32 → Int32 → Int32 → Option (MM × List Nat)) (hrc220 : ∀ (y : MM × List Nat) (l2 : Nat) (l4 : Int32) (l5 : Int32) (l6 : Int32) (hB_y : y.2.length < 520) (hl2 : l2 < 11), rc220 y l2 l4 l5 l6 = some rw → J G p l e rmX13_grown s m args below meth c 13 (60 + y.2.length) (600 + 1100 * y.2.length) (MQ below (QP G (fun v9 H => v9 = some (.ref (adW G 0)) ∧ TH G rw H)) args s 700 700000 (gA G)) (TH G y) 220 [(0, .ref (ga G 90)), (1, .ref (adW G 0)), (2, .ref (ga G (50 + l2))), (3, .ref (adW G 50)), (4, .int l4), (5, .int l5), (6, .int l6)] []) (rc53 : (MM × List Nat) → Nat → Int32 → Int32 → Option (MM × List Nat)) (hrc53 : ∀ (y : MM × List Nat) (l2 : Nat) (l4 : Int32) (l5 : Int32) (hB_y : y.2.length < 520) (hl2 : l2 < 11), rc53 y l2 l4 l5 = some rw → J G p l e rmX13_grown s m args below meth c 13 (60 + y.2.length) (600 + 1100 * y.2.length) (MQ below (QP G (fun v9 H => v9 = some (.ref (adW G 0)) ∧ TH G rw H)) args s 700 700000 (gA G)) (TH G y) 53 [(0, .ref (ga G 90)), (1, .ref (adW G 0)), (2, .ref (ga G (50 + l2))), (3, .ref (adW G 50)), (4, .int l4), (5, .int l5)] []) (y : MM × List Nat) (l2 : Nat) (l4 : Int32) (l5 : Int32) (l6 : Int32) (y0 : Int32) (y1 : Int32) (hB_y : y.2.length < 520) (hl2 : l2 < 11) (hF : FW_grown_B255 n (gN G) (gX G) rc220 rc53 y l2 l4 l5 l6 y0 y1 = some rw) : J G p l e rmX13_grown s m args below meth c 13 (60 + y.2.length) (600 + 1100 * y.2.length) (MQ below (QP G (fun v9 H => v9 = some (.ref (adW G 0)) ∧ TH G rw H)) args s 700 700000 (gA G)) (TH G y) 255 [(0, .ref (ga G 90)), (1, .ref (adW G 0)), (2, .ref (ga G (50 + l2))), (3, .ref (adW G 50)), (4, .int l4), (5, .int l5), (6, .int l6)] [.int y0, .int y1, .ref (ga G 90), .int 1] := by
  unfold FW_grown_B255 at hF
  obtain ⟨x80, h79, hF⟩ := bo1_e hF
  refine J_tP hX hB_y [.ref (ga G 90), .int y1, .int y0] [.int 1] (ctQ_pick (G := G) (l := l) y1 y0 h79) miL_pick p_1069 (List.mem_of_getElem? (i := 12) rfl) ⟨Nat.le_of_ble_eq_true rfl, Nat.le_of_ble_eq_true rfl, Nat.le_of_ble_eq_true rfl, Nat.le_of_ble_eq_true rfl⟩ rfl rfl rfl (Nat.le_of_ble_eq_true rfl) ⟨Nat.le_of_ble_eq_true rfl, Nat.le_of_ble_eq_true rfl⟩ dX13_grown_255 (t := 258) rfl ?_
  refine J_iadd hX dX13_grown_258 (t := 259) rfl ?_
  refine J_istore (lc2 := [(7, .int (1 + x80)), (0, .ref (ga G 90)), (1, .ref (adW G 0)), (2, .ref (ga G (50 + l2))), (3, .ref (adW G 50)), (4, .int l4), (5, .int l5), (6, .int l6)]) hX dX13_grown_259 (Nat.le_of_ble_eq_true rfl) rfl (t := 261) rfl ?_
  refine J_aload_n hX dX13_grown_261 1 rfl (t := 262) rfl ?_
  refine J_bipush (v := 80) hX dX13_grown_262 (by decide) (t := 264) rfl ?_
  refine J_iload hX dX13_grown_264 7 rfl (t := 266) rfl ?_
  refine J_iadd hX dX13_grown_266 (t := 267) rfl ?_
  refine J_iconst (v := 3) hX dX13_grown_267 (by decide) (t := 268) rfl ?_
  obtain ⟨x82, h81, hF⟩ := bo1_e hF
  refine J_tP hX hB_y [.ref (ga G 90), .int (80 + l6), .int 3] [] (ctQ_pick (G := G) (l := l) (80 + l6) 3 h81) miL_pick p_1069 (List.mem_of_getElem? (i := 12) rfl) ⟨Nat.le_of_ble_eq_true rfl, Nat.le_of_ble_eq_true rfl, Nat.le_of_ble_eq_true rfl, Nat.le_of_ble_eq_true rfl⟩ rfl rfl rfl (Nat.le_of_ble_eq_true rfl) ⟨Nat.le_of_ble_eq_true rfl, Nat.le_of_ble_eq_true rfl⟩ dX13_grown_268 (t := 271) rfl ?_
  refine J_if_ne (tgt := 289) hX dX13_grown_271 (by decide) (t := 274) rfl (fun zc => ?_) (fun zc => ?_)
  · replace hF := it_f hF zc
    refine J_aload_n hX dX13_grown_289 1 rfl (t := 290) rfl ?_
    refine J_bipush (v := 90) hX dX13_grown_290 (by decide) (t := 292) rfl ?_
    refine J_iload hX dX13_grown_292 7 rfl (t := 294) rfl ?_
    refine J_iadd hX dX13_grown_294 (t := 295) rfl ?_
    refine J_sipush (v := 300) hX dX13_grown_295 (by decide) (t := 298) rfl ?_
    obtain ⟨x84, h83, hF⟩ := bo1_e hF
    refine J_tP hX hB_y [.ref (ga G 90), .int (90 + l6), .int 300] [] (ctQ_pick (G := G) (l := l) (90 + l6) 300 h83) miL_pick p_1069 (List.mem_of_getElem? (i := 12) rfl) ⟨Nat.le_of_ble_eq_true rfl, Nat.le_of_ble_eq_true rfl, Nat.le_of_ble_eq_true rfl, Nat.le_of_ble_eq_true rfl⟩ rfl rfl rfl (Nat.le_of_ble_eq_true rfl) ⟨Nat.le_of_ble_eq_true rfl, Nat.le_of_ble_eq_true rfl⟩ dX13_grown_298 (t := 301) rfl ?_
    refine J_sub (lc2 := [(0, .ref (ga G 90)), (1, .ref (adW G 0)), (2, .ref (ga G (50 + l2))), (3, .ref (adW G 50)), (4, .int l4), (5, .int l5), (6, .int l6), (7, .int (1 + x80))]) [1, 2, 3, 4, 5, 6, 7, 0] rfl ?_
    exact BW_grown_301 hAll hX hR hlk n rc220 hrc220 rc53 hrc53 y l2 l4 l5 l6 (1 + x80) x84 hB_y hl2 hF
  · replace hF := it_t hF zc
    refine J_aload_n hX dX13_grown_274 1 rfl (t := 275) rfl ?_
    refine J_bipush (v := 90) hX dX13_grown_275 (by decide) (t := 277) rfl ?_
    refine J_iload hX dX13_grown_277 7 rfl (t := 279) rfl ?_
    refine J_iadd hX dX13_grown_279 (t := 280) rfl ?_
    refine J_sipush (v := 10000) hX dX13_grown_280 (by decide) (t := 283) rfl ?_
    obtain ⟨x112, h111, hF⟩ := bo1_e hF
    refine J_tP hX hB_y [.ref (ga G 90), .int (90 + l6), .int 10000] [] (ctQ_pick (G := G) (l := l) (90 + l6) 10000 h111) miL_pick p_1069 (List.mem_of_getElem? (i := 12) rfl) ⟨Nat.le_of_ble_eq_true rfl, Nat.le_of_ble_eq_true rfl, Nat.le_of_ble_eq_true rfl, Nat.le_of_ble_eq_true rfl⟩ rfl rfl rfl (Nat.le_of_ble_eq_true rfl) ⟨Nat.le_of_ble_eq_true rfl, Nat.le_of_ble_eq_true rfl⟩ dX13_grown_283 (t := 286) rfl ?_
    refine J_goto (tgt := 301) hX dX13_grown_286 (by decide) ?_
    refine J_sub (lc2 := [(0, .ref (ga G 90)), (1, .ref (adW G 0)), (2, .ref (ga G (50 + l2))), (3, .ref (adW G 50)), (4, .int l4), (5, .int l5), (6, .int l6), (7, .int (1 + x80))]) [1, 2, 3, 4, 5, 6, 7, 0] rfl ?_
    exact BW_grown_301 hAll hX hR hlk n rc220 hrc220 rc53 hrc53 y l2 l4 l5 l6 (1 + x80) x112 hB_y hl2 hF
def FW_grown_L220 (n : Nat) (N : Nat) (f : Nat → Int32) (rc53 : (MM × List Nat) → Nat → Int32 → Int32 → Option (MM × List Nat)) : Nat → (MM × List Nat) → Nat → Int32 → Int32 → Int32 → Option (MM × List Nat)
  | 0 => fun _ _ _ _ _ => none
  | k + 1 => fun y l2 l4 l5 l6 =>
    let rc220 := FW_grown_L220 n N f rc53 k
    if l5 ≤ l6 then
      if l4 = 0 then
        FW_grown_B369 n N f rc220 rc53 y l2 l4 l5
      else
        if l5 = 0 then
          FW_grown_B369 n N f rc220 rc53 y l2 l4 l5
        else
          bo1 (FQ_pick N f 4 6) fun x76 =>
          FW_grown_B380 n N f rc220 rc53 y l2 l4 l5 x76
    else
      bo1 (FQ_pick N f (70 + l6) 2) fun x78 =>
      if x78 = 0 then
        FW_grown_B255 n N f rc220 rc53 y l2 l4 l5 l6 240 (60 + l6)
      else
        FW_grown_B255 n N f rc220 rc53 y l2 l4 l5 l6 30 (60 + l6)
set_option maxHeartbeats 4000000 in
set_option maxRecDepth 100000 in
theorem LW_grown_220 {G : GG} {l : Launch} (hAll : ∀ q, g0 G ≤ q → gA G q) {p : Program} {e : Env} {s : State} {m : MethodId} {args : Array Value} {below : List Frame} {meth : Method} {c : Code} (hX : FX G RX13 cX13_grown 13 p s m args c) (hR : meth.sig.returnType = (some (.object RX13))) (hlk : meth.locks = false) {rw : MM × List Nat} (n : Nat) (rc53 : (MM × List Nat) → Nat → Int32 → Int32 → Option (MM × List Nat)) (hrc53 : ∀ (y : MM × List Nat) (l2 : Nat) (l4 : Int32) (l5 : Int32) (hB_y : y.2.length < 520) (hl2 : l2 < 11), rc53 y l2 l4 l5 = some rw → J G p l e rmX13_grown s m args below meth c 13 (60 + y.2.length) (600 + 1100 * y.2.length) (MQ below (QP G (fun v9 H => v9 = some (.ref (adW G 0)) ∧ TH G rw H)) args s 700 700000 (gA G)) (TH G y) 53 [(0, .ref (ga G 90)), (1, .ref (adW G 0)), (2, .ref (ga G (50 + l2))), (3, .ref (adW G 50)), (4, .int l4), (5, .int l5)] []) : ∀ (k : Nat) (y : MM × List Nat) (l2 : Nat) (l4 : Int32) (l5 : Int32) (l6 : Int32) (hB_y : y.2.length < 520) (hl2 : l2 < 11), FW_grown_L220 n (gN G) (gX G) rc53 k y l2 l4 l5 l6 = some rw → J G p l e rmX13_grown s m args below meth c 13 (60 + y.2.length) (600 + 1100 * y.2.length) (MQ below (QP G (fun v9 H => v9 = some (.ref (adW G 0)) ∧ TH G rw H)) args s 700 700000 (gA G)) (TH G y) 220 [(0, .ref (ga G 90)), (1, .ref (adW G 0)), (2, .ref (ga G (50 + l2))), (3, .ref (adW G 50)), (4, .int l4), (5, .int l5), (6, .int l6)] [] := by
  intro k
  induction k with
  | zero => intro y l2 l4 l5 l6 hB_y hl2 hF; cases hF
  | succ k ih =>
    intro y l2 l4 l5 l6 hB_y hl2 hF
    simp only [FW_grown_L220] at hF
    generalize hrcd : FW_grown_L220 n (gN G) (gX G) rc53 k = rc220 at hF ih
    have hrc220 := ih
    refine J_iload hX dX13_grown_220 6 rfl (t := 222) rfl ?_
    refine J_iload hX dX13_grown_222 5 rfl (t := 224) rfl ?_
    refine J_icmp_ge (tgt := 359) hX dX13_grown_224 (by decide) (t := 227) rfl (fun zc => ?_) (fun zc => ?_)
    · replace hF := it_t hF zc
      refine J_iload hX dX13_grown_359 4 rfl (t := 361) rfl ?_
      refine J_if_eq (tgt := 369) hX dX13_grown_361 (by decide) (t := 364) rfl (fun zc => ?_) (fun zc => ?_)
      · replace hF := it_t hF zc
        refine J_sub (lc2 := [(0, .ref (ga G 90)), (1, .ref (adW G 0)), (2, .ref (ga G (50 + l2))), (3, .ref (adW G 50)), (4, .int l4), (5, .int l5)]) [0, 1, 2, 3, 4, 5] rfl ?_
        exact BW_grown_369 hAll hX hR hlk n rc220 hrc220 rc53 hrc53 y l2 l4 l5 hB_y hl2 hF
      · replace hF := it_f hF zc
        refine J_iload hX dX13_grown_364 5 rfl (t := 366) rfl ?_
        refine J_if_ne (tgt := 373) hX dX13_grown_366 (by decide) (t := 369) rfl (fun zc => ?_) (fun zc => ?_)
        · replace hF := it_f hF zc
          refine J_aload_n hX dX13_grown_373 0 rfl (t := 374) rfl ?_
          refine J_iconst (v := 4) hX dX13_grown_374 (by decide) (t := 375) rfl ?_
          refine J_bipush (v := 6) hX dX13_grown_375 (by decide) (t := 377) rfl ?_
          obtain ⟨x76, h75, hF⟩ := bo1_e hF
          refine J_tP hX hB_y [.ref (ga G 90), .int 4, .int 6] [] (ctQ_pick (G := G) (l := l) 4 6 h75) miL_pick p_1069 (List.mem_of_getElem? (i := 12) rfl) ⟨Nat.le_of_ble_eq_true rfl, Nat.le_of_ble_eq_true rfl, Nat.le_of_ble_eq_true rfl, Nat.le_of_ble_eq_true rfl⟩ rfl rfl rfl (Nat.le_of_ble_eq_true rfl) ⟨Nat.le_of_ble_eq_true rfl, Nat.le_of_ble_eq_true rfl⟩ dX13_grown_377 (t := 380) rfl ?_
          refine J_sub (lc2 := [(0, .ref (ga G 90)), (1, .ref (adW G 0)), (2, .ref (ga G (50 + l2))), (3, .ref (adW G 50)), (4, .int l4), (5, .int l5)]) [0, 1, 2, 3, 4, 5] rfl ?_
          exact BW_grown_380 hAll hX hR hlk n rc220 hrc220 rc53 hrc53 y l2 l4 l5 x76 hB_y hl2 hF
        · replace hF := it_t hF zc
          refine J_sub (lc2 := [(0, .ref (ga G 90)), (1, .ref (adW G 0)), (2, .ref (ga G (50 + l2))), (3, .ref (adW G 50)), (4, .int l4), (5, .int l5)]) [0, 1, 2, 3, 4, 5] rfl ?_
          exact BW_grown_369 hAll hX hR hlk n rc220 hrc220 rc53 hrc53 y l2 l4 l5 hB_y hl2 hF
    · replace hF := it_f hF zc
      refine J_iconst (v := 1) hX dX13_grown_227 (by decide) (t := 228) rfl ?_
      refine J_aload_n hX dX13_grown_228 0 rfl (t := 229) rfl ?_
      refine J_bipush (v := 60) hX dX13_grown_229 (by decide) (t := 231) rfl ?_
      refine J_iload hX dX13_grown_231 6 rfl (t := 233) rfl ?_
      refine J_iadd hX dX13_grown_233 (t := 234) rfl ?_
      refine J_aload_n hX dX13_grown_234 0 rfl (t := 235) rfl ?_
      refine J_bipush (v := 70) hX dX13_grown_235 (by decide) (t := 237) rfl ?_
      refine J_iload hX dX13_grown_237 6 rfl (t := 239) rfl ?_
      refine J_iadd hX dX13_grown_239 (t := 240) rfl ?_
      refine J_iconst (v := 2) hX dX13_grown_240 (by decide) (t := 241) rfl ?_
      obtain ⟨x78, h77, hF⟩ := bo1_e hF
      refine J_tP hX hB_y [.ref (ga G 90), .int (70 + l6), .int 2] [.int (60 + l6), .ref (ga G 90), .int 1] (ctQ_pick (G := G) (l := l) (70 + l6) 2 h77) miL_pick p_1069 (List.mem_of_getElem? (i := 12) rfl) ⟨Nat.le_of_ble_eq_true rfl, Nat.le_of_ble_eq_true rfl, Nat.le_of_ble_eq_true rfl, Nat.le_of_ble_eq_true rfl⟩ rfl rfl rfl (Nat.le_of_ble_eq_true rfl) ⟨Nat.le_of_ble_eq_true rfl, Nat.le_of_ble_eq_true rfl⟩ dX13_grown_241 (t := 244) rfl ?_
      refine J_if_ne (tgt := 253) hX dX13_grown_244 (by decide) (t := 247) rfl (fun zc => ?_) (fun zc => ?_)
      · replace hF := it_f hF zc
        refine J_bipush (v := 30) hX dX13_grown_253 (by decide) (t := 255) rfl ?_
        refine J_sub (lc2 := [(0, .ref (ga G 90)), (1, .ref (adW G 0)), (2, .ref (ga G (50 + l2))), (3, .ref (adW G 50)), (4, .int l4), (5, .int l5), (6, .int l6)]) [0, 1, 2, 3, 4, 5, 6] rfl ?_
        exact BW_grown_255 hAll hX hR hlk n rc220 hrc220 rc53 hrc53 y l2 l4 l5 l6 30 (60 + l6) hB_y hl2 hF
      · replace hF := it_t hF zc
        refine J_sipush (v := 240) hX dX13_grown_247 (by decide) (t := 250) rfl ?_
        refine J_goto (tgt := 255) hX dX13_grown_250 (by decide) ?_
        refine J_sub (lc2 := [(0, .ref (ga G 90)), (1, .ref (adW G 0)), (2, .ref (ga G (50 + l2))), (3, .ref (adW G 50)), (4, .int l4), (5, .int l5), (6, .int l6)]) [0, 1, 2, 3, 4, 5, 6] rfl ?_
        exact BW_grown_255 hAll hX hR hlk n rc220 hrc220 rc53 hrc53 y l2 l4 l5 l6 240 (60 + l6) hB_y hl2 hF
def FW_grown_B134 (n : Nat) (N : Nat) (f : Nat → Int32) (rc53 : (MM × List Nat) → Nat → Int32 → Int32 → Option (MM × List Nat)) (y : MM × List Nat) (l2 : Nat) (l4 : Int32) (l5 : Int32) (l6 : Int32) (l7 : Int32) (y0 : Int32) (y1 : Int32) : Option (MM × List Nat) :=
  bo1 (FQ_pick N f y1 y0) fun x122 =>
  bo2 (FW_addValley y.1 l6 l7 (1 + x122)) fun x124 M125 =>
  bnd ((M125, y.2)) fun y126 =>
  gd (decide (y126.2.length < 500)) <|
  bnd ((y126.1, y126.2 ++ wlN 10)) fun y129 =>
  gd (decide (y129.2.length < 500) && inb l5 20) <|
  bnd ((y129.1, y129.2 ++ [97 + l5.toNatClampNeg])) fun y132 =>
  gd (decide (y132.2.length < 500)) <|
  bnd ((y132.1, y132.2 ++ wlN 0)) fun y135 =>
  gd (decide (3 ≤ y135.2.length ∧ y135.2.length < 500) && inb l6 10000) <|
  bnd ((y135.1, y135.2 ++ dgl l6.toNatClampNeg)) fun y138 =>
  gd (decide (y138.2.length < 500)) <|
  bnd ((y138.1, y138.2 ++ wlN 0)) fun y141 =>
  gd (decide (3 ≤ y141.2.length ∧ y141.2.length < 500) && inb l7 10000) <|
  bnd ((y141.1, y141.2 ++ dgl l7.toNatClampNeg)) fun y144 =>
  gd (decide (y144.2.length < 500)) <|
  bnd ((y144.1, y144.2 ++ wlN 0)) fun y147 =>
  gd (decide (3 ≤ y147.2.length ∧ y147.2.length < 500) && inb (1 + x122) 10000) <|
  bnd ((y147.1, y147.2 ++ dgl (1 + x122).toNatClampNeg)) fun y150 =>
  gd (decide (y150.2.length < 500)) <|
  bnd ((y150.1, y150.2 ++ wlN l2)) fun y153 =>
  rc53 y153 l2 l4 (l5 + 1)
set_option maxHeartbeats 4000000 in
set_option maxRecDepth 100000 in
theorem BW_grown_134 {G : GG} {l : Launch} (hAll : ∀ q, g0 G ≤ q → gA G q) {p : Program} {e : Env} {s : State} {m : MethodId} {args : Array Value} {below : List Frame} {meth : Method} {c : Code} (hX : FX G RX13 cX13_grown 13 p s m args c) (hR : meth.sig.returnType = (some (.object RX13))) (hlk : meth.locks = false) {rw : MM × List Nat} (n : Nat) (rc53 : (MM × List Nat) → Nat → Int32 → Int32 → Option (MM × List Nat)) (hrc53 : ∀ (y : MM × List Nat) (l2 : Nat) (l4 : Int32) (l5 : Int32) (hB_y : y.2.length < 520) (hl2 : l2 < 11), rc53 y l2 l4 l5 = some rw → J G p l e rmX13_grown s m args below meth c 13 (60 + y.2.length) (600 + 1100 * y.2.length) (MQ below (QP G (fun v9 H => v9 = some (.ref (adW G 0)) ∧ TH G rw H)) args s 700 700000 (gA G)) (TH G y) 53 [(0, .ref (ga G 90)), (1, .ref (adW G 0)), (2, .ref (ga G (50 + l2))), (3, .ref (adW G 50)), (4, .int l4), (5, .int l5)] []) (y : MM × List Nat) (l2 : Nat) (l4 : Int32) (l5 : Int32) (l6 : Int32) (l7 : Int32) (y0 : Int32) (y1 : Int32) (hB_y : y.2.length < 520) (hl2 : l2 < 11) (hF : FW_grown_B134 n (gN G) (gX G) rc53 y l2 l4 l5 l6 l7 y0 y1 = some rw) : J G p l e rmX13_grown s m args below meth c 13 (60 + y.2.length) (600 + 1100 * y.2.length) (MQ below (QP G (fun v9 H => v9 = some (.ref (adW G 0)) ∧ TH G rw H)) args s 700 700000 (gA G)) (TH G y) 134 [(0, .ref (ga G 90)), (1, .ref (adW G 0)), (2, .ref (ga G (50 + l2))), (3, .ref (adW G 50)), (4, .int l4), (5, .int l5), (6, .int l6), (7, .int l7)] [.int y0, .int y1, .ref (ga G 90), .int 1] := by
  unfold FW_grown_B134 at hF
  obtain ⟨x122, h121, hF⟩ := bo1_e hF
  refine J_tP hX hB_y [.ref (ga G 90), .int y1, .int y0] [.int 1] (ctQ_pick (G := G) (l := l) y1 y0 h121) miL_pick p_1069 (List.mem_of_getElem? (i := 12) rfl) ⟨Nat.le_of_ble_eq_true rfl, Nat.le_of_ble_eq_true rfl, Nat.le_of_ble_eq_true rfl, Nat.le_of_ble_eq_true rfl⟩ rfl rfl rfl (Nat.le_of_ble_eq_true rfl) ⟨Nat.le_of_ble_eq_true rfl, Nat.le_of_ble_eq_true rfl⟩ dX13_grown_134 (t := 137) rfl ?_
  refine J_iadd hX dX13_grown_137 (t := 138) rfl ?_
  refine J_istore (lc2 := [(8, .int (1 + x122)), (0, .ref (ga G 90)), (1, .ref (adW G 0)), (2, .ref (ga G (50 + l2))), (3, .ref (adW G 50)), (4, .int l4), (5, .int l5), (6, .int l6), (7, .int l7)]) hX dX13_grown_138 (Nat.le_of_ble_eq_true rfl) rfl (t := 140) rfl ?_
  refine J_aload_n hX dX13_grown_140 2 rfl (t := 141) rfl ?_
  refine J_iload hX dX13_grown_141 7 rfl (t := 143) rfl ?_
  refine J_iload hX dX13_grown_143 8 rfl (t := 145) rfl ?_
  refine J_iload hX dX13_grown_145 0 rfl (t := 147) rfl ?_
  obtain ⟨x124, M125, h123, hF⟩ := bo2_e hF
  obtain ⟨y126, e127, hF⟩ := bnd_e hF
  refine J_tW hX hAll hB_y [.int l6, .int l7, .int (1 + x122)] [] [.int x124] (fun zz => ctW_addValley (G := upK G (gn G) (KwA G) zz) (l := l) y.1 l6 l7 (1 + x122) h123) e127 miX13_addValley mvX13_addValley cb10 p_1177 ⟨rfl, rfl, Nat.le_of_ble_eq_true rfl, Nat.le_of_ble_eq_true rfl⟩ rfl rfl (Nat.le_of_ble_eq_true rfl) ⟨Nat.le_of_ble_eq_true rfl, Nat.le_of_ble_eq_true rfl⟩ ⟨Nat.le_of_ble_eq_true rfl, Nat.le_of_ble_eq_true rfl⟩ dX13_grown_147 (t := 150) rfl rfl (fun hB_y126 => ?_)
  refine J_istore (lc2 := [(9, .int x124), (8, .int (1 + x122)), (0, .ref (ga G 90)), (1, .ref (adW G 0)), (2, .ref (ga G (50 + l2))), (3, .ref (adW G 50)), (4, .int l4), (5, .int l5), (6, .int l6), (7, .int l7)]) hX dX13_grown_150 (Nat.le_of_ble_eq_true rfl) rfl (t := 152) rfl ?_
  refine J_aload_n hX dX13_grown_152 5 rfl (t := 153) rfl ?_
  refine J_ldcStr (i := 10) hX (List.mem_of_getElem? (i := 3) rfl) dX13_grown_153 (t := 155) rfl ?_
  obtain ⟨g128, hF⟩ := gd_e hF
  obtain ⟨y129, e130, hF⟩ := bnd_e hF
  refine J_tWord (mc := 1) (ms := 6) hX hAll (i := 10) (by decide) (of_decide_eq_true g128) (by decide) e130 p_1080 ⟨Nat.le_of_ble_eq_true rfl, Nat.le_of_ble_eq_true rfl, Nat.le_of_ble_eq_true rfl, Nat.le_of_ble_eq_true rfl⟩ ⟨Nat.le_of_ble_eq_true rfl, Nat.le_of_ble_eq_true rfl⟩ (Nat.le_of_ble_eq_true rfl) dX13_grown_155 (t := 158) rfl (fun hB_y129 => ?_)
  refine J_bipush (v := 97) hX dX13_grown_158 (by decide) (t := 160) rfl ?_
  refine J_iload hX dX13_grown_160 7 rfl (t := 162) rfl ?_
  refine J_iadd hX dX13_grown_162 (t := 163) rfl ?_
  refine J_i2c hX dX13_grown_163 (t := 164) rfl ?_
  obtain ⟨g131, hF⟩ := gd_e hF
  obtain ⟨y132, e133, hF⟩ := bnd_e hF
  refine J_tChar hX hAll g131 e133 p_1183 ⟨Nat.le_of_ble_eq_true rfl, Nat.le_of_ble_eq_true rfl, Nat.le_of_ble_eq_true rfl, Nat.le_of_ble_eq_true rfl⟩ (Nat.le_of_ble_eq_true rfl) dX13_grown_164 (t := 167) rfl (fun hB_y132 => ?_)
  refine J_ldcStr (i := 0) hX (List.mem_of_getElem? (i := 4) rfl) dX13_grown_167 (t := 169) rfl ?_
  obtain ⟨g134, hF⟩ := gd_e hF
  obtain ⟨y135, e136, hF⟩ := bnd_e hF
  refine J_tWord (mc := 0) (ms := 0) hX hAll (i := 0) (by decide) (of_decide_eq_true g134) (lw_pos (by decide)) e136 p_1080 ⟨Nat.le_of_ble_eq_true rfl, Nat.le_of_ble_eq_true rfl, Nat.le_of_ble_eq_true rfl, Nat.le_of_ble_eq_true rfl⟩ ⟨Nat.le_of_ble_eq_true rfl, Nat.le_of_ble_eq_true rfl⟩ (Nat.le_of_ble_eq_true rfl) dX13_grown_169 (t := 172) rfl (fun hB_y135 => ?_)
  refine J_iload hX dX13_grown_172 8 rfl (t := 174) rfl ?_
  obtain ⟨g137, hF⟩ := gd_e hF
  obtain ⟨y138, e139, hF⟩ := bnd_e hF
  refine J_tInt hX hAll g137 e139 p_1197 ⟨Nat.le_of_ble_eq_true rfl, Nat.le_of_ble_eq_true rfl, Nat.le_of_ble_eq_true rfl, Nat.le_of_ble_eq_true rfl⟩ (Nat.le_of_ble_eq_true rfl) dX13_grown_174 (t := 177) rfl (fun hB_y138 => ?_)
  refine J_ldcStr (i := 0) hX (List.mem_of_getElem? (i := 4) rfl) dX13_grown_177 (t := 179) rfl ?_
  obtain ⟨g140, hF⟩ := gd_e hF
  obtain ⟨y141, e142, hF⟩ := bnd_e hF
  refine J_tWord (mc := 0) (ms := 0) hX hAll (i := 0) (by decide) (of_decide_eq_true g140) (lw_pos (by decide)) e142 p_1080 ⟨Nat.le_of_ble_eq_true rfl, Nat.le_of_ble_eq_true rfl, Nat.le_of_ble_eq_true rfl, Nat.le_of_ble_eq_true rfl⟩ ⟨Nat.le_of_ble_eq_true rfl, Nat.le_of_ble_eq_true rfl⟩ (Nat.le_of_ble_eq_true rfl) dX13_grown_179 (t := 182) rfl (fun hB_y141 => ?_)
  refine J_iload hX dX13_grown_182 9 rfl (t := 184) rfl ?_
  obtain ⟨g143, hF⟩ := gd_e hF
  obtain ⟨y144, e145, hF⟩ := bnd_e hF
  refine J_tInt hX hAll g143 e145 p_1197 ⟨Nat.le_of_ble_eq_true rfl, Nat.le_of_ble_eq_true rfl, Nat.le_of_ble_eq_true rfl, Nat.le_of_ble_eq_true rfl⟩ (Nat.le_of_ble_eq_true rfl) dX13_grown_184 (t := 187) rfl (fun hB_y144 => ?_)
  refine J_ldcStr (i := 0) hX (List.mem_of_getElem? (i := 4) rfl) dX13_grown_187 (t := 189) rfl ?_
  obtain ⟨g146, hF⟩ := gd_e hF
  obtain ⟨y147, e148, hF⟩ := bnd_e hF
  refine J_tWord (mc := 0) (ms := 0) hX hAll (i := 0) (by decide) (of_decide_eq_true g146) (lw_pos (by decide)) e148 p_1080 ⟨Nat.le_of_ble_eq_true rfl, Nat.le_of_ble_eq_true rfl, Nat.le_of_ble_eq_true rfl, Nat.le_of_ble_eq_true rfl⟩ ⟨Nat.le_of_ble_eq_true rfl, Nat.le_of_ble_eq_true rfl⟩ (Nat.le_of_ble_eq_true rfl) dX13_grown_189 (t := 192) rfl (fun hB_y147 => ?_)
  refine J_iload hX dX13_grown_192 1 rfl (t := 194) rfl ?_
  obtain ⟨g149, hF⟩ := gd_e hF
  obtain ⟨y150, e151, hF⟩ := bnd_e hF
  refine J_tInt hX hAll g149 e151 p_1197 ⟨Nat.le_of_ble_eq_true rfl, Nat.le_of_ble_eq_true rfl, Nat.le_of_ble_eq_true rfl, Nat.le_of_ble_eq_true rfl⟩ (Nat.le_of_ble_eq_true rfl) dX13_grown_194 (t := 197) rfl (fun hB_y150 => ?_)
  refine J_aload_n hX dX13_grown_197 4 rfl (t := 198) rfl ?_
  obtain ⟨g152, hF⟩ := gd_e hF
  obtain ⟨y153, e154, hF⟩ := bnd_e hF
  refine J_tWord (mc := 0) (ms := 0) hX hAll (i := l2) hl2 (of_decide_eq_true g152) (lw_pos hl2) e154 p_1080 ⟨Nat.le_of_ble_eq_true rfl, Nat.le_of_ble_eq_true rfl, Nat.le_of_ble_eq_true rfl, Nat.le_of_ble_eq_true rfl⟩ ⟨Nat.le_of_ble_eq_true rfl, Nat.le_of_ble_eq_true rfl⟩ (Nat.le_of_ble_eq_true rfl) dX13_grown_198 (t := 201) rfl (fun hB_y153 => ?_)
  refine J_pop hX dX13_grown_201 rfl (t := 202) rfl ?_
  refine J_iinc (v := l5 + 1) (lc2 := [(5, .int (l5 + 1)), (9, .int x124), (8, .int (1 + x122)), (0, .ref (ga G 90)), (1, .ref (adW G 0)), (2, .ref (ga G (50 + l2))), (3, .ref (adW G 50)), (4, .int l4), (6, .int l6), (7, .int l7)]) hX dX13_grown_202 7 rfl rfl (Nat.le_of_ble_eq_true rfl) rfl (t := 205) rfl ?_
  refine J_goto (tgt := 53) hX dX13_grown_205 (by decide) ?_
  refine J_sub (lc2 := [(0, .ref (ga G 90)), (1, .ref (adW G 0)), (2, .ref (ga G (50 + l2))), (3, .ref (adW G 50)), (4, .int l4), (5, .int (l5 + 1))]) [3, 4, 5, 6, 7, 0] rfl ?_
  exact hrc53 y153 l2 l4 (l5 + 1) hB_y153 hl2 hF
def FW_grown_B87 (n : Nat) (N : Nat) (f : Nat → Int32) (rc53 : (MM × List Nat) → Nat → Int32 → Int32 → Option (MM × List Nat)) (y : MM × List Nat) (l2 : Nat) (l4 : Int32) (l5 : Int32) (y0 : Int32) (y1 : Int32) : Option (MM × List Nat) :=
  bo1 (FQ_pick N f y1 y0) fun x116 =>
  bo1 (FQ_pick N f (30 + l5) 4) fun x118 =>
  bo1 (FQ_pick N f (50 + l5) 2) fun x120 =>
  if x120 = 0 then
    FW_grown_B134 n N f rc53 y l2 l4 l5 (1 + x116) (1 + x118) 99 (40 + l5)
  else
    FW_grown_B134 n N f rc53 y l2 l4 l5 (1 + x116) (1 + x118) 9 (40 + l5)
set_option maxHeartbeats 4000000 in
set_option maxRecDepth 100000 in
theorem BW_grown_87 {G : GG} {l : Launch} (hAll : ∀ q, g0 G ≤ q → gA G q) {p : Program} {e : Env} {s : State} {m : MethodId} {args : Array Value} {below : List Frame} {meth : Method} {c : Code} (hX : FX G RX13 cX13_grown 13 p s m args c) (hR : meth.sig.returnType = (some (.object RX13))) (hlk : meth.locks = false) {rw : MM × List Nat} (n : Nat) (rc53 : (MM × List Nat) → Nat → Int32 → Int32 → Option (MM × List Nat)) (hrc53 : ∀ (y : MM × List Nat) (l2 : Nat) (l4 : Int32) (l5 : Int32) (hB_y : y.2.length < 520) (hl2 : l2 < 11), rc53 y l2 l4 l5 = some rw → J G p l e rmX13_grown s m args below meth c 13 (60 + y.2.length) (600 + 1100 * y.2.length) (MQ below (QP G (fun v9 H => v9 = some (.ref (adW G 0)) ∧ TH G rw H)) args s 700 700000 (gA G)) (TH G y) 53 [(0, .ref (ga G 90)), (1, .ref (adW G 0)), (2, .ref (ga G (50 + l2))), (3, .ref (adW G 50)), (4, .int l4), (5, .int l5)] []) (y : MM × List Nat) (l2 : Nat) (l4 : Int32) (l5 : Int32) (y0 : Int32) (y1 : Int32) (hB_y : y.2.length < 520) (hl2 : l2 < 11) (hF : FW_grown_B87 n (gN G) (gX G) rc53 y l2 l4 l5 y0 y1 = some rw) : J G p l e rmX13_grown s m args below meth c 13 (60 + y.2.length) (600 + 1100 * y.2.length) (MQ below (QP G (fun v9 H => v9 = some (.ref (adW G 0)) ∧ TH G rw H)) args s 700 700000 (gA G)) (TH G y) 87 [(0, .ref (ga G 90)), (1, .ref (adW G 0)), (2, .ref (ga G (50 + l2))), (3, .ref (adW G 50)), (4, .int l4), (5, .int l5)] [.int y0, .int y1, .ref (ga G 90), .int 1] := by
  unfold FW_grown_B87 at hF
  obtain ⟨x116, h115, hF⟩ := bo1_e hF
  refine J_tP hX hB_y [.ref (ga G 90), .int y1, .int y0] [.int 1] (ctQ_pick (G := G) (l := l) y1 y0 h115) miL_pick p_1069 (List.mem_of_getElem? (i := 12) rfl) ⟨Nat.le_of_ble_eq_true rfl, Nat.le_of_ble_eq_true rfl, Nat.le_of_ble_eq_true rfl, Nat.le_of_ble_eq_true rfl⟩ rfl rfl rfl (Nat.le_of_ble_eq_true rfl) ⟨Nat.le_of_ble_eq_true rfl, Nat.le_of_ble_eq_true rfl⟩ dX13_grown_87 (t := 90) rfl ?_
  refine J_iadd hX dX13_grown_90 (t := 91) rfl ?_
  refine J_istore (lc2 := [(6, .int (1 + x116)), (0, .ref (ga G 90)), (1, .ref (adW G 0)), (2, .ref (ga G (50 + l2))), (3, .ref (adW G 50)), (4, .int l4), (5, .int l5)]) hX dX13_grown_91 (Nat.le_of_ble_eq_true rfl) rfl (t := 93) rfl ?_
  refine J_iconst (v := 1) hX dX13_grown_93 (by decide) (t := 94) rfl ?_
  refine J_aload_n hX dX13_grown_94 1 rfl (t := 95) rfl ?_
  refine J_bipush (v := 30) hX dX13_grown_95 (by decide) (t := 97) rfl ?_
  refine J_iload hX dX13_grown_97 6 rfl (t := 99) rfl ?_
  refine J_iadd hX dX13_grown_99 (t := 100) rfl ?_
  refine J_iconst (v := 4) hX dX13_grown_100 (by decide) (t := 101) rfl ?_
  obtain ⟨x118, h117, hF⟩ := bo1_e hF
  refine J_tP hX hB_y [.ref (ga G 90), .int (30 + l5), .int 4] [.int 1] (ctQ_pick (G := G) (l := l) (30 + l5) 4 h117) miL_pick p_1069 (List.mem_of_getElem? (i := 12) rfl) ⟨Nat.le_of_ble_eq_true rfl, Nat.le_of_ble_eq_true rfl, Nat.le_of_ble_eq_true rfl, Nat.le_of_ble_eq_true rfl⟩ rfl rfl rfl (Nat.le_of_ble_eq_true rfl) ⟨Nat.le_of_ble_eq_true rfl, Nat.le_of_ble_eq_true rfl⟩ dX13_grown_101 (t := 104) rfl ?_
  refine J_iadd hX dX13_grown_104 (t := 105) rfl ?_
  refine J_istore (lc2 := [(7, .int (1 + x118)), (6, .int (1 + x116)), (0, .ref (ga G 90)), (1, .ref (adW G 0)), (2, .ref (ga G (50 + l2))), (3, .ref (adW G 50)), (4, .int l4), (5, .int l5)]) hX dX13_grown_105 (Nat.le_of_ble_eq_true rfl) rfl (t := 107) rfl ?_
  refine J_iconst (v := 1) hX dX13_grown_107 (by decide) (t := 108) rfl ?_
  refine J_aload_n hX dX13_grown_108 2 rfl (t := 109) rfl ?_
  refine J_bipush (v := 40) hX dX13_grown_109 (by decide) (t := 111) rfl ?_
  refine J_iload hX dX13_grown_111 7 rfl (t := 113) rfl ?_
  refine J_iadd hX dX13_grown_113 (t := 114) rfl ?_
  refine J_aload_n hX dX13_grown_114 2 rfl (t := 115) rfl ?_
  refine J_bipush (v := 50) hX dX13_grown_115 (by decide) (t := 117) rfl ?_
  refine J_iload hX dX13_grown_117 7 rfl (t := 119) rfl ?_
  refine J_iadd hX dX13_grown_119 (t := 120) rfl ?_
  refine J_iconst (v := 2) hX dX13_grown_120 (by decide) (t := 121) rfl ?_
  obtain ⟨x120, h119, hF⟩ := bo1_e hF
  refine J_tP hX hB_y [.ref (ga G 90), .int (50 + l5), .int 2] [.int (40 + l5), .ref (ga G 90), .int 1] (ctQ_pick (G := G) (l := l) (50 + l5) 2 h119) miL_pick p_1069 (List.mem_of_getElem? (i := 12) rfl) ⟨Nat.le_of_ble_eq_true rfl, Nat.le_of_ble_eq_true rfl, Nat.le_of_ble_eq_true rfl, Nat.le_of_ble_eq_true rfl⟩ rfl rfl rfl (Nat.le_of_ble_eq_true rfl) ⟨Nat.le_of_ble_eq_true rfl, Nat.le_of_ble_eq_true rfl⟩ dX13_grown_121 (t := 124) rfl ?_
  refine J_if_ne (tgt := 132) hX dX13_grown_124 (by decide) (t := 127) rfl (fun zc => ?_) (fun zc => ?_)
  · replace hF := it_f hF zc
    refine J_bipush (v := 9) hX dX13_grown_132 (by decide) (t := 134) rfl ?_
    refine J_sub (lc2 := [(0, .ref (ga G 90)), (1, .ref (adW G 0)), (2, .ref (ga G (50 + l2))), (3, .ref (adW G 50)), (4, .int l4), (5, .int l5), (6, .int (1 + x116)), (7, .int (1 + x118))]) [2, 3, 4, 5, 6, 7, 1, 0] rfl ?_
    exact BW_grown_134 hAll hX hR hlk n rc53 hrc53 y l2 l4 l5 (1 + x116) (1 + x118) 9 (40 + l5) hB_y hl2 hF
  · replace hF := it_t hF zc
    refine J_bipush (v := 99) hX dX13_grown_127 (by decide) (t := 129) rfl ?_
    refine J_goto (tgt := 134) hX dX13_grown_129 (by decide) ?_
    refine J_sub (lc2 := [(0, .ref (ga G 90)), (1, .ref (adW G 0)), (2, .ref (ga G (50 + l2))), (3, .ref (adW G 50)), (4, .int l4), (5, .int l5), (6, .int (1 + x116)), (7, .int (1 + x118))]) [2, 3, 4, 5, 6, 7, 1, 0] rfl ?_
    exact BW_grown_134 hAll hX hR hlk n rc53 hrc53 y l2 l4 l5 (1 + x116) (1 + x118) 99 (40 + l5) hB_y hl2 hF
def FW_grown_L53 (n : Nat) (N : Nat) (f : Nat → Int32) : Nat → (MM × List Nat) → Nat → Int32 → Int32 → Option (MM × List Nat)
  | 0 => fun _ _ _ _ => none
  | k + 1 => fun y l2 l4 l5 =>
    let rc53 := FW_grown_L53 n N f k
    if l4 ≤ l5 then
      bo1 (FQ_pick N f 3 7) fun x12 =>
      FW_grown_L220 n N f rc53 n y l2 l4 x12 0
    else
      bo1 (FQ_pick N f (20 + l5) 2) fun x114 =>
      if x114 = 0 then
        FW_grown_B87 n N f rc53 y l2 l4 l5 60 (10 + l5)
      else
        FW_grown_B87 n N f rc53 y l2 l4 l5 9 (10 + l5)
set_option maxHeartbeats 4000000 in
set_option maxRecDepth 100000 in
theorem LW_grown_53 {G : GG} {l : Launch} (hAll : ∀ q, g0 G ≤ q → gA G q) {p : Program} {e : Env} {s : State} {m : MethodId} {args : Array Value} {below : List Frame} {meth : Method} {c : Code} (hX : FX G RX13 cX13_grown 13 p s m args c) (hR : meth.sig.returnType = (some (.object RX13))) (hlk : meth.locks = false) {rw : MM × List Nat} (n : Nat) : ∀ (k : Nat) (y : MM × List Nat) (l2 : Nat) (l4 : Int32) (l5 : Int32) (hB_y : y.2.length < 520) (hl2 : l2 < 11), FW_grown_L53 n (gN G) (gX G) k y l2 l4 l5 = some rw → J G p l e rmX13_grown s m args below meth c 13 (60 + y.2.length) (600 + 1100 * y.2.length) (MQ below (QP G (fun v9 H => v9 = some (.ref (adW G 0)) ∧ TH G rw H)) args s 700 700000 (gA G)) (TH G y) 53 [(0, .ref (ga G 90)), (1, .ref (adW G 0)), (2, .ref (ga G (50 + l2))), (3, .ref (adW G 50)), (4, .int l4), (5, .int l5)] [] := by
  intro k
  induction k with
  | zero => intro y l2 l4 l5 hB_y hl2 hF; cases hF
  | succ k ih =>
    intro y l2 l4 l5 hB_y hl2 hF
    simp only [FW_grown_L53] at hF
    generalize hrcd : FW_grown_L53 n (gN G) (gX G) k = rc53 at hF ih
    have hrc53 := ih
    refine J_iload hX dX13_grown_53 5 rfl (t := 55) rfl ?_
    refine J_iload hX dX13_grown_55 4 rfl (t := 57) rfl ?_
    refine J_icmp_ge (tgt := 208) hX dX13_grown_57 (by decide) (t := 60) rfl (fun zc => ?_) (fun zc => ?_)
    · replace hF := it_t hF zc
      refine J_aload_n hX dX13_grown_208 0 rfl (t := 209) rfl ?_
      refine J_iconst (v := 3) hX dX13_grown_209 (by decide) (t := 210) rfl ?_
      refine J_bipush (v := 7) hX dX13_grown_210 (by decide) (t := 212) rfl ?_
      obtain ⟨x12, h11, hF⟩ := bo1_e hF
      refine J_tP hX hB_y [.ref (ga G 90), .int 3, .int 7] [] (ctQ_pick (G := G) (l := l) 3 7 h11) miL_pick p_1069 (List.mem_of_getElem? (i := 12) rfl) ⟨Nat.le_of_ble_eq_true rfl, Nat.le_of_ble_eq_true rfl, Nat.le_of_ble_eq_true rfl, Nat.le_of_ble_eq_true rfl⟩ rfl rfl rfl (Nat.le_of_ble_eq_true rfl) ⟨Nat.le_of_ble_eq_true rfl, Nat.le_of_ble_eq_true rfl⟩ dX13_grown_212 (t := 215) rfl ?_
      refine J_istore (lc2 := [(5, .int x12), (0, .ref (ga G 90)), (1, .ref (adW G 0)), (2, .ref (ga G (50 + l2))), (3, .ref (adW G 50)), (4, .int l4)]) hX dX13_grown_215 (Nat.le_of_ble_eq_true rfl) rfl (t := 217) rfl ?_
      refine J_iconst (v := 0) hX dX13_grown_217 (by decide) (t := 218) rfl ?_
      refine J_istore (lc2 := [(6, .int 0), (5, .int x12), (0, .ref (ga G 90)), (1, .ref (adW G 0)), (2, .ref (ga G (50 + l2))), (3, .ref (adW G 50)), (4, .int l4)]) hX dX13_grown_218 (Nat.le_of_ble_eq_true rfl) rfl (t := 220) rfl ?_
      refine J_sub (lc2 := [(0, .ref (ga G 90)), (1, .ref (adW G 0)), (2, .ref (ga G (50 + l2))), (3, .ref (adW G 50)), (4, .int l4), (5, .int x12), (6, .int 0)]) [2, 3, 4, 5, 6, 1, 0] rfl ?_
      exact LW_grown_220 hAll hX hR hlk n rc53 hrc53 n y l2 l4 x12 0 hB_y hl2 hF
    · replace hF := it_f hF zc
      refine J_iconst (v := 1) hX dX13_grown_60 (by decide) (t := 61) rfl ?_
      refine J_aload_n hX dX13_grown_61 0 rfl (t := 62) rfl ?_
      refine J_bipush (v := 10) hX dX13_grown_62 (by decide) (t := 64) rfl ?_
      refine J_iload hX dX13_grown_64 5 rfl (t := 66) rfl ?_
      refine J_iadd hX dX13_grown_66 (t := 67) rfl ?_
      refine J_aload_n hX dX13_grown_67 0 rfl (t := 68) rfl ?_
      refine J_bipush (v := 20) hX dX13_grown_68 (by decide) (t := 70) rfl ?_
      refine J_iload hX dX13_grown_70 5 rfl (t := 72) rfl ?_
      refine J_iadd hX dX13_grown_72 (t := 73) rfl ?_
      refine J_iconst (v := 2) hX dX13_grown_73 (by decide) (t := 74) rfl ?_
      obtain ⟨x114, h113, hF⟩ := bo1_e hF
      refine J_tP hX hB_y [.ref (ga G 90), .int (20 + l5), .int 2] [.int (10 + l5), .ref (ga G 90), .int 1] (ctQ_pick (G := G) (l := l) (20 + l5) 2 h113) miL_pick p_1069 (List.mem_of_getElem? (i := 12) rfl) ⟨Nat.le_of_ble_eq_true rfl, Nat.le_of_ble_eq_true rfl, Nat.le_of_ble_eq_true rfl, Nat.le_of_ble_eq_true rfl⟩ rfl rfl rfl (Nat.le_of_ble_eq_true rfl) ⟨Nat.le_of_ble_eq_true rfl, Nat.le_of_ble_eq_true rfl⟩ dX13_grown_74 (t := 77) rfl ?_
      refine J_if_ne (tgt := 85) hX dX13_grown_77 (by decide) (t := 80) rfl (fun zc => ?_) (fun zc => ?_)
      · replace hF := it_f hF zc
        refine J_bipush (v := 9) hX dX13_grown_85 (by decide) (t := 87) rfl ?_
        refine J_sub (lc2 := [(0, .ref (ga G 90)), (1, .ref (adW G 0)), (2, .ref (ga G (50 + l2))), (3, .ref (adW G 50)), (4, .int l4), (5, .int l5)]) [0, 1, 2, 3, 4, 5] rfl ?_
        exact BW_grown_87 hAll hX hR hlk n rc53 hrc53 y l2 l4 l5 9 (10 + l5) hB_y hl2 hF
      · replace hF := it_t hF zc
        refine J_bipush (v := 60) hX dX13_grown_80 (by decide) (t := 82) rfl ?_
        refine J_goto (tgt := 87) hX dX13_grown_82 (by decide) ?_
        refine J_sub (lc2 := [(0, .ref (ga G 90)), (1, .ref (adW G 0)), (2, .ref (ga G (50 + l2))), (3, .ref (adW G 50)), (4, .int l4), (5, .int l5)]) [0, 1, 2, 3, 4, 5] rfl ?_
        exact BW_grown_87 hAll hX hR hlk n rc53 hrc53 y l2 l4 l5 60 (10 + l5) hB_y hl2 hF
def FW_grown_B24 (n : Nat) (N : Nat) (f : Nat → Int32) (y : MM × List Nat) (y0 : Nat) : Option (MM × List Nat) :=
  gd (decide (y.2.length < 500)) <|
  bnd ((y.1, y.2 ++ wlN 6)) fun y4 =>
  gd (decide (y4.2.length < 500)) <|
  bnd ((y4.1, y4.2 ++ wlN y0)) fun y7 =>
  bo1 (FQ_pick N f 2 9) fun x10 =>
  FW_grown_L53 n N f n y7 y0 x10 0
set_option maxHeartbeats 4000000 in
set_option maxRecDepth 100000 in
theorem BW_grown_24 {G : GG} {l : Launch} (hAll : ∀ q, g0 G ≤ q → gA G q) {p : Program} {e : Env} {s : State} {m : MethodId} {args : Array Value} {below : List Frame} {meth : Method} {c : Code} (hX : FX G RX13 cX13_grown 13 p s m args c) (hR : meth.sig.returnType = (some (.object RX13))) (hlk : meth.locks = false) {rw : MM × List Nat} (n : Nat) (y : MM × List Nat) (y0 : Nat) (hB_y : y.2.length < 520) (hy0 : y0 < 11) (hF : FW_grown_B24 n (gN G) (gX G) y y0 = some rw) : J G p l e rmX13_grown s m args below meth c 13 (60 + y.2.length) (600 + 1100 * y.2.length) (MQ below (QP G (fun v9 H => v9 = some (.ref (adW G 0)) ∧ TH G rw H)) args s 700 700000 (gA G)) (TH G y) 24 [(0, .ref (ga G 90)), (1, .ref (adW G 0))] [.ref (ga G (50 + y0))] := by
  unfold FW_grown_B24 at hF
  refine J_astore_n (lc2 := [(2, .ref (ga G (50 + y0))), (0, .ref (ga G 90)), (1, .ref (adW G 0))]) hX dX13_grown_24 rfl (Nat.le_of_ble_eq_true rfl) rfl (t := 25) rfl ?_
  refine J_aload_n hX dX13_grown_25 2 rfl (t := 26) rfl ?_
  refine J_getI hX cb10 (fs := fWorld G (y.1.1 0)) (fun H h => by obtain ⟨_, _, _, _, _, _, h9⟩ := h; exact kW0 H h9) 11 (by decide) p_1041 rfl dX13_grown_26 (t := 29) rfl ?_
  refine J_astore_n (lc2 := [(3, .ref (adW G 50)), (2, .ref (ga G (50 + y0))), (0, .ref (ga G 90)), (1, .ref (adW G 0))]) hX dX13_grown_29 rfl (Nat.le_of_ble_eq_true rfl) rfl (t := 30) rfl ?_
  refine J_aload_n hX dX13_grown_30 0 rfl (t := 31) rfl ?_
  refine J_ldcStr (i := 6) hX (List.mem_of_getElem? (i := 2) rfl) dX13_grown_31 (t := 33) rfl ?_
  obtain ⟨g3, hF⟩ := gd_e hF
  obtain ⟨y4, e5, hF⟩ := bnd_e hF
  refine J_tWord (mc := 0) (ms := 0) hX hAll (i := 6) (by decide) (of_decide_eq_true g3) (lw_pos (by decide)) e5 p_1080 ⟨Nat.le_of_ble_eq_true rfl, Nat.le_of_ble_eq_true rfl, Nat.le_of_ble_eq_true rfl, Nat.le_of_ble_eq_true rfl⟩ ⟨Nat.le_of_ble_eq_true rfl, Nat.le_of_ble_eq_true rfl⟩ (Nat.le_of_ble_eq_true rfl) dX13_grown_33 (t := 36) rfl (fun hB_y4 => ?_)
  refine J_aload_n hX dX13_grown_36 1 rfl (t := 37) rfl ?_
  obtain ⟨g6, hF⟩ := gd_e hF
  obtain ⟨y7, e8, hF⟩ := bnd_e hF
  refine J_tWord (mc := 0) (ms := 0) hX hAll (i := y0) hy0 (of_decide_eq_true g6) (lw_pos hy0) e8 p_1080 ⟨Nat.le_of_ble_eq_true rfl, Nat.le_of_ble_eq_true rfl, Nat.le_of_ble_eq_true rfl, Nat.le_of_ble_eq_true rfl⟩ ⟨Nat.le_of_ble_eq_true rfl, Nat.le_of_ble_eq_true rfl⟩ (Nat.le_of_ble_eq_true rfl) dX13_grown_37 (t := 40) rfl (fun hB_y7 => ?_)
  refine J_pop hX dX13_grown_40 rfl (t := 41) rfl ?_
  refine J_aload_n hX dX13_grown_41 2 rfl (t := 42) rfl ?_
  refine J_iconst (v := 2) hX dX13_grown_42 (by decide) (t := 43) rfl ?_
  refine J_bipush (v := 9) hX dX13_grown_43 (by decide) (t := 45) rfl ?_
  obtain ⟨x10, h9, hF⟩ := bo1_e hF
  refine J_tP hX hB_y7 [.ref (ga G 90), .int 2, .int 9] [] (ctQ_pick (G := G) (l := l) 2 9 h9) miL_pick p_1069 (List.mem_of_getElem? (i := 12) rfl) ⟨Nat.le_of_ble_eq_true rfl, Nat.le_of_ble_eq_true rfl, Nat.le_of_ble_eq_true rfl, Nat.le_of_ble_eq_true rfl⟩ rfl rfl rfl (Nat.le_of_ble_eq_true rfl) ⟨Nat.le_of_ble_eq_true rfl, Nat.le_of_ble_eq_true rfl⟩ dX13_grown_45 (t := 48) rfl ?_
  refine J_istore (lc2 := [(4, .int x10), (3, .ref (adW G 50)), (2, .ref (ga G (50 + y0))), (0, .ref (ga G 90)), (1, .ref (adW G 0))]) hX dX13_grown_48 (Nat.le_of_ble_eq_true rfl) rfl (t := 50) rfl ?_
  refine J_iconst (v := 0) hX dX13_grown_50 (by decide) (t := 51) rfl ?_
  refine J_istore (lc2 := [(5, .int 0), (4, .int x10), (3, .ref (adW G 50)), (2, .ref (ga G (50 + y0))), (0, .ref (ga G 90)), (1, .ref (adW G 0))]) hX dX13_grown_51 (Nat.le_of_ble_eq_true rfl) rfl (t := 53) rfl ?_
  refine J_sub (lc2 := [(0, .ref (ga G 90)), (1, .ref (adW G 0)), (2, .ref (ga G (50 + y0))), (3, .ref (adW G 50)), (4, .int x10), (5, .int 0)]) [4, 5, 3, 2, 1, 0] rfl ?_
  exact LW_grown_53 hAll hX hR hlk n n y7 y0 x10 0 hB_y7 hy0 hF
def FW_grown (n : Nat) (N : Nat) (f : Nat → Int32) (y : MM × List Nat)  : Option (MM × List Nat) :=
  bo1 (FQ_pick N f 1 2) fun x2 =>
  if x2 = 0 then
    FW_grown_B24 n N f y 3
  else
    FW_grown_B24 n N f y 1
set_option maxHeartbeats 4000000 in
set_option maxRecDepth 100000 in
theorem bTW_grown {G : GG} {l : Launch} (hAll : ∀ q, g0 G ≤ q → gA G q) {p : Program} {e : Env} {s : State} {m : MethodId} {args : Array Value} {below : List Frame} {meth : Method} {c : Code} (hX : FX G RX13 cX13_grown 13 p s m args c) (hR : meth.sig.returnType = (some (.object RX13))) (hlk : meth.locks = false) {rw : MM × List Nat} (n : Nat) (y : MM × List Nat) (hB_y : y.2.length < 520) (hF : FW_grown n (gN G) (gX G) y = some rw) : J G p l e rmX13_grown s m args below meth c 13 (60 + y.2.length) (600 + 1100 * y.2.length) (MQ below (QP G (fun v9 H => v9 = some (.ref (adW G 0)) ∧ TH G rw H)) args s 700 700000 (gA G)) (TH G y) 7 [(0, .ref (ga G 90))] [.ref (adW G 0)] := by
  unfold FW_grown at hF
  refine J_astore_n (lc2 := [(1, .ref (adW G 0)), (0, .ref (ga G 90))]) hX dX13_grown_7 rfl (Nat.le_of_ble_eq_true rfl) rfl (t := 8) rfl ?_
  refine J_aload_n hX dX13_grown_8 1 rfl (t := 9) rfl ?_
  refine J_iconst (v := 1) hX dX13_grown_9 (by decide) (t := 10) rfl ?_
  refine J_iconst (v := 2) hX dX13_grown_10 (by decide) (t := 11) rfl ?_
  obtain ⟨x2, h1, hF⟩ := bo1_e hF
  refine J_tP hX hB_y [.ref (ga G 90), .int 1, .int 2] [] (ctQ_pick (G := G) (l := l) 1 2 h1) miL_pick p_1069 (List.mem_of_getElem? (i := 12) rfl) ⟨Nat.le_of_ble_eq_true rfl, Nat.le_of_ble_eq_true rfl, Nat.le_of_ble_eq_true rfl, Nat.le_of_ble_eq_true rfl⟩ rfl rfl rfl (Nat.le_of_ble_eq_true rfl) ⟨Nat.le_of_ble_eq_true rfl, Nat.le_of_ble_eq_true rfl⟩ dX13_grown_11 (t := 14) rfl ?_
  refine J_if_ne (tgt := 22) hX dX13_grown_14 (by decide) (t := 17) rfl (fun zc => ?_) (fun zc => ?_)
  · replace hF := it_f hF zc
    refine J_ldcStr (i := 1) hX (List.mem_of_getElem? (i := 1) rfl) dX13_grown_22 (t := 24) rfl ?_
    refine J_sub (lc2 := [(0, .ref (ga G 90)), (1, .ref (adW G 0))]) [1, 0] rfl ?_
    exact BW_grown_24 hAll hX hR hlk n y 1 hB_y (by decide) hF
  · replace hF := it_t hF zc
    refine J_ldcStr (i := 3) hX (List.mem_of_getElem? (i := 0) rfl) dX13_grown_17 (t := 19) rfl ?_
    refine J_goto (tgt := 24) hX dX13_grown_19 (by decide) ?_
    refine J_sub (lc2 := [(0, .ref (ga G 90)), (1, .ref (adW G 0))]) [1, 0] rfl ?_
    exact BW_grown_24 hAll hX hR hlk n y 3 hB_y (by decide) hF
