/-! GHOST: behind each change of the class, the world also takes what the reference makes of it (region 15 and up: no cell of the heap) -/
def AG (w9 w : Wd) : Prop := ∀ r, r ≤ 13 → w9 r = w r
noncomputable def gh {β : Type} (o : Option Wd) (w : Wd) (f : Wd → Option β) : Option β := match o with
  | some w9 => @ite (Option β) (AG w9 w) (Classical.propDecidable (AG w9 w)) (f w9) none
  | none => none
theorem gh_e {β : Type} {o : Option Wd} {w : Wd} {f : Wd → Option β} {r : β} (h : gh o w f = some r) : ∃ w9, AG w9 w ∧ f w9 = some r := by
  match o, h with
  | some w9, h =>
    have h : @ite (Option β) (AG w9 w) (Classical.propDecidable (AG w9 w)) (f w9) none = some r := h
    by_cases hA : AG w9 w
    · rw [if_pos hA] at h
      exact ⟨w9, hA, h⟩
    · rw [if_neg hA] at h
      cases h
theorem gh_t {β : Type} {w9 w : Wd} {f : Wd → Option β} (hA : AG w9 w) : gh (some w9) w f = f w9 := if_pos hA
theorem CH.ag {G : GG} {n1 : Nat} {w9 w : Wd} {H : Heap} (hA : AG w9 w) (h : CH G n1 w H) : CH G n1 w9 H := fun r j hi => by rw [hA r hi.1]; exact h r j hi
section GROWS
variable {G : GG} {own : String} {cc : ByteArray} {p : Program} {l : Launch} {e : Env} {R : Room} {s : State} {m : MethodId} {args : Array Value} {below : List Frame} {meth : Method} {c : Code} {nL cells slots : Nat} {Q : State → Prop} {pc t : Nat} {lc : List (Nat × Value)} {st : List Value} {n1 : Nat} {X : Heap → Prop} {z z2 : Wd × MM}
theorem J_lCg (hX : FX G own cc nL p s m args c) (hL : LOK G n1 X) {y : MethodName} {cd : ByteArray} {mL n9 index mc ms : Nat} {ret : Option FieldType} {rm : Room} {v : Option Value} {w2 w3 : Wd} (hA : AG w3 w2) (As rest st2 : List Value) (hM : ∀ zz, CT (GCz G n1 zz) l y cd mL ret rm mc ms (.ref (aC n1) :: As) z.1 v w2) (hz : (w3, z.2) = z2) (mi : MI y cd mL ret n9) (mv : MV y) (cb : CB 9 y.cls TX12 9 tyX12) (hw : Cond.methodLink own index y ∈ WALL) (hrm : rm.cells = mc ∧ rm.slots = ms ∧ rm.frames + 1 ≤ R.frames ∧ 8 + (mL + 11) + rm.locals ≤ R.locals) (hn : As.length = n9) (hst : st = As.reverse ++ .ref (aC n1) :: rest) (hcat : (rest.map fun v => v.category).sum ≤ 8) (hf : cells + mc ≤ R.cells ∧ slots + ms ≤ R.slots)
    (hdg : decode cc pc = .ok (.invokevirtual index, 3)) (ht : pc + 3 = t) (hst2 : v.toList ++ rest = st2) (kk : J G p l e R s m args below meth c nL (cells + mc) (slots + ms) Q (LH G n1 X z2) t lc st2) : J G p l e R s m args below meth c nL cells slots Q (LH G n1 X z) pc lc st := by
  subst hz
  exact J_lC hX hL As rest st2 hM rfl mi mv cb hw hrm hn hst hcat hf hdg ht hst2 (J_imp (fun H h => ⟨h.1, h.2.1.ag hA, h.2.2⟩) kk)
end GROWS
