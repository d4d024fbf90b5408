/-! ROWS OF THE LAW'S OWN METHODS -/
theorem cx_S : Cond.castable eS eS ∈ XWl := by decide +kernel
abbrev AP (D : va_G) (g : ClassId × ClassId × ClassId) (A : Nat → Prop) (ws : va_W) (sz : Nat) : State → Prop := fun U => U.heap.size = sz ∧ va_P D vwCl ws U.heap ∧ KX D g U ∧ ZQ A U U.heap
theorem AP.blind {D : va_G} {g : ClassId × ClassId × ClassId} {A : Nat → Prop} {ws : va_W} {sz : Nat} {As : List Value} : FrameBlind (va_Pc As (AP D g A ws sz)) := fun a U f mk h => ⟨h.1, h.2.1, h.2.2.1, h.2.2.2.1.calling f mk a, ZQ.moved (u := U) (U := U.calling f mk a) (Vm.Alike.refl U.vm) h.2.2.2.2⟩
/-- what is known behind an act -/
def AQ (B : Int) (n3 b0 : Int) (u : CS × SS × (Nat → Nat)) : Prop := IC B u.1 ∧ IT u.2.1 ∧ RS u.1 u.2.1 ∧ u.2.1.1 3 = n3 ∧ ((u.2.2 0 : Nat) : Int) = b0
section LR
variable {p : Program} {l : Launch} {e : Env} {R : Room} {s : State} {m : MethodId} {args : Array Value} {below : List Frame} {meth : Method} {c : Code} {H : Heap} {locs : List Loc} {cells slots : Nat} {Q : State → Prop}
variable {cc : ByteArray} {nL pc : Nat} {own : String} {ls : Array Slot} {rest st0 : List Value} {D : va_G} {A : Nat → Prop} {g : ClassId × ClassId × ClassId} {a b : Nat → Nat} {c0 c1 : CS} {t t' : SS} {X PRE wc : va_W} {As : List Value}
theorem y_joinV (P : Int → Prop) (pj : Nat) {lv : List (Nat × Value)} (rest : List Value) {gg : JFrame} (h : (∀ v : Int, P v → ∀ ls : Array Slot, lv_has ls nL lv → W p l e R s m args below meth c H locs cells slots Q (F0 m pj ls (.int (zI v) :: rest))) → W p l e R s m args below meth c H locs cells slots Q gg) (j : ∀ v : Int, P v → ∀ ls : Array Slot, lv_has ls nL lv → W p l e R s m args below meth c H locs cells slots Q (F0 m pj ls (.int (zI v) :: rest))) : W p l e R s m args below meth c H locs cells slots Q gg := h j
theorem y_join0 (pj : Nat) {lv : List (Nat × Value)} {gg : JFrame} (h : (∀ ls : Array Slot, lv_has ls nL lv → W p l e R s m args below meth c H locs cells slots Q (F0 m pj ls [])) → W p l e R s m args below meth c H locs cells slots Q gg) (j : ∀ ls : Array Slot, lv_has ls nL lv → W p l e R s m args below meth c H locs cells slots Q (F0 m pj ls [])) : W p l e R s m args below meth c H locs cells slots Q gg := h j
theorem y_joinL (P : Int → Int → Prop) (pj : Nat) {lv : Int → Int → List (Nat × Value)} {gg : JFrame} (h : (∀ v w : Int, P v w → ∀ ls : Array Slot, lv_has ls nL (lv v w) → W p l e R s m args below meth c H locs cells slots Q (F0 m pj ls [])) → W p l e R s m args below meth c H locs cells slots Q gg) (j : ∀ v w : Int, P v w → ∀ ls : Array Slot, lv_has ls nL (lv v w) → W p l e R s m args below meth c H locs cells slots Q (F0 m pj ls [])) : W p l e R s m args below meth c H locs cells slots Q gg := h j
theorem a_enter {y : MethodName} {cc : ByteArray} {maxL sz : Nat} {hh : List (Nat × Nat × Nat × Nat)} {rm : Room} {Qc : Array Value → State → Outcome → State → Prop} {XX : String → State → State → Prop} {mc ms : Nat} {free : Addr → Prop} (own : String) (hy : plainName y.cls = true) (ho : y.cls = own) (hlen : (lg_sl As).length ≤ maxL)
    (body : ∀ p e s m args below meth c, CallFix p m c cc maxL s args AW own → meth.sig.returnType = some .boolean → meth.locks = false → s.heap.size = sz → KX D g s → ZQ A s s.heap → c.exceptionTable.toList = tableOf hh → va_P D vwCl wc s.heap → ∀ ls, lv_has ls maxL (lv_args 0 As) →
      W p l e rm s m args below meth c s.heap [] 0 0 (vx_MQ below Qc XX args s mc ms free) (F0 m 0 ls [])) : vx_Met l y (.codeWith y cc maxL (some .boolean) hh :: AW) rm (va_Pc As (AP D g A wc sz)) Qc XX mc ms free := by
  refine vx_ofWH (cc := cc) (maxL := maxL) (ret := some .boolean) (hh := hh) hy rfl ?_
  intro p e s m args below meth c s₁ B hml hv
  obtain ⟨rfl, hz, hP, hK, hZ⟩ := hv
  have hts := atoms_spec (ws := .codeWith y cc maxL (some .boolean) hh :: AW) B.pre
  have hown : s.vm.findClass own = some m.cls := by rw [← ho]; exact findClass_of_methodNamed B.named
  rw [lg_entry_eq]
  exact body p e s m _ below meth c ⟨B.exec, B.bytes, hml, hown, fun w h => hts w (List.mem_cons_of_mem _ h)⟩ B.returns B.notSynchronized hz hK hZ (vx_table (x := y) B (hts _ List.mem_cons_self)) hP _ (lv_entry As hlen)
abbrev AQc (D : va_G) (g : ClassId × ClassId × ClassId) (a : Nat → Nat) (A : Nat → Prop) (B n3 b0 : Int) : Array Value → State → Outcome → State → Prop := va_Qi (fun v (u : CS × SS × (Nat → Nat)) => v = zI 1 ∧ AQ B n3 b0 u) (fun u U => va_P D vwCl (CW g a u.1 ++ SW g u.2.2 u.2.1) U.heap ∧ va_D A (CW g a u.1 ++ SW g u.2.2 u.2.1) ∧ SB A u.2.2 u.2.1) A
theorem y_aretA {B n3 b0 : Int} {mc ms : Nat} {XX : String → State → State → Prop} {x : Int} (S : CallFix p m c cc nL s args AW own) (hr : meth.sig.returnType = some .boolean) (hlk : meth.locks = false) (hx : x = 1) (hq : AQ B n3 b0 (c1, t', b)) (hP : va_P D vwCl (CW g a c1 ++ SW g b t') H) (hD : va_D A (CW g a c1 ++ SW g b t')) (hB : SB A b t') (hS : va_S A s.heap H locs) (hc : cells ≤ mc ∧ slots ≤ ms) (hdg : decode cc pc = .ok (.ireturn, 1)) : W p l e R s m args below meth c H locs cells slots (vx_MQ below (AQc D g a A B n3 b0) XX args s mc ms A) (F0 m pc ls [.int (zI x)]) := by
  subst hx
  refine W.widen (k := mc) (n := ms) hc.1 hc.2 ?_
  exact vx_ret (W.zret S.1 S.2.1 hr (z_narr (Or.inr rfl)) (fun t ht _ => ⟨⟨_, (c1, t', b), rfl, ⟨rfl, hq⟩, by show va_P D vwCl (CW g a c1 ++ SW g b t') t.heap; rw [ht]; exact hP, hD, hB⟩, hS.F ht⟩) hS.2.2 hdg hlk)
end LR
