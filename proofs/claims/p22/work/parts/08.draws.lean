/-! A LONG OF A METHOD THAT WRITES, METHODS THAT MAY DRAW, WHAT LAYING A VEIN OUT NEEDS -/
section ZD
variable {p : Program} {l : Launch} {e : Env} {R : Room} {s : State} {m : MethodId} {args : Array Value} {below : List Frame} {meth : Method} {c : Code} {H : Heap} {locs : List Loc} {cells slots : Nat} {Q : State → Prop}
variable {cc : ByteArray} {nL pc : Nat} {own : String} {ls : Array Slot} {rest st0 : List Value} {D : va_G} {A A1 : Nat → Prop} {g : ClassId × ClassId × ClassId} {ws wc wc' : va_W} {H0 : Heap}
variable {y : MethodName} {bytes : ByteArray} {maxL n index b : Nat} {ret : Option FieldType} {rm : Room} {C host : String} {As : List Value}
abbrev WRl (l : Launch) (y : MethodName) (b : ByteArray) (n : Nat) (ret : Option FieldType) (fr lo : Nat) (D : va_G) (g : ClassId × ClassId × ClassId) (A : Nat → Prop) (wc : va_W) (As : List Value) (wc' : va_W) (r : Int64) : Prop := Met l y (WS y b n ret) { frames := fr, cells := 0, slots := 0, locals := lo } (va_Pc As (PW D g wc)) (va_Ql (fun v (_ : Unit) => v = r) (fun _ t => va_P D vwCl wc' t.heap) A) 0 0 A
theorem z_retwl (S : CallFix p m c cc nL s args AW own) (hr : meth.sig.returnType = some .long) (hlk : meth.locks = false) {x r : Int64} (he : x = r) (hP : va_P D vwCl wc' H) (hS : va_S A s.heap H locs) (hdg : decode cc pc = .ok (.lreturn, 1)) : W p l e R s m args below meth c H locs 0 0 (MQ below (va_Ql (fun v (_ : Unit) => v = r) (fun _ t => va_P D vwCl wc' t.heap) A) args s 0 0 A) (F0 m pc ls [.long x]) :=
  W.lret S.1 S.2.1 hr (fun t ht _ => ⟨⟨_, (), rfl, he, by show va_P D vwCl wc' t.heap; rw [ht]; exact hP⟩, hS.F ht⟩) hS.2.2 hdg hlk
abbrev MDd (l : Launch) (y : MethodName) (b : ByteArray) (n : Nat) (ret : Option FieldType) (fr lo : Nat) (D : va_G) (g : ClassId × ClassId × ClassId) (A : Nat → Prop) (wc : va_W) (As : List Value) (wc' : va_W) (post : UInt64 → Prop) : Prop := MetD lw_cs l y (WS y b n ret) { frames := fr, cells := 0, slots := 0, locals := lo } (va_Pc As (PW D g wc)) (va_Qd (fun v (_ : Unit) => post v) (fun _ t => va_P D vwCl wc' t.heap) A) 0 0 A
theorem d_enter {y : MethodName} {cc : ByteArray} {maxL : Nat} {ret : Option FieldType} {rm : Room} {Qc : Array Value → State → Outcome → State → Prop} {mc ms : Nat} {free : Addr → Prop} (own : String) (hy : plainName y.cls = true) (ho : y.cls = own) (hlen : (lg_sl As).length ≤ maxL)
    (body : ∀ p e s0 s d0 m args below meth c, s = s0.setDrawn d0 → s0.drawn.sameBut d0 lw_cs → CallFix p m c cc maxL s args AW own → meth.sig.returnType = ret → meth.locks = false → KG D g s → va_P D vwCl wc s.heap → ∀ ls, lv_has ls maxL (lv_args 0 As) →
      W p l e rm s m args below meth c s.heap [] 0 0 (MQD lw_cs below Qc args s0 mc ms free) (F0 m 0 ls [])) : MetD lw_cs l y (WS y cc maxL ret) rm (va_Pc As (PW D g wc)) Qc mc ms free := by
  refine MetD.ofW (cc := cc) (maxL := maxL) (ret := ret) hy rfl ?_
  intro p e s m args below meth c s₁ B hml hv hd0
  obtain ⟨rfl, hP, hK⟩ := hv
  have hts := atoms_spec (ws := WS y cc maxL ret) B.pre
  have hown : s.vm.findClass own = some m.cls := by rw [← ho]; exact findClass_of_methodNamed B.named
  rw [lg_entry_eq]
  exact body p e s s s.drawn m _ below meth c rfl hd0 ⟨B.exec, B.bytes, hml, hown, fun w h => hts w (List.mem_cons_of_mem _ h)⟩ B.returns B.notSynchronized hK hP _ (lv_entry As hlen)
theorem z_S9 {d0 : Drawn} (S : CallFix p m c cc nL (s.setDrawn d0) args AW own) (d9 : Drawn) : CallFix p m c cc nL (s.setDrawn d9) args AW own := ⟨S.1, S.2.1, S.2.2.1, S.2.2.2.1, dr_words (s := s.setDrawn d0) S.2.2.2.2 d9⟩
theorem d_ret {d0 : Drawn} {sX : State} {v : UInt64} {post : UInt64 → Prop} (hd : s.drawn.sameBut d0 lw_cs) (S : CallFix p m c cc nL sX args AW own) (hr : meth.sig.returnType = some .double) (hlk : meth.locks = false) (hpost : post v) (hP : va_P D vwCl wc' H) (hS : va_S A s.heap H locs) (hdg : decode cc pc = .ok (.dreturn, 1)) : W p l e R (s.setDrawn d0) m args below meth c H locs 0 0 (MQD lw_cs below (va_Qd (fun v (_ : Unit) => post v) (fun _ t => va_P D vwCl wc' t.heap) A) args s 0 0 A) (F0 m pc ls [.double v]) :=
  W.endD hd (W.dret S.1 S.2.1 hr (fun t ht _ => ⟨⟨v, (), rfl, hpost, by show va_P D vwCl wc' t.heap; rw [ht]; exact hP⟩, hS.F ht⟩) hS.2.2 hdg hlk)
end ZD
theorem ab_cs (x : Int) : (ab x = x ∧ 0 ≤ x) ∨ (ab x = -x ∧ x < 0) := by
  unfold ab
  by_cases h : 0 ≤ x
  · rw [if_pos h]; omega
  · rw [if_neg h]; omega
