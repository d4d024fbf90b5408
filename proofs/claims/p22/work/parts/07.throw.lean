/-! METHODS THAT MAY THROW: what the tables and the heap give for a throw; contracts of one form -/
abbrev eI : String := "java/lang/IndexOutOfBoundsException"
abbrev eA : String := "java/lang/IllegalArgumentException"
abbrev eS : String := "java/lang/IllegalStateException"
abbrev exN : List String := ["java/lang/RuntimeException", "java/lang/Exception"]
def xw : Cond → Bool
  | .castable _ _ => true
  | .declares _ => true
  | _ => false
theorem xw_warm {w : Cond} (h : xw w = true) {s U : State} (hW : s.WarmedH U.vm) (q : va_Nw w s) : va_Nw w U := by
  cases w <;> first | exact va_Nw.warmC hW q | exact va_Nw.warmD hW q | cases h
theorem xw_same {w : Cond} (h : xw w = true) {u U : State} (e : u.vm = U.vm) (q : va_Nw w u) : va_Nw w U := by
  cases w <;> first | exact va_Nw.same rfl e q | cases h
theorem xw_use {w : Cond} (h : xw w = true) {A : Array Value} {U : State} (q : va_Nw w U) : w.before A U = true := by
  cases w <;> first | exact va_Nw.use rfl q | cases h
def XWl : List Cond := (vx_atS RX4 52 eI exN ++ (vx_atS RX4 63 eA exN ++ vx_atS RX4 77 eS exN)).filter (fun w => !goodWord w)
theorem XWl_x : ∀ w ∈ XWl, xw w = true := by decide +kernel
theorem XWl_t : ∀ w ∈ XWl, w ∈ lw_tbl := by decide +kernel
/-- the class's text constants -/
def SXl : List (Nat × String) := [(100, "no such dowser or spot"), (119, "no such spot"), (124, "no peg is there"), (134, "there are 10 pits, or one is there"), (143, "no such dowser or pit"), (145, "no such number of coins"), (156, "dug already, bet already, or too few coins"), (162, "no such pit"), (164, "no such depth to dig by"), (169, "the pit is over"), (179, "no such spot or question"), (187, "no such dowser or question"), (192, "no such pit or question"), (197, "no such question"), (205, "no such pit or dowser"), (50, "an end is not in the field"), (61, "the ends are not in one row, column or diagonal"), (68, "no such depth or flow"), (75, "there are 6 veins"), (86, "no such feeling or lean"), (89, "there are 5 dowsers"), (94, "no such mark")]
def NCl : List (String × String) := []
/-- what the tables say, for methods that throw and that catch -/
def KX (D : va_G) (g : ClassId × ClassId × ClassId) (U : State) : Prop := KG D g U ∧ (∀ w ∈ XWl, va_Nw w U) ∧ (∀ q ∈ SXl, ∃ sa : Nat, vk_R RX4 q.1 q.2 sa U) ∧ ∀ q ∈ NCl, va_Nc q.1 q.2 U
theorem KX.warm {D : va_G} {g : ClassId × ClassId × ClassId} {s U : State} (hW : s.WarmedH U.vm) (h : KX D g s) : KX D g U := ⟨h.1.warm hW, fun w hw => xw_warm (XWl_x w hw) hW (h.2.1 w hw), fun q hq => (h.2.2.1 q hq).elim fun sa z => ⟨sa, z.warm hW⟩, fun q hq => va_Nc.moved hW.alike (h.2.2.2 q hq)⟩
theorem KX.calling {D : va_G} {g : ClassId × ClassId × ClassId} {U : State} (f : JFrame) (mk : MethodId) (a : Array Value) (h : KX D g U) : KX D g (U.calling f mk a) := ⟨h.1.calling f mk a, fun w hw => xw_same (u := U) (U := U.calling f mk a) (XWl_x w hw) rfl (h.2.1 w hw), fun q hq => (h.2.2.1 q hq).elim fun sa z => ⟨sa, vk_R.same (u := U) (U := U.calling f mk a) rfl z⟩, fun q hq => va_Nc.moved (u := U) (U := U.calling f mk a) (Vm.Alike.refl U.vm) (h.2.2.2 q hq)⟩
/-- the two statics of Throwable's; no cell of A is theirs -/
def ZQ (A : Nat → Prop) (U : State) (H : Heap) : Prop := vx_Zq Bundle.tN "UNASSIGNED_STACK" Bundle.steD A U H ∧ vx_Zq Bundle.tN "SUPPRESSED_SENTINEL" Bundle.listD A U H
theorem ZQ.moved {A : Nat → Prop} {u U : State} {H : Heap} (hvm : u.vm.Alike U.vm) (h : ZQ A u H) : ZQ A U H := ⟨h.1.moved hvm, h.2.moved hvm⟩
theorem ZQ.kept {A : Nat → Prop} {U : State} {H H1 : Heap} (h : ZQ A U H) (hq : ∀ a : Nat, a < H.size → ¬ A a → H1[a]? = H[a]?) : ZQ A U H1 := ⟨h.1.kept hq, h.2.kept hq⟩
theorem ZQ.narrow {A B : Nat → Prop} {U : State} {H : Heap} (h : ZQ A U H) (hAB : ∀ q, B q → A q) : ZQ B U H := ⟨h.1.narrow hAB, h.2.narrow hAB⟩
def PX (D : va_G) (g : ClassId × ClassId × ClassId) (A : Nat → Prop) (ws : va_W) : State → Prop := fun U => va_P D vwCl ws U.heap ∧ KX D g U ∧ ZQ A U U.heap
theorem PX.blind {D : va_G} {g : ClassId × ClassId × ClassId} {A : Nat → Prop} {ws : va_W} {As : List Value} : FrameBlind (va_Pc As (PX D g A ws)) := fun a U f mk h => ⟨h.1, h.2.1, h.2.2.1.calling f mk a, ZQ.moved (u := U) (U := U.calling f mk a) (Vm.Alike.refl U.vm) h.2.2.2⟩
def ExOK (ik ic : Nat) (cls : String) : Prop := Bundle.fit cls = true ∧ Cond.classLink RX4 ik cls ∈ AW ∧ Cond.initialized cls ∈ AW ∧ (∀ w ∈ (vx_atS RX4 ic cls exN).filter goodWord, w ∈ AW) ∧ (∀ w ∈ (vx_atS RX4 ic cls exN).filter (fun w => !goodWord w), w ∈ XWl) ∧ ∀ w ∈ Cond.classLink RX4 ik cls :: Cond.initialized cls :: vx_atS RX4 ic cls exN, vx_ot w = true
theorem x_filt {P : Cond → Prop} [DecidablePred P] {L : List Cond} {T : List Cond} (h : ∀ w ∈ L.filter goodWord, w ∈ T) : ∀ w ∈ L.filter goodWord, w ∈ T := h
theorem at_AW {L : List Cond} (h : ∀ w ∈ L.filter goodWord, w ∈ lw_tbl) : ∀ w ∈ L.filter goodWord, w ∈ AW := fun w hw => AW_of (h w hw) (List.mem_filter.mp hw).2
theorem ex_I : ExOK 48 52 eI := ⟨by decide +kernel, cl_X4_48, ini_IndexOutOfBoundsException, at_AW (by decide +kernel), by decide +kernel, by decide +kernel⟩
theorem ex_A : ExOK 59 63 eA := ⟨by decide +kernel, cl_X4_59, ini_IllegalArgumentException, at_AW (by decide +kernel), by decide +kernel, by decide +kernel⟩
theorem ex_S : ExOK 73 77 eS := ⟨by decide +kernel, cl_X4_73, ini_IllegalStateException, at_AW (by decide +kernel), by decide +kernel, by decide +kernel⟩
/-- a contract of a method that returns r with the world wc', where ok holds, or throws E, where ex E holds, and has changed nothing then -/
abbrev XM (l : Launch) (y : MethodName) (b : ByteArray) (n : Nat) (ret : Option FieldType) (fr lo : Nat) (D : va_G) (g : ClassId × ClassId × ClassId) (A : Nat → Prop) (wc : va_W) (As : List Value) (wc' : va_W) (r : Int) (ok : Prop) (ex : String → Prop) : Prop := vx_Met l y (WS y b n ret) { frames := fr, cells := 1, slots := 6, locals := lo } (va_Pc As (PX D g A wc)) (va_Qi (fun v (_ : Unit) => ok ∧ v = zI r) (fun _ t => va_P D vwCl wc' t.heap) A) (vx_X (fun (_ : Unit) => True) (fun E _ _ => ex E) (fun _ => False)) 1 6 A
section XC
variable {p : Program} {l : Launch} {e : Env} {R : Room} {s : State} {m : MethodId} {args : Array Value} {below : List Frame} {meth : Method} {c : Code} {H : Heap} {locs : List Loc} {cells slots : Nat} {Q : State → Prop}
variable {cc : ByteArray} {nL pc : Nat} {own : String} {ls : Array Slot} {rest st0 : List Value} {D : va_G} {A A1 : Nat → Prop} {g : ClassId × ClassId × ClassId} {ws wc wc' : va_W} {H0 : Heap}
variable {As : List Value} {ok : Prop} {ex : String → Prop}
theorem x_enter {y : MethodName} {cc : ByteArray} {maxL : Nat} {ret : Option FieldType} {rm : Room} {Qc : Array Value → State → Outcome → State → Prop} {XX : String → State → State → Prop} {mc ms : Nat} {free : Addr → Prop} (own : String) (hy : plainName y.cls = true) (ho : y.cls = own) (hlen : (lg_sl As).length ≤ maxL)
    (body : ∀ p e s m args below meth c, CallFix p m c cc maxL s args AW own → meth.sig.returnType = ret → meth.locks = false → KX D g s → ZQ A s s.heap → (∀ x ∈ c.exceptionTable.toList, False) → va_P D vwCl wc s.heap → ∀ ls, lv_has ls maxL (lv_args 0 As) →
      W p l e rm s m args below meth c s.heap [] 0 0 (vx_MQ below Qc XX args s mc ms free) (F0 m 0 ls [])) : vx_Met l y (WS y cc maxL ret) rm (va_Pc As (PX D g A wc)) Qc XX mc ms free := by
  refine vx_ofW (cc := cc) (maxL := maxL) (ret := ret) hy rfl ?_
  intro p e s m args below meth c s₁ B hml hno hv
  obtain ⟨rfl, hP, hK, hZ⟩ := hv
  have hts := atoms_spec (ws := WS y cc maxL ret) B.pre
  have hown : s.vm.findClass own = some m.cls := by rw [← ho]; exact findClass_of_methodNamed B.named
  rw [lg_entry_eq]
  exact body p e s m _ below meth c ⟨B.exec, B.bytes, hml, hown, fun w h => hts w (List.mem_cons_of_mem _ h)⟩ B.returns B.notSynchronized hK hZ hno hP _ (lv_entry As hlen)
theorem x_throw (S : CallFix p m c cc nL s args AW RX4) (hst : l.stackTraces = false) (hX : KX D g s) (hZ : ZQ A s s.heap) (hno : ∀ x ∈ c.exceptionTable.toList, False) (hlk : meth.locks = false) {ik ic : Nat} {cls : String} (hE : ExOK ik ic cls) {is : Nat} {text : String} (hstr : (is, text) ∈ SXl) (hsz : ls.size = nL)
    (d0 : decode cc pc = .ok (.new ik, 3)) (d3 : decode cc (pc + 3) = .ok (.dup, 1)) (d4 : decode cc (pc + 4) = .ok (.ldc is, 2)) (d6 : decode cc (pc + 6) = .ok (.invokespecial ic, 3)) (d9 : decode cc (pc + 9) = .ok (.athrow, 1))
    (hR1 : 5 < R.frames) (hR2 : (rest.map fun v => v.category).sum + 82 ≤ R.locals) (hR3 : 1 ≤ R.cells) (hR4 : 6 ≤ R.slots) {Qc : Array Value → State → Outcome → State → Prop} (hx : ex cls) :
    W p l e R s m args below meth c s.heap [] 0 0 (vx_MQ below Qc (vx_X (fun (_ : Unit) => True) (fun E _ _ => ex E) (fun _ => False)) args s 1 6 A) (F0 m pc ls rest) := by
  obtain ⟨sa, hsa⟩ := hX.2.2.1 _ hstr
  refine vx_throwS (names := exN) (A := A) S.1 S.2.1 hst S.2.2.2.1 hE.1 (by decide) (S.2.2.2.2 _ hE.2.1) (S.2.2.2.2 _ hE.2.2.1) hsa (vx_hat (B := XWl) (fun w hw => S.2.2.2.2 _ (hE.2.2.2.1 w hw)) hE.2.2.2.2.1 (fun w hw => xw_use (XWl_x w hw) (hX.2.1 w hw))) hE.2.2.2.2.2 hZ.1 hZ.2 va_S.rf (hsz.trans S.2.2.1.symm) d0 d3 d4 d6 d9 (fun x hx => absurd (hno x hx) id) hR1 hR2 (by omega) (by omega) hlk (fun t hvm h1 h2 => ⟨(), trivial, hx, h1, fun q hq _ => h2 q hq⟩) (fun z hz => absurd hz List.not_mem_nil) (by omega) (by omega)
theorem x_ret (S : CallFix p m c cc nL s args AW own) (hr : meth.sig.returnType = some .int) (hlk : meth.locks = false) {x r : Int} (hk : ok) (he : x = r) (hP : va_P D vwCl wc' H) (hS : va_S A s.heap H locs) {XX : String → State → State → Prop} (hdg : decode cc pc = .ok (.ireturn, 1)) : W p l e R s m args below meth c H locs 0 0 (vx_MQ below (va_Qi (fun v (_ : Unit) => ok ∧ v = zI r) (fun _ t => va_P D vwCl wc' t.heap) A) XX args s 1 6 A) (F0 m pc ls [.int (zI x)]) := by
  refine W.widen (k := 1) (n := 6) (by omega) (by omega) ?_
  exact vx_ret (W.iret S.1 S.2.1 hr (fun t ht _ => ⟨⟨_, (), rfl, ⟨hk, by rw [he]⟩, by show va_P D vwCl wc' t.heap; rw [ht]; exact hP⟩, hS.F ht⟩) hS.2.2 hdg hlk)
end XC
