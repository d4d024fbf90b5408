/-! THE LAW'S WRAPPERS: a call of the class's that may throw, its code as the answer, its value in out[0] -/
theorem cx_I : Cond.castable eI eI ∈ XWl := by decide +kernel
theorem cx_A : Cond.castable eA eA ∈ XWl := by decide +kernel
theorem cx_S : Cond.castable eS eS ∈ XWl := by decide +kernel
def LA (a : Nat → Nat) (o : Nat) : Nat → Prop := fun q => CA 21 a q ∨ q = o
/-- the wrapper's world: the class's, and the one long of out -/
def LW (g : ClassId × ClassId × ClassId) (a : Nat → Nat) (c : CS) (o : Nat) (G : Nat → Int64) : va_W := CW g a c ++ [(o, .inl (g.2.2, 1, .inr (.inl G)))]
/-- out[0] becomes r -/
def oU (G : Nat → Int64) (r : Int) : Nat → Int64 := vp_updL G 0 (zI r).toInt64
abbrev LM (l : Launch) (y : MethodName) (b : ByteArray) (n : Nat) (hh : List (Nat × Nat × Nat × Nat)) (fr lo : Nat) (D : va_G) (g : ClassId × ClassId × ClassId) (A : Nat → Prop) (wc : va_W) (As : List Value) (wc' : va_W) (kd : Nat) : Prop := vx_Met l y (.codeWith y b n (some .int) hh :: AW) { frames := fr, cells := 1, slots := 6, locals := lo } (va_Pc As (PX D g A wc)) (va_Qi (fun v (_ : Unit) => v = zI (kd : Int)) (fun _ t => va_P D vwCl wc' t.heap) A) (vx_X (fun (_ : Unit) => False) (fun _ _ _ => False) (fun _ => False)) 1 6 A
section LC
variable {p : Program} {l : Launch} {e : Env} {R : Room} {s : State} {m : MethodId} {args : Array Value} {below : List Frame} {meth : Method} {c : Code} {H : Heap} {locs : List Loc} {cells slots : Nat} {Q : State → Prop}
variable {cc : ByteArray} {nL pc : Nat} {own : String} {ls : Array Slot} {rest st0 : List Value} {D : va_G} {A A1 : Nat → Prop} {g : ClassId × ClassId × ClassId} {ws wc wc' : va_W} {H0 : Heap}
variable {As : List Value} {ok : Prop} {ex : String → Prop}
theorem l_enter {y : MethodName} {cc : ByteArray} {maxL : Nat} {hh : List (Nat × Nat × Nat × Nat)} {rm : Room} {Qc : Array Value → State → Outcome → State → Prop} {XX : String → State → State → Prop} {mc ms : Nat} {free : Addr → Prop} (own : String) (hy : plainName y.cls = true) (ho : y.cls = own) (hlen : (lg_sl As).length ≤ maxL)
    (body : ∀ p e s m args below meth c, CallFix p m c cc maxL s args AW own → meth.sig.returnType = some .int → meth.locks = false → KX D g s → ZQ A s s.heap → c.exceptionTable.toList = tableOf hh → va_P D vwCl wc s.heap → ∀ ls, lv_has ls maxL (lv_args 0 As) →
      W p l e rm s m args below meth c s.heap [] 0 0 (vx_MQ below Qc XX args s mc ms free) (F0 m 0 ls [])) : vx_Met l y (.codeWith y cc maxL (some .int) hh :: AW) rm (va_Pc As (PX D g A wc)) Qc XX mc ms free := by
  refine vx_ofWH (cc := cc) (maxL := maxL) (ret := some .int) (hh := hh) hy rfl ?_
  intro p e s m args below meth c s₁ B hml hv
  obtain ⟨rfl, hP, hK, hZ⟩ := hv
  have hts := atoms_spec (ws := .codeWith y cc maxL (some .int) hh :: AW) B.pre
  have hown : s.vm.findClass own = some m.cls := by rw [← ho]; exact findClass_of_methodNamed B.named
  rw [lg_entry_eq]
  exact body p e s m _ below meth c ⟨B.exec, B.bytes, hml, hown, fun w h => hts w (List.mem_cons_of_mem _ h)⟩ B.returns B.notSynchronized hK hZ (vx_table (x := y) B (hts _ List.mem_cons_self)) hP _ (lv_entry As hlen)
variable {a : Nat → Nat} {o : Nat} {c0 : CS} {wcp : va_W} {eo : va_E} {y : MethodName} {bytes : ByteArray} {maxL index n b : Nat} {fr lo : Nat} {r : Int} {C : String}
/-- the call: behind it the class's world and out; or an exception that holds, everything as it was -/
theorem l_call (S : CallFix p m c cc nL s args AW own) (hM : XM l y bytes maxL (some .int) fr lo D g (CA 21 a) (CW g a c0) (.ref b :: As) wcp r ok ex) (h1 : Cond.methodLink own index y ∈ AW) (h2 : Cond.instanceMethod y ∈ AW) (h3 : Cond.selects C y y ∈ AW) (h4 : Cond.initialized C ∈ AW) (h5 : Cond.code y bytes maxL (some .int) ∈ AW)
    (hd : y.cls = C ∧ y.cls ≠ "java/lang/invoke/MethodHandle" ∧ y.cls ≠ "java/lang/invoke/VarHandle" ∧ (parseMethodDescriptor y.desc).map (fun d => d.parameters.length) = some n) (hR : fr + 1 ≤ R.frames ∧ 8 + (maxL + 11) + lo ≤ R.locals)
    (hX : KX D g s) (hZ : ZQ (LA a o) s s.heap) (hP : va_P D vwCl (CW g a c0 ++ [(o, eo)]) s.heap) (ho : ∀ k : Nat, k < 21 → o ≠ a k)
    (hv : ∃ cellB : Cell, s.heap[b]? = some cellB ∧ cellB.vm.isStatics = false ∧ s.vm.findClass C = some cellB.cls) (hn : As.length = n) (hsz : ls.size = nL) (hst : st0 = As.reverse ++ .ref b :: rest) (hr : (rest.map fun v => v.category).sum ≤ 8) (hc : 1 ≤ R.cells ∧ 6 ≤ R.slots) (hdg : decode cc pc = .ok (.invokevirtual index, 3))
    (kx : ∀ (E : String) (ce : Cell) (q9 : Addr) (H1 : Heap) (locs1 : List Loc), ex E → va_P D vwCl (CW g a c0 ++ [(o, eo)]) H1 → va_S (LA a o) s.heap H1 locs1 → H1[q9]? = some ce → ce.vm = .none → s.vm.findClass E = some ce.cls → vx_W p l e R s m args below meth c H1 locs1 1 6 Q (F0 m pc ls rest) q9)
    (kk : ok → ∀ (H1 : Heap) (locs1 : List Loc), va_P D vwCl (wcp ++ [(o, eo)]) H1 → va_S (LA a o) s.heap H1 locs1 → W p l e R s m args below meth c H1 locs1 1 6 Q (F0 m (pc + 3) ls (.int (zI r) :: rest))) : W p l e R s m args below meth c s.heap [] 0 0 Q (F0 m pc ls st0) := by
  have hlen : (CW g a c0).length = 21 := rfl
  have hP1 : va_P D vwCl (CW g a c0) s.heap := fun k q hk => hP k q (by rw [List.getElem?_append_left (by have := (List.getElem?_eq_some_iff.mp hk).1; exact this)]; exact hk)
  have hPo : va_P D vwCl [(o, eo)] s.heap := fun k q hk => hP (21 + k) q (by rw [List.getElem?_append_right (by omega)]; rw [show 21 + k - (CW g a c0).length = k by rw [hlen]; omega]; exact hk)
  have hoA : ¬ CA 21 a o := fun ⟨k, hk, e⟩ => ho k hk e
  have hol : o < s.heap.size := (hPo 0 _ rfl).lt
  have hSr : va_S (LA a o) s.heap s.heap [] := va_S.rf
  refine vx_calli (AX := fun _ => False) (vx_runV (rest := rest) S hM (mkV S.2.2.2.2 h1 h2 h3 h4 h5 hd hR) ⟨PX.blind, hv, fun U hU hW => ⟨rfl, by rw [hU]; exact hP1, hX.warm hW, by rw [hU]; exact ZQ.moved hW.alike (hZ.narrow (fun q h => Or.inl h))⟩⟩ rfl hn hsz hst (z_lroom hr) hdg ⟨by show 0 + 1 ≤ _; omega, by show 0 + 6 ≤ _; omega⟩) hSr (fun q _ h => Or.inl h) (fun q h => Or.inl h) (fun q _ h => h.elim) (fun E ce q9 u t H1 locs1 ht _ _ hB hz hk hS1 hc1 hc2 hc3 => ?_) (fun v u t H1 locs1 ht _ hv hB hz hk hS1 => ?_)
  · refine kx E ce q9 H1 locs1 hB (hP.kept (fun k q hk9 => ?_)) hS1 hc1 hc2 hc3
    exact hk q.1 ((hP k q hk9).lt) (fun h => h)
  · obtain ⟨hok, rfl⟩ := hv
    rw [ht] at hB
    refine kk hok H1 locs1 (hB.app (hPo.kept (fun k q hk9 => ?_))) hS1
    have hq : q = (o, eo) := by
      cases k with
      | zero => exact (Option.some.inj hk9).symm
      | succ k => simp at hk9
    rw [hq]
    exact hk o hol hoA
/-- out[0] = the answer -/
theorem l_set (S : CallFix p m c cc nL s args AW own) (hX : KX D g s) {G : Nat → Int64} {x : CS} (hP : va_P D vwCl (CW g a x ++ [(o, .inl (g.2.2, 1, .inr (.inl G)))]) H) (hda : CD 21 a) (ho : ∀ k : Nat, k < 21 → o ≠ a k) (hS : va_S (LA a o) H0 H locs) (hdg : decode cc pc = .ok (.lastore, 1))
    (kk : ∀ (H1 : Heap) (locs1 : List Loc), va_P D vwCl (LW g a x o (oU G r)) H1 → va_S (LA a o) H0 H1 locs1 → W p l e R s m args below meth c H1 locs1 cells slots Q (F0 m (pc + 1) ls rest)) : W p l e R s m args below meth c H locs cells slots Q (F0 m pc ls (.long (zI r).toInt64 :: .int (zI 0) :: .ref o :: rest)) := by
  have hD1 := CW_D (g := g) hda x
  have hD : va_D (LA a o) (CW g a x ++ [(o, .inl (g.2.2, 1, .inr (.inl G)))]) := by
    refine va_D.app (hD1.weaken (fun _ _ _ h => Or.inl h)) (va_D1 (Or.inr rfl)) (fun i j p q hi hj e => ?_)
    obtain ⟨k, hk, hk2⟩ := hD1.2 i p hi
    have hq : q = (o, .inl (g.2.2, 1, .inr (.inl G))) := by
      cases j with
      | zero => exact (Option.some.inj hj).symm
      | succ j => simp at hj
    rw [hq] at e
    exact ho k hk (e.symm.trans hk2)
  exact va_last S.1 S.2.1 hX.1.1 hP hD hS 21 2 rfl rfl (zI_in (n := 1) (by omega) (by omega)) hdg (fun H1 locs1 h1 _ h3 => kk H1 locs1 h1 h3)
theorem l_ret (S : CallFix p m c cc nL s args AW own) (hr : meth.sig.returnType = some .int) (hlk : meth.locks = false) {x : Int} {kd : Nat} (he : x = kd) (hP : va_P D vwCl wc' H) (hS : va_S A s.heap H locs) {XX : String → State → State → Prop} (hdg : decode cc pc = .ok (.ireturn, 1)) : W p l e R s m args below meth c H locs 1 6 (vx_MQ below (va_Qi (fun v (_ : Unit) => v = zI (kd : Int)) (fun _ t => va_P D vwCl wc' t.heap) A) XX args s 1 6 A) (F0 m pc ls [.int (zI x)]) :=
  vx_ret (W.iret S.1 S.2.1 hr (fun t ht _ => ⟨⟨_, (), rfl, by rw [he], by show va_P D vwCl wc' t.heap; rw [ht]; exact hP⟩, hS.F ht⟩) hS.2.2 hdg hlk)
end LC
