/-! NEW OBJECTS AND ARRAYS, OVER THE WORLD AT HAND -/
section ZN
variable {p : Program} {l : Launch} {e : Env} {R : Room} {s : State} {m : MethodId} {args : Array Value} {below : List Frame} {meth : Method} {c : Code} {H : Heap} {locs : List Loc} {cells slots : Nat} {Q : State → Prop}
variable {cc : ByteArray} {nL pc : Nat} {own : String} {ls : Array Slot} {rest st0 : List Value} {D : va_G} {A A1 : Nat → Prop} {g : ClassId × ClassId × ClassId} {ws wc wc' : va_W} {H0 : Heap}
variable {y : MethodName} {bytes : ByteArray} {maxL n index b : Nat} {ret : Option FieldType} {rm : Room} {C host : String} {As : List Value}
theorem va_D1 {h : Nat} {e : va_E} (hA : A h) : va_D A [(h, e)] := by
  have key : ∀ (k : Nat) (q : Nat × va_E), [(h, e)][k]? = some q → k = 0 ∧ q = (h, e) := by
    intro k q hk
    cases k with
    | zero => exact ⟨rfl, (Option.some.inj hk).symm⟩
    | succ k => simp at hk
  exact ⟨fun i j p q hi hj _ => by rw [(key i p hi).1, (key j q hj).1], fun k q hk => by rw [(key k q hk).2]; exact hA⟩
/-- the class of an array type is one -/
theorem KG.int (hK : KG D g s) {cA : ClassId} (h : va_K D vwCl (tysG g ++ [(cA, .int)]) s) : cA = g.1 := by
  have h1 := (hK.1.2 0 _ rfl).2
  have h2 := (h.2 3 _ rfl).2
  exact Option.some.inj (h2.symm.trans h1)
theorem KG.bool (hK : KG D g s) {cA : ClassId} (h : va_K D vwCl (tysG g ++ [(cA, .boolean)]) s) : cA = g.2.1 := by
  have h1 := (hK.1.2 1 _ rfl).2
  have h2 := (h.2 3 _ rfl).2
  exact Option.some.inj (h2.symm.trans h1)
theorem zI_clampN {N : Nat} (h : N ≤ 100000) : (zI (N : Int)).toNatClampNeg = N := by
  have := zI_clamp (z := (N : Int)) (by omega)
  omega
theorem zI_nneg {z : Int} (h : 0 ≤ z ∧ z ≤ 100000) : ¬ zI z < 0 := fun q => by
  have := (zI_lt (a := z) (b := 0) (by omega) (by omega)).mp q
  omega
theorem n_newi (S : CallFix p m c cc nL s args AW own) (hK : KG D g s) (hP : va_P D vwCl ws H) (hD : va_D A ws) (hS : va_S A H0 H locs) (hA : ∀ q, H0.size ≤ q → A q) (N : Nat) (hN : N ≤ 100000) (hcells : cells + 1 ≤ R.cells) (hslots : slots + N ≤ R.slots) (hdg : decode cc pc = .ok (.newarray .int, 2))
    (kk : ∀ (q : Nat) (H1 : Heap), va_P D vwCl (ws ++ [(q, .inl (g.1, N, .inl (zA (fun _ => 0))))]) H1 → va_D A (ws ++ [(q, .inl (g.1, N, .inl (zA (fun _ => 0))))]) → va_S A H0 H1 locs → W p l e R s m args below meth c H1 locs (cells + 1) (slots + N) Q (F0 m (pc + 2) ls (.ref q :: rest))) : W p l e R s m args below meth c H locs cells slots Q (F0 m pc ls (.int (zI (N : Int)) :: rest)) := by
  refine va_newa (atype := .int) (ty := .int) (a0 := (N, .inl (zA (fun _ => 0)))) S.1 S.2.1 (S.2.2.2.2 _ ac_int) rfl hK.1 hP hD hS hA (fun cA => rfl) (zI_nneg (by omega)) (zI_clampN hN) (by show N * 4 ≤ _; omega) hcells hslots hdg (fun q cA H1 h1 h2 h3 h4 => ?_)
  obtain rfl := hK.int h1
  exact kk q H1 h2 h3 h4
theorem n_newz (S : CallFix p m c cc nL s args AW own) (hK : KG D g s) (hP : va_P D vwCl ws H) (hD : va_D A ws) (hS : va_S A H0 H locs) (hA : ∀ q, H0.size ≤ q → A q) (N : Nat) (hN : N ≤ 100000) (hcells : cells + 1 ≤ R.cells) (hslots : slots + N ≤ R.slots) (hdg : decode cc pc = .ok (.newarray .boolean, 2))
    (kk : ∀ (q : Nat) (H1 : Heap), va_P D vwCl (ws ++ [(q, .inl (g.2.1, N, .inl (zA (fun _ => 0))))]) H1 → va_D A (ws ++ [(q, .inl (g.2.1, N, .inl (zA (fun _ => 0))))]) → va_S A H0 H1 locs → W p l e R s m args below meth c H1 locs (cells + 1) (slots + N) Q (F0 m (pc + 2) ls (.ref q :: rest))) : W p l e R s m args below meth c H locs cells slots Q (F0 m pc ls (.int (zI (N : Int)) :: rest)) := by
  refine va_newa (atype := .boolean) (ty := .boolean) (a0 := (N, .inl (zA (fun _ => 0)))) S.1 S.2.1 (S.2.2.2.2 _ ac_boolean) rfl hK.1 hP hD hS hA (fun cA => rfl) (zI_nneg (by omega)) (zI_clampN hN) (by show N * 1 ≤ _; omega) hcells hslots hdg (fun q cA H1 h1 h2 h3 h4 => ?_)
  obtain rfl := hK.bool h1
  exact kk q H1 h2 h3 h4
variable {T : u_T} {N ci : Nat} {a0 : Nat}
theorem n_put (S : CallFix p m c cc nL s args AW own) (hin : ∀ w ∈ u_ws C T N, w ∈ AW) (ty0 : Nat → FieldType) (hty : ∀ k, k < N → parseFieldDescriptor (T k).2.2.1 = some (ty0 k)) (hnm : ∀ a, a < N → ∀ b, b < N → a ≠ b → (T a).2.1 ≠ (T b).2.1) (hK : KG D g s) (hP : va_P D vwCl ws H) (hD : va_D A ws) (hS : va_S A H0 H locs) (q0 : Nat) {fs : List Value} (he : ws[q0]? = some (a0, .inr (ci, fs))) (hc : vwCl[ci]? = some (C, T, N)) (k : Nat) (hk : k < N) (hlink : Cond.fieldLink own index (T k).1 (T k).2.1 (T k).2.2.1 ∈ AW) (hfin : (T k).2.2.2 = false) {v : Int} (hd : parseFieldDescriptor (T k).2.2.1 = some .int) (hl : k < fs.length)
    (hdg : decode cc pc = .ok (.putfield index, 3)) (kk : ∀ (H1 : Heap) (locs1 : List Loc), va_P D vwCl (ws.set q0 (a0, .inr (ci, fs.set k (.int (zI v))))) H1 → va_D A (ws.set q0 (a0, .inr (ci, fs.set k (.int (zI v))))) → va_S A H0 H1 locs1 → W p l e R s m args below meth c H1 locs1 cells slots Q (F0 m (pc + 3) ls rest)) : W p l e R s m args below meth c H locs cells slots Q (F0 m pc ls (.int (zI v) :: .ref a0 :: rest)) :=
  va_put S.1 S.2.1 S.2.2.2.2 hin ty0 hty hnm S.2.2.2.1 hK.1 hP hD hS q0 he hc k hk (S.2.2.2.2 _ hlink) (fun _ h => h) hfin hd rfl rfl hl hdg (fun H1 locs1 h1 h2 h3 => kk H1 locs1 h1 h2 h3)
theorem n_putr (S : CallFix p m c cc nL s args AW own) (hin : ∀ w ∈ u_ws C T N, w ∈ AW) (ty0 : Nat → FieldType) (hty : ∀ k, k < N → parseFieldDescriptor (T k).2.2.1 = some (ty0 k)) (hnm : ∀ a, a < N → ∀ b, b < N → a ≠ b → (T a).2.1 ≠ (T b).2.1) (hK : KG D g s) (hP : va_P D vwCl ws H) (hD : va_D A ws) (hS : va_S A H0 H locs) (q0 : Nat) {fs : List Value} (he : ws[q0]? = some (a0, .inr (ci, fs))) (hc : vwCl[ci]? = some (C, T, N)) (k : Nat) (hk : k < N) (hlink : Cond.fieldLink own index (T k).1 (T k).2.1 (T k).2.2.1 ∈ AW) (hfin : (T k).2.2.2 = true) (hini : meth.name = "<init>") (hdecl : (T k).1 = own) {ty : FieldType} {v : Nat} (hd : parseFieldDescriptor (T k).2.2.1 = some ty) (hn : narrow ty (.ref v) = .ref v) (hfit : fits ty (.ref v) = true) (hl : k < fs.length)
    (hdg : decode cc pc = .ok (.putfield index, 3)) (kk : ∀ (H1 : Heap) (locs1 : List Loc), va_P D vwCl (ws.set q0 (a0, .inr (ci, fs.set k (.ref v)))) H1 → va_D A (ws.set q0 (a0, .inr (ci, fs.set k (.ref v)))) → va_S A H0 H1 locs1 → W p l e R s m args below meth c H1 locs1 cells slots Q (F0 m (pc + 3) ls rest)) : W p l e R s m args below meth c H locs cells slots Q (F0 m pc ls (.ref v :: .ref a0 :: rest)) :=
  va_putF S.1 S.2.1 S.2.2.2.2 hin ty0 hty hnm S.2.2.2.1 hK.1 hP hD hS q0 he hc k hk (S.2.2.2.2 _ hlink) (fun _ h => h) hfin hini hdecl hd hn hfit hl hdg (fun H1 locs1 h1 h2 h3 => kk H1 locs1 h1 h2 h3)
/-- what a constructor does: from the fresh object alone, to the world V u for some addresses u -/
abbrev NWp (D : va_G) (g : ClassId × ClassId × ClassId) (h0 : Nat) (e0 : va_E) (sz : Nat) : State → Prop := fun U => U.heap.size = sz ∧ va_P D vwCl [(h0, e0)] U.heap ∧ KG D g U
abbrev NWq (D : va_G) (h0 : Nat) (e0 : va_E) (sz : Nat) (V : (Nat → Nat) → va_W) (pa : (Nat → Nat) → Prop) : Array Value → State → Outcome → State → Prop := va_Qv pa (fun u t => va_P D vwCl (V u) t.heap ∧ va_D (va_A [(h0, e0)] sz) (V u)) (va_A [(h0, e0)] sz)
abbrev NWm (l : Launch) (y : MethodName) (b : ByteArray) (n fr nc ns lo : Nat) (D : va_G) (g : ClassId × ClassId × ClassId) (h0 : Nat) (e0 : va_E) (V : (Nat → Nat) → va_W) (pa : (Nat → Nat) → Prop) : Prop := ∀ sz : Nat, Met l y (WS y b n none) { frames := fr, cells := nc, slots := ns, locals := lo } (va_Pc [.ref h0] (NWp D g h0 e0 sz)) (NWq D h0 e0 sz V pa) nc ns (va_A [(h0, e0)] sz)
theorem n_enter {h0 : Nat} {e0 : va_E} {fr nc ns lo : Nat} {V : (Nat → Nat) → va_W} {pa : (Nat → Nat) → Prop} (own : String) (hy : plainName y.cls = true) (ho : y.cls = own) (hyn : y.name = "<init>") (hlen : (lg_sl [Value.ref h0]).length ≤ maxL)
    (body : ∀ p e s m args below meth c (A : Nat → Prop), A = va_A [(h0, e0)] s.heap.size → (∀ q, s.heap.size ≤ q → A q) → va_D A [(h0, e0)] → CallFix p m c cc maxL s args AW own → meth.sig.returnType = none → meth.locks = false → meth.name = "<init>" → KG D g s → va_P D vwCl [(h0, e0)] s.heap → ∀ ls, lv_has ls maxL (lv_args 0 [.ref h0]) →
      W p l e { frames := fr, cells := nc, slots := ns, locals := lo } s m args below meth c s.heap [] 0 0 (MQ below (va_Qv pa (fun u t => va_P D vwCl (V u) t.heap ∧ va_D A (V u)) A) args s nc ns A) (F0 m 0 ls [])) : NWm l y cc maxL fr nc ns lo D g h0 e0 V pa := by
  intro sz
  refine Met.ofW (cc := cc) (maxL := maxL) (ret := none) hy rfl ?_
  intro p e s m args below meth c s₁ B hml hv
  obtain ⟨rfl, hsz, hP, hK⟩ := hv
  have hts := atoms_spec (ws := WS y cc maxL none) B.pre
  have hown : s.vm.findClass own = some m.cls := by rw [← ho]; exact findClass_of_methodNamed B.named
  subst hsz
  rw [lg_entry_eq]
  exact body p e s m _ below meth c _ rfl (fun q h => Or.inr h) (va_D1 (Or.inl ⟨0, e0, rfl⟩)) ⟨B.exec, B.bytes, hml, hown, fun w h => hts w (List.mem_cons_of_mem _ h)⟩ B.returns B.notSynchronized (by rw [(name_of_methodNamed B.named B.method).1]; exact hyn) hK hP _ (lv_entry [.ref h0] hlen)
theorem mkI (ht : ∀ w ∈ AW, w.before args s = true) (h1 : Cond.methodLink own index y ∈ AW) (h2 : Cond.instanceMethod y ∈ AW) (h4 : Cond.initialized y.cls ∈ AW) (h5 : Cond.code y bytes maxL none ∈ AW)
    (hd : y.cls = C ∧ y.cls ≠ "java/lang/invoke/MethodHandle" ∧ y.cls ≠ "java/lang/invoke/VarHandle" ∧ (parseMethodDescriptor y.desc).map (fun d => d.parameters.length) = some n) (hyn : y.name = "<init>") (hR : rm.frames + 1 ≤ R.frames ∧ 8 + (maxL + 11) + rm.locals ≤ R.locals) : CallB R s args own index y bytes maxL none (WS y bytes maxL none) rm rm.cells rm.slots n ∧ y.name = "<init>" ∧ (Cond.instanceMethod y).before args s = true :=
  ⟨callB_of n ht (gin_WS h5) rfl rfl rfl (ht _ h4) (ht _ h1) hd.2 hR, hyn, ht _ h2⟩
/-- a constructor's call: the world is the rest wr, and the new one V u -/
theorem n_call {h0 : Nat} {e0 : va_E} {fr nc ns lo : Nat} {V : (Nat → Nat) → va_W} {pa : (Nat → Nat) → Prop} (S : CallFix p m c cc nL s args AW own) (hM : NWm l y bytes maxL fr nc ns lo D g h0 e0 V pa) (h1 : Cond.methodLink own index y ∈ AW) (h2 : Cond.instanceMethod y ∈ AW) (h4 : Cond.initialized y.cls ∈ AW) (h5 : Cond.code y bytes maxL none ∈ AW)
    (hd : y.cls = C ∧ y.cls ≠ "java/lang/invoke/MethodHandle" ∧ y.cls ≠ "java/lang/invoke/VarHandle" ∧ (parseMethodDescriptor y.desc).map (fun d => d.parameters.length) = some 0) (hyn : y.name = "<init>") (hR : fr + 1 ≤ R.frames ∧ 8 + (maxL + 11) + lo ≤ R.locals)
    (hK : KG D g s) (hP : va_P D vwCl ws H) (hD : va_D A ws) (hS : va_S A H0 H locs) (hA : ∀ q, H0.size ≤ q → A q) (wr : va_W) (i0 : Nat) (isR : List Nat) (hi : ws[i0]? = some (h0, e0)) (hrr : isR.map (fun i => ws[i]?) = wr.map some) (hn : va_nd isR = true) (hdis : ∀ i ∈ isR, i ∉ [i0])
    (hsz : ls.size = nL) (hst : st0 = .ref h0 :: rest) (hr : (rest.map fun v => v.category).sum ≤ 8) (hc : cells + nc ≤ R.cells ∧ slots + ns ≤ R.slots) (hdg : decode cc pc = .ok (.invokespecial index, 3))
    (kk : ∀ (u : Nat → Nat) (H1 : Heap) (locs1 : List Loc), pa u → va_P D vwCl (wr ++ V u) H1 → va_D A (wr ++ V u) → va_S A H0 H1 locs1 → W p l e R s m args below meth c H1 locs1 (cells + nc) (slots + ns) Q (F0 m (pc + 3) ls rest)) : W p l e R s m args below meth c H locs cells slots Q (F0 m pc ls st0) := by
  have hC : [i0].map (fun i => ws[i]?) = [(h0, e0)].map some := by show [ws[i0]?] = _; rw [hi]; rfl
  have hFc := va_free (wc := [(h0, e0)]) hD hS hA [i0] hC
  have hPc : va_P D vwCl [(h0, e0)] H := fun k q hk => by
    cases k with
    | zero => cases hk; exact hP i0 _ hi
    | succ k => simp at hk
  refine va_callv (va_runI (As := []) (rest := rest) S (hM H.size) (mkI S.2.2.2.2 h1 h2 h4 h5 hd hyn hR) ⟨fun a U f mk q => ⟨q.1, q.2.1, q.2.2.1, q.2.2.2.calling f mk a⟩, fun U hU hW => ⟨rfl, by rw [hU], by rw [hU]; exact hPc, hK.warm hW⟩⟩ rfl rfl hsz hst (z_lroom hr) hdg hc) hS (fun q _ h => hFc q h) hFc (fun u t H1 locs1 ht hvm hu hB hz hk hS1 => ?_)
  obtain ⟨hP1, hD1⟩ := hB
  rw [ht] at hP1
  obtain ⟨hP2, hD2⟩ := va_join hP hD [i0] isR hC hrr hn hdis hk hFc hP1 hD1
  exact kk u H1 locs1 hu hP2 hD2 hS1
end ZN
