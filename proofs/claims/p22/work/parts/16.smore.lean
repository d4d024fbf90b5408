/-! CALLS THAT MAKE CELLS; a row more, a row less; a new field of the law's -/
theorem va_P_l {D : va_G} {cl : List vw_C} {w1 w2 : va_W} {H : Heap} (h : va_P D cl (w1 ++ w2) H) : va_P D cl w1 H := fun k q hk => h k q (by rw [List.getElem?_append_left (List.getElem?_eq_some_iff.mp hk).1]; exact hk)
theorem va_P_r {D : va_G} {cl : List vw_C} {w1 w2 : va_W} {H : Heap} (h : va_P D cl (w1 ++ w2) H) : va_P D cl w2 H := fun k q hk => h (w1.length + k) q (by rw [List.getElem?_append_right (Nat.le_add_right _ _), Nat.add_sub_cancel_left]; exact hk)
theorem va_D_l {A : Nat → Prop} {w1 w2 : va_W} (h : va_D A (w1 ++ w2)) : va_D A w1 := ⟨fun i j p q hi hj e => h.1 i j p q (by rw [ap_at0 (List.getElem?_eq_some_iff.mp hi).1]; exact hi) (by rw [ap_at0 (List.getElem?_eq_some_iff.mp hj).1]; exact hj) e, fun k q hk => h.2 k q (by rw [ap_at0 (List.getElem?_eq_some_iff.mp hk).1]; exact hk)⟩
theorem va_D_r {A : Nat → Prop} {w1 w2 : va_W} (h : va_D A (w1 ++ w2)) : va_D A w2 := ⟨fun i j p q hi hj e => by
  have := h.1 (w1.length + i) (w1.length + j) p q (by rw [ap_at1 rfl]; exact hi) (by rw [ap_at1 rfl]; exact hj) e
  omega, fun k q hk => h.2 (w1.length + k) q (by rw [ap_at1 rfl]; exact hk)⟩
theorem va_D_ap {A : Nat → Prop} {w1 w2 : va_W} (h : va_D A (w1 ++ w2)) {x y : Nat × va_E} (hx : x ∈ w1) (hy : y ∈ w2) : x.1 ≠ y.1 := by
  obtain ⟨i, hi⟩ := List.getElem?_of_mem hx
  obtain ⟨j, hj⟩ := List.getElem?_of_mem hy
  have hl := (List.getElem?_eq_some_iff.mp hi).1
  intro e
  have := h.1 i (w1.length + j) x y (by rw [ap_at0 hl]; exact hi) (by rw [ap_at1 rfl]; exact hj) e
  omega
theorem va_D_of {A : Nat → Prop} {w1 w2 : va_W} (h1 : va_D A w1) (h2 : va_D A w2) (h : ∀ x ∈ w1, ∀ y ∈ w2, x.1 ≠ y.1) : va_D A (w1 ++ w2) := va_D.app h1 h2 (fun i j p q hi hj => h p (List.mem_of_getElem? hi) q (List.mem_of_getElem? hj))
theorem va_D_imp {A B : Nat → Prop} {ws : va_W} (h : va_D A ws) (hAB : ∀ q, A q → B q) : va_D B ws := ⟨h.1, fun k q hk => hAB _ (h.2 k q hk)⟩
/-- a part of the world, by its places -/
theorem va_D_T {A : Nat → Prop} {ws : va_W} (h : va_D A ws) : va_D (fun _ => True) ws := ⟨h.1, fun _ _ _ => trivial⟩
abbrev NP (D : va_G) (g : ClassId × ClassId × ClassId) (ws : va_W) (sz : Nat) : State → Prop := fun U => U.heap.size = sz ∧ va_P D vwCl ws U.heap ∧ KG D g U
theorem NP.blind {D : va_G} {g : ClassId × ClassId × ClassId} {ws : va_W} {sz : Nat} {As : List Value} : FrameBlind (va_Pc As (NP D g ws sz)) := fun a U f mk h => ⟨h.1, h.2.1, h.2.2.1, h.2.2.2.calling f mk a⟩
/-- a contract of a method that makes cells, changes no old one, and answers a reference -/
abbrev MRr (l : Launch) (y : MethodName) (b : ByteArray) (n : Nat) (ret : Option FieldType) (fr nc ns lo : Nat) (D : va_G) (g : ClassId × ClassId × ClassId) (wc : va_W) (As : List Value) (post : Nat → Heap → Prop) : Prop := ∀ sz : Nat, Met l y (WS y b n ret) { frames := fr, cells := nc, slots := ns, locals := lo } (va_Pc As (NP D g wc sz)) (va_Qr (fun (_ : Unit) => True) (fun _ q t => post q t.heap ∧ sz ≤ q ∧ q < t.heap.size) (fun q => sz ≤ q)) nc ns (fun q => sz ≤ q)
/-- a contract of a method of the law's own field that makes cells: the world behind it, and its answer -/
abbrev MSi (l : Launch) (y : MethodName) (b : ByteArray) (n : Nat) (fr nc ns lo : Nat) (D : va_G) (g : ClassId × ClassId × ClassId) (b0 : Nat → Nat) (t : SS) (As : List Value) (t' : SS) (r : Int) : Prop := ∀ sz : Nat, SB (va_A (SW g b0 t) sz) b0 t → Met l y (WS y b n (some .int)) { frames := fr, cells := nc, slots := ns, locals := lo } (va_Pc As (NP D g (SW g b0 t) sz)) (va_Qi (fun v (u : Nat → Nat) => v = zI r ∧ u 0 = b0 0) (fun u U => va_P D vwCl (SW g u t') U.heap ∧ SB (va_A (SW g b0 t) sz) u t') (va_A (SW g b0 t) sz)) nc ns (va_A (SW g b0 t) sz)
abbrev MSv (l : Launch) (y : MethodName) (b : ByteArray) (n : Nat) (fr nc ns lo : Nat) (D : va_G) (g : ClassId × ClassId × ClassId) (b0 : Nat → Nat) (t : SS) (As : List Value) (t' : SS) : Prop := ∀ sz : Nat, SB (va_A (SW g b0 t) sz) b0 t → Met l y (WS y b n none) { frames := fr, cells := nc, slots := ns, locals := lo } (va_Pc As (NP D g (SW g b0 t) sz)) (va_Qv (fun (u : Nat → Nat) => u 0 = b0 0) (fun u U => va_P D vwCl (SW g u t') U.heap ∧ SB (va_A (SW g b0 t) sz) u t') (va_A (SW g b0 t) sz)) nc ns (va_A (SW g b0 t) sz)
section VN
variable {p : Program} {l : Launch} {e : Env} {R : Room} {s : State} {m : MethodId} {args : Array Value} {below : List Frame} {meth : Method} {c : Code} {H : Heap} {locs : List Loc} {cells slots : Nat} {Q : State → Prop}
variable {cc : ByteArray} {nL pc : Nat} {own : String} {ls : Array Slot} {rest st0 : List Value} {D : va_G} {A A1 : Nat → Prop} {g : ClassId × ClassId × ClassId} {ws wc wc' : va_W} {H0 : Heap}
variable {y : MethodName} {bytes : ByteArray} {maxL n index b : Nat} {ret : Option FieldType} {rm : Room} {C host : String} {As : List Value} {fr nc ns lo : Nat}
theorem v_enter {y : MethodName} {cc : ByteArray} {maxL sz : Nat} {ret : Option FieldType} {rm : Room} {Qc : Array Value → State → Outcome → State → Prop} {mc ms : Nat} {free : Addr → Prop} (own : String) (hy : plainName y.cls = true) (ho : y.cls = own) (hlen : (lg_sl As).length ≤ maxL)
    (body : ∀ p e s m args below meth c, CallFix p m c cc maxL s args AW own → meth.sig.returnType = ret → meth.locks = false → s.heap.size = sz → KG D g s → va_P D vwCl wc s.heap → ∀ ls, lv_has ls maxL (lv_args 0 As) →
      W p l e rm s m args below meth c s.heap [] 0 0 (MQ below Qc args s mc ms free) (F0 m 0 ls [])) : Met l y (WS y cc maxL ret) rm (va_Pc As (NP D g wc sz)) Qc mc ms free := by
  refine Met.ofW (cc := cc) (maxL := maxL) (ret := ret) hy rfl ?_
  intro p e s m args below meth c s₁ B hml hv
  obtain ⟨rfl, hz, hP, hK⟩ := hv
  have hts := atoms_spec (ws := WS y cc maxL ret) B.pre
  have hown : s.vm.findClass own = some m.cls := by rw [← ho]; exact findClass_of_methodNamed B.named
  rw [lg_entry_eq]
  exact body p e s m _ below meth c ⟨B.exec, B.bytes, hml, hown, fun w h => hts w (List.mem_cons_of_mem _ h)⟩ B.returns B.notSynchronized hz hK hP _ (lv_entry As hlen)
theorem y_callr {post : Nat → Heap → Prop} (S : CallFix p m c cc nL s args AW own) (hM : MRr l y bytes maxL ret fr nc ns lo D g wc As post) (h1 : Cond.methodLink own index y ∈ AW) (h2 : Cond.static y ∈ AW) (h4 : Cond.initialized y.cls ∈ AW) (h5 : Cond.code y bytes maxL ret ∈ AW)
    (hd : y.cls = C ∧ y.cls ≠ "java/lang/invoke/MethodHandle" ∧ y.cls ≠ "java/lang/invoke/VarHandle" ∧ (parseMethodDescriptor y.desc).map (fun d => d.parameters.length) = some n) (hR : fr + 1 ≤ R.frames ∧ 8 + (maxL + 11) + lo ≤ R.locals)
    (hK : KG D g s) (hPc : va_P D vwCl wc H) (hn : As.length = n) (hsz : ls.size = nL) (hst : st0 = As.reverse ++ rest) (hr : (rest.map fun v => v.category).sum ≤ 8) (hc : cells + nc ≤ R.cells ∧ slots + ns ≤ R.slots) (hS : va_S A H0 H locs) (hA : ∀ q, H.size ≤ q → A q) (hdg : decode cc pc = .ok (.invokestatic index, 3))
    (kk : ∀ (q : Nat) (H1 : Heap) (locs1 : List Loc), post q H1 → H.size ≤ q → q < H1.size → (∀ x : Nat, x < H.size → H1[x]? = H[x]?) → va_S A H0 H1 locs1 → W p l e R s m args below meth c H1 locs1 (cells + nc) (slots + ns) Q (F0 m (pc + 3) ls (.ref q :: rest))) : W p l e R s m args below meth c H locs cells slots Q (F0 m pc ls st0) :=
  va_callr (va_runS (rest := rest) S (hM H.size) (mkS S.2.2.2.2 h1 h2 h4 h5 hd hR) ⟨NP.blind, fun U hU hW => ⟨rfl, by rw [hU], by rw [hU]; exact hPc, hK.warm hW⟩⟩ rfl hn hsz hst (z_lroom hr) hdg hc) hS (fun q _ h => hA q h) (fun q h => hA q h) (fun u ra t H1 locs1 ht _ _ hB hz hk hS1 => by rw [ht] at hB; exact kk ra H1 locs1 hB.1 hB.2.1 hB.2.2 (fun x hx => hk x hx (Nat.not_le.mpr hx)) hS1)
theorem y_calls {b0 : Nat → Nat} {t t' : SS} {r : Int} (S : CallFix p m c cc nL s args AW own) (hM : MSi l y bytes maxL fr nc ns lo D g b0 t (.ref (b0 0) :: As) t' r) (hB : SB (va_A (SW g b0 t) H.size) b0 t) (h1 : Cond.methodLink own index y ∈ AW) (h2 : Cond.instanceMethod y ∈ AW) (h3 : Cond.selects RX5 y y ∈ AW) (h5 : Cond.code y bytes maxL (some .int) ∈ AW)
    (hd : y.cls = RX5 ∧ y.cls ≠ "java/lang/invoke/MethodHandle" ∧ y.cls ≠ "java/lang/invoke/VarHandle" ∧ (parseMethodDescriptor y.desc).map (fun d => d.parameters.length) = some n) (hR : fr + 1 ≤ R.frames ∧ 8 + (maxL + 11) + lo ≤ R.locals)
    (hK : KG D g s) (hPc : va_P D vwCl (SW g b0 t) H) (hn : As.length = n) (hsz : ls.size = nL) (hst : st0 = As.reverse ++ .ref (b0 0) :: rest) (hr : (rest.map fun v => v.category).sum ≤ 8) (hc : cells + nc ≤ R.cells ∧ slots + ns ≤ R.slots) (hS : va_S A H0 H locs) (hA : ∀ q, va_A (SW g b0 t) H.size q → A q) (hdg : decode cc pc = .ok (.invokevirtual index, 3))
    (kk : ∀ (u : Nat → Nat) (H1 : Heap) (locs1 : List Loc), u 0 = b0 0 → va_P D vwCl (SW g u t') H1 → SB (va_A (SW g b0 t) H.size) u t' → H.size ≤ H1.size → (∀ q : Nat, q < H.size → ¬ va_A (SW g b0 t) H.size q → H1[q]? = H[q]?) → va_S A H0 H1 locs1 → W p l e R s m args below meth c H1 locs1 (cells + nc) (slots + ns) Q (F0 m (pc + 3) ls (.int (zI r) :: rest))) : W p l e R s m args below meth c H locs cells slots Q (F0 m pc ls st0) :=
  va_calli (va_runV (rest := rest) S (hM H.size hB) (mkV S.2.2.2.2 h1 h2 h3 ini_X5 h5 hd hR) ⟨NP.blind, va_recv hK.1 hPc (ci := 5) (q0 := 0) rfl rfl, fun U hU hW => ⟨rfl, by rw [hU], by rw [hU]; exact hPc, hK.warm hW⟩⟩ rfl hn hsz hst (z_lroom hr) hdg hc) hS (fun q _ h => hA q h) (fun q h => hA q h) (fun v u t H1 locs1 ht _ hv hB2 hz hk hS1 => by obtain ⟨rfl, hu⟩ := hv; rw [ht] at hB2; exact kk u H1 locs1 hu hB2.1 hB2.2 hz hk hS1)
theorem y_callsv {b0 : Nat → Nat} {t t' : SS} (S : CallFix p m c cc nL s args AW own) (hM : MSv l y bytes maxL fr nc ns lo D g b0 t (.ref (b0 0) :: As) t') (hB : SB (va_A (SW g b0 t) H.size) b0 t) (h1 : Cond.methodLink own index y ∈ AW) (h2 : Cond.instanceMethod y ∈ AW) (h3 : Cond.selects RX5 y y ∈ AW) (h5 : Cond.code y bytes maxL none ∈ AW)
    (hd : y.cls = RX5 ∧ y.cls ≠ "java/lang/invoke/MethodHandle" ∧ y.cls ≠ "java/lang/invoke/VarHandle" ∧ (parseMethodDescriptor y.desc).map (fun d => d.parameters.length) = some n) (hR : fr + 1 ≤ R.frames ∧ 8 + (maxL + 11) + lo ≤ R.locals)
    (hK : KG D g s) (hPc : va_P D vwCl (SW g b0 t) H) (hn : As.length = n) (hsz : ls.size = nL) (hst : st0 = As.reverse ++ .ref (b0 0) :: rest) (hr : (rest.map fun v => v.category).sum ≤ 8) (hc : cells + nc ≤ R.cells ∧ slots + ns ≤ R.slots) (hS : va_S A H0 H locs) (hA : ∀ q, va_A (SW g b0 t) H.size q → A q) (hdg : decode cc pc = .ok (.invokevirtual index, 3))
    (kk : ∀ (u : Nat → Nat) (H1 : Heap) (locs1 : List Loc), u 0 = b0 0 → va_P D vwCl (SW g u t') H1 → SB (va_A (SW g b0 t) H.size) u t' → H.size ≤ H1.size → (∀ q : Nat, q < H.size → ¬ va_A (SW g b0 t) H.size q → H1[q]? = H[q]?) → va_S A H0 H1 locs1 → W p l e R s m args below meth c H1 locs1 (cells + nc) (slots + ns) Q (F0 m (pc + 3) ls rest)) : W p l e R s m args below meth c H locs cells slots Q (F0 m pc ls st0) :=
  va_callv (va_runV (rest := rest) S (hM H.size hB) (mkV S.2.2.2.2 h1 h2 h3 ini_X5 h5 hd hR) ⟨NP.blind, va_recv hK.1 hPc (ci := 5) (q0 := 0) rfl rfl, fun U hU hW => ⟨rfl, by rw [hU], by rw [hU]; exact hPc, hK.warm hW⟩⟩ rfl hn hsz hst (z_lroom hr) hdg hc) hS (fun q _ h => hA q h) (fun q h => hA q h) (fun u t H1 locs1 ht _ hu hB2 hz hk hS1 => by rw [ht] at hB2; exact kk u H1 locs1 hu hB2.1 hB2.2 hz hk hS1)
end VN
theorem c2_at {x y : Nat × va_E} {L : va_W} {i : Nat} : (x :: y :: L)[2 + i]? = L[i]? := by rw [Nat.add_comm]; rfl
theorem c1_at {x : Nat × va_E} {L : va_W} {i : Nat} : (x :: L)[1 + i]? = L[i]? := by rw [Nat.add_comm]; rfl
set_option maxHeartbeats 4000000 in
set_option maxRecDepth 100000 in
theorem m_X5_more (l : Launch) (D : va_G) (g : ClassId × ClassId × ClassId) (o n w : Nat) (r : Nat → Nat) (F : Int → Int → Int) (hn : n ≤ 60) (hDc : va_D (fun _ => True) ((o, oe g n r) :: rwW g r w F (n + 1))) : MRr l yX5_more cX5_more 4 (some (.array (.array .int))) 0 1 61 0 D g ((o, oe g n r) :: rwW g r w F (n + 1)) [.ref o, .ref (r n)] (fun q H => va_at D vwCl (q, oe g (n + 1) r) H) := by
  intro sz
  refine v_enter RX5 (by decide) rfl (Nat.le_of_ble_eq_true rfl) ?_
  intro p e s m args below meth co S hr hlk hz hK hP ls hl
  have hl : lv_has ls 4 [(0, .ref o), (1, .ref (r n))] := hl
  have hS : va_S (fun q => sz ≤ q) s.heap s.heap [] := va_S.rf
  refine lv_aload_n S.1 S.2.1 dX5_more_0 rfl (lv_at hl 0 rfl) ?_
  refine y_alen S hK hP 0 rfl (v := (n : Int)) rfl dX5_more_1 ?_
  refine z_iconst S dX5_more_2 ?_
  refine z_iadd S dX5_more_3 ?_
  refine y_new2 S cl_X5_13 hK hP hDc hS (fun _ _ => trivial) r (z := (n : Int) + 1) (by omega) (Nat.le_of_ble_eq_true rfl) (by show 0 + ((n : Int) + 1).toNat ≤ 61; omega) dX5_more_4 (fun q H hq hk0 hP hD hS => ?_)
  rw [show ((n : Int) + 1).toNat = n + 1 by omega] at hP hD
  have hqz : sz ≤ q := by omega
  refine W.widen (k := 1) (n := 61) (by omega) (by omega) ?_
  refine lv_astore_n (lv' := [(2, .ref q), (0, .ref o), (1, .ref (r n))]) S.1 S.2.1 dX5_more_7 rfl hl (by decide) rfl (fun ls hl => ?_)
  refine z_iconst S dX5_more_8 ?_
  refine lv_istore_n (lv' := [(3, .int (zI 0)), (2, .ref q), (0, .ref o), (1, .ref (r n))]) S.1 S.2.1 dX5_more_9 rfl hl (by decide) rfl (fun ls hl => ?_)
  refine z_forW (D := D) (nL := 4) (A := fun q => sz ≤ q) (H0 := s.heap) n (fun (k : Nat) => [(3, .int (zI (k : Int))), (2, .ref q), (0, .ref o), (1, .ref (r n))]) (fun (k : Nat) => (q, .inl (g.2.2, n + 1, .inr (.inr (.inr (.inr (rfs k r)))))) :: (o, oe g n r) :: rwW g r w F (n + 1)) (fun _ => True) (fun k hk hJ H locs hP hS ls hl ih => ?_) (fun hJ H locs hP hS ls hl => ?_) 0 (by omega) trivial _ _ hP hS ls (lv_sub hl [0, 1, 2, 3] rfl)
  · have hl : lv_has ls 4 [(3, .int (zI (k : Int))), (2, .ref q), (0, .ref o), (1, .ref (r n))] := hl
    refine lv_iload_n S.1 S.2.1 dX5_more_10 rfl (lv_at hl 0 rfl) ?_
    refine lv_aload_n S.1 S.2.1 dX5_more_11 rfl (lv_at hl 2 rfl) ?_
    refine y_alen S hK hP 1 rfl (v := (n : Int)) rfl dX5_more_12 ?_
    refine z_icmp_ge (tgt := 28) S dX5_more_13 (by decide) (by omega) (fun h => absurd h (by omega)) (fun h => ?_)
    refine lv_aload_n S.1 S.2.1 dX5_more_16 rfl (lv_at hl 1 rfl) ?_
    refine lv_iload_n S.1 S.2.1 dX5_more_17 rfl (lv_at hl 0 rfl) ?_
    refine lv_aload_n S.1 S.2.1 dX5_more_18 rfl (lv_at hl 2 rfl) ?_
    refine lv_iload_n S.1 S.2.1 dX5_more_19 rfl (lv_at hl 0 rfl) ?_
    refine y_ald2 S hK hP 1 rfl (Nat.le_refl _) (by omega) (by omega) dX5_more_20 ?_
    refine y_ast2 S hK hP (va_D_fst hD rfl) hqz hS 0 (2 + k) rfl (c2_at.trans (rwW_at (by omega))) rfl rfl (by omega) (by omega) dX5_more_21 (fun H locs hP hS => ?_)
    refine z_iinc (lv' := [(3, .int (zI ((k : Int) + 1))), (2, .ref q), (0, .ref o), (1, .ref (r n))]) S dX5_more_22 hl (k := 0) rfl (by decide) rfl (fun ls hl => ?_)
    refine z_goto (tgt := 10) S dX5_more_25 (by decide) ?_
    exact ih _ _ hP hS _ (lv_sub hl [0, 1, 2, 3] rfl) trivial
  · have hl : lv_has ls 4 [(3, .int (zI (n : Int))), (2, .ref q), (0, .ref o), (1, .ref (r n))] := hl
    refine lv_iload_n S.1 S.2.1 dX5_more_10 rfl (lv_at hl 0 rfl) ?_
    refine lv_aload_n S.1 S.2.1 dX5_more_11 rfl (lv_at hl 2 rfl) ?_
    refine y_alen S hK hP 1 rfl (v := (n : Int)) rfl dX5_more_12 ?_
    refine z_icmp_ge (tgt := 28) S dX5_more_13 (by decide) (by omega) (fun h => ?_) (fun h => absurd h (by omega))
    refine lv_aload_n S.1 S.2.1 dX5_more_28 rfl (lv_at hl 1 rfl) ?_
    refine lv_aload_n S.1 S.2.1 dX5_more_29 rfl (lv_at hl 2 rfl) ?_
    refine y_alen S hK hP 1 rfl (v := (n : Int)) rfl dX5_more_30 ?_
    refine lv_aload_n S.1 S.2.1 dX5_more_31 rfl (lv_at hl 3 rfl) ?_
    refine y_ast2 S hK hP (va_D_fst hD rfl) hqz hS 0 (2 + n) rfl (c2_at.trans (rwW_at (by omega))) rfl rfl (by omega) (by omega) dX5_more_32 (fun H locs hP hS => ?_)
    refine lv_aload_n S.1 S.2.1 dX5_more_33 rfl (lv_at hl 1 rfl) ?_
    exact y_aret S hr (Or.inr ⟨_, rfl⟩) hlk () q trivial (fun t ht => by rw [ht]; exact ⟨hP 0 _ rfl, hqz, (hP 0 _ rfl).lt⟩) hS hS.2.2 dX5_more_34
set_option maxHeartbeats 4000000 in
set_option maxRecDepth 100000 in
theorem m_X5_without (l : Launch) (D : va_G) (g : ClassId × ClassId × ClassId) (o n w : Nat) (r : Nat → Nat) (F : Int → Int → Int) (j : Int) (hj : 0 ≤ j ∧ j < (n : Int)) (hn : n ≤ 60) (hDc : va_D (fun _ => True) ((o, oe g n r) :: rwW g r w F n)) : MRr l yX5_without cX5_without 4 (some (.array (.array .int))) 0 1 61 0 D g ((o, oe g n r) :: rwW g r w F n) [.ref o, .int (zI j)] (fun q H => va_at D vwCl (q, oe g (n - 1) (fun i => if i < j.toNat then r i else r (i + 1))) H) := by
  intro sz
  refine v_enter RX5 (by decide) rfl (Nat.le_of_ble_eq_true rfl) ?_
  intro p e s m args below meth co S hr hlk hz hK hP ls hl
  have hl : lv_has ls 4 [(0, .ref o), (1, .int (zI j))] := hl
  have hS : va_S (fun q => sz ≤ q) s.heap s.heap [] := va_S.rf
  refine lv_aload_n S.1 S.2.1 dX5_without_0 rfl (lv_at hl 0 rfl) ?_
  refine y_alen S hK hP 0 rfl (v := (n : Int)) rfl dX5_without_1 ?_
  refine z_iconst S dX5_without_2 ?_
  refine z_isub S dX5_without_3 ?_
  refine y_new2 S cl_X5_13 hK hP hDc hS (fun _ _ => trivial) (fun i => if i < j.toNat then r i else r (i + 1)) (z := (n : Int) - 1) (by omega) (Nat.le_of_ble_eq_true rfl) (by show 0 + ((n : Int) - 1).toNat ≤ 61; omega) dX5_without_4 (fun q H hq hk0 hP hD hS => ?_)
  rw [show ((n : Int) - 1).toNat = n - 1 by omega] at hP hD
  have hqz : sz ≤ q := by omega
  refine W.widen (k := 1) (n := 61) (by omega) (by omega) ?_
  refine lv_astore_n (lv' := [(2, .ref q), (0, .ref o), (1, .int (zI j))]) S.1 S.2.1 dX5_without_7 rfl hl (by decide) rfl (fun ls hl => ?_)
  refine z_iconst S dX5_without_8 ?_
  refine lv_istore_n (lv' := [(3, .int (zI 0)), (2, .ref q), (0, .ref o), (1, .int (zI j))]) S.1 S.2.1 dX5_without_9 rfl hl (by decide) rfl (fun ls hl => ?_)
  refine z_forW (D := D) (nL := 4) (A := fun q => sz ≤ q) (H0 := s.heap) (n - 1) (fun (k : Nat) => [(3, .int (zI (k : Int))), (2, .ref q), (0, .ref o), (1, .int (zI j))]) (fun (k : Nat) => (q, .inl (g.2.2, n - 1, .inr (.inr (.inr (.inr (rfs k (fun i => if i < j.toNat then r i else r (i + 1)))))))) :: (o, oe g n r) :: rwW g r w F n) (fun _ => True) (fun k hk hJ H locs hP hS ls hl ih => ?_) (fun hJ H locs hP hS ls hl => ?_) 0 (by omega) trivial _ _ hP hS ls (lv_sub hl [0, 1, 2, 3] rfl)
  · have hl : lv_has ls 4 [(3, .int (zI (k : Int))), (2, .ref q), (0, .ref o), (1, .int (zI j))] := hl
    refine lv_iload_n S.1 S.2.1 dX5_without_10 rfl (lv_at hl 0 rfl) ?_
    refine lv_aload_n S.1 S.2.1 dX5_without_11 rfl (lv_at hl 1 rfl) ?_
    refine y_alen S hK hP 0 rfl (v := ((n - 1 : Nat) : Int)) rfl dX5_without_12 ?_
    refine z_icmp_ge (tgt := 39) S dX5_without_13 (by decide) (by omega) (fun h => absurd h (by omega)) (fun h => ?_)
    refine lv_aload_n S.1 S.2.1 dX5_without_16 rfl (lv_at hl 1 rfl) ?_
    refine lv_iload_n S.1 S.2.1 dX5_without_17 rfl (lv_at hl 0 rfl) ?_
    refine lv_aload_n S.1 S.2.1 dX5_without_18 rfl (lv_at hl 2 rfl) ?_
    refine lv_iload_n S.1 S.2.1 dX5_without_19 rfl (lv_at hl 0 rfl) ?_
    refine lv_iload_n S.1 S.2.1 dX5_without_20 rfl (lv_at hl 3 rfl) ?_
    refine z_icmp_ge (tgt := 28) S dX5_without_21 (by decide) (by omega) (fun h2 => ?_) (fun h2 => ?_)
    · refine lv_iload_n S.1 S.2.1 dX5_without_28 rfl (lv_at hl 0 rfl) ?_
      refine z_iconst S dX5_without_29 ?_
      refine z_iadd S dX5_without_30 ?_
      refine y_ald2 S hK hP 1 rfl (Nat.le_refl _) (by omega) (by omega) dX5_without_31 ?_
      refine y_ast2 S hK hP (va_D_fst hD rfl) hqz hS 0 (2 + (k + 1)) rfl (c2_at.trans ((rwW_at (by omega)).trans rfl)) (by show _ = if k < j.toNat then r k else r (k + 1); rw [if_neg (by omega)]) rfl (by omega) (by omega) dX5_without_32 (fun H locs hP hS => ?_)
      refine z_iinc (lv' := [(3, .int (zI ((k : Int) + 1))), (2, .ref q), (0, .ref o), (1, .int (zI j))]) S dX5_without_33 hl (k := 0) rfl (by decide) rfl (fun ls hl => ?_)
      refine z_goto (tgt := 10) S dX5_without_36 (by decide) ?_
      exact ih _ _ hP hS _ (lv_sub hl [0, 1, 2, 3] rfl) trivial
    · refine lv_iload_n S.1 S.2.1 dX5_without_24 rfl (lv_at hl 0 rfl) ?_
      refine z_goto (tgt := 31) S dX5_without_25 (by decide) ?_
      refine y_ald2 S hK hP 1 rfl (Nat.le_refl _) (by omega) (by omega) dX5_without_31 ?_
      refine y_ast2 S hK hP (va_D_fst hD rfl) hqz hS 0 (2 + k) rfl (c2_at.trans (rwW_at (by omega))) (by show _ = if k < j.toNat then r k else r (k + 1); rw [if_pos (by omega)]) rfl (by omega) (by omega) dX5_without_32 (fun H locs hP hS => ?_)
      refine z_iinc (lv' := [(3, .int (zI ((k : Int) + 1))), (2, .ref q), (0, .ref o), (1, .int (zI j))]) S dX5_without_33 hl (k := 0) rfl (by decide) rfl (fun ls hl => ?_)
      refine z_goto (tgt := 10) S dX5_without_36 (by decide) ?_
      exact ih _ _ hP hS _ (lv_sub hl [0, 1, 2, 3] rfl) trivial
  · have hl : lv_has ls 4 [(3, .int (zI ((n - 1 : Nat) : Int))), (2, .ref q), (0, .ref o), (1, .int (zI j))] := hl
    refine lv_iload_n S.1 S.2.1 dX5_without_10 rfl (lv_at hl 0 rfl) ?_
    refine lv_aload_n S.1 S.2.1 dX5_without_11 rfl (lv_at hl 1 rfl) ?_
    refine y_alen S hK hP 0 rfl (v := ((n - 1 : Nat) : Int)) rfl dX5_without_12 ?_
    refine z_icmp_ge (tgt := 39) S dX5_without_13 (by decide) (by omega) (fun h => ?_) (fun h => absurd h (by omega))
    refine lv_aload_n S.1 S.2.1 dX5_without_39 rfl (lv_at hl 1 rfl) ?_
    exact y_aret S hr (Or.inr ⟨_, rfl⟩) hlk () q trivial (fun t ht => by rw [ht]; exact ⟨hP 0 _ rfl, hqz, (hP 0 _ rfl).lt⟩) hS hS.2.2 dX5_without_40
