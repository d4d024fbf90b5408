/-! THE JOINT WORLD: local arrays, the class's world, the law's own field's; calls over it; a new field of the law's -/
theorem CW_adr {g : ClassId × ClassId × ClassId} {a : Nat → Nat} {q : Nat} (c : CS) (h : CA 21 a q) : ∃ x, x ∈ CW g a c ∧ x.1 = q := by
  obtain ⟨k, hk, rfl⟩ := h
  have e : (CW g a c).map Prod.fst = (List.range 21).map a := rfl
  have h1 : a k ∈ (CW g a c).map Prod.fst := by rw [e]; exact List.mem_map.mpr ⟨k, List.mem_range.mpr hk, rfl⟩
  obtain ⟨x, hx, hx2⟩ := List.mem_map.mp h1
  exact ⟨x, hx, hx2⟩
theorem CW_CA {g : ClassId × ClassId × ClassId} {a : Nat → Nat} {c : CS} {x : Nat × va_E} (h : x ∈ CW g a c) : CA 21 a x.1 := by
  have e : (CW g a c).map Prod.fst = (List.range 21).map a := rfl
  have h1 : x.1 ∈ (CW g a c).map Prod.fst := List.mem_map.mpr ⟨x, h, rfl⟩
  rw [e] at h1
  obtain ⟨k, hk, hk2⟩ := List.mem_map.mp h1
  exact ⟨k, List.mem_range.mp hk, hk2.symm⟩
theorem fr_c {D : va_G} {A : Nat → Prop} {g : ClassId × ClassId × ClassId} {a b : Nat → Nat} {c0 c1 : CS} {t : SS} {X : va_W} {H H1 : Heap} (hP : va_P D vwCl (X ++ (CW g a c0 ++ SW g b t)) H) (hD : va_D A (X ++ (CW g a c0 ++ SW g b t))) (hP1 : va_P D vwCl (CW g a c1) H1) (hk : ∀ q : Nat, q < H.size → ¬ CA 21 a q → H1[q]? = H[q]?) : va_P D vwCl (X ++ (CW g a c1 ++ SW g b t)) H1 ∧ va_D A (X ++ (CW g a c1 ++ SW g b t)) := by
  have hX := va_P_l hP
  have hS := va_P_r (va_P_r hP)
  refine ⟨va_P.app (hX.kept (fun k x hx => ?_)) (va_P.app hP1 (hS.kept (fun k x hx => ?_))), va_D_fst hD (by rw [List.map_append, List.map_append, List.map_append, List.map_append]; rfl)⟩
  · refine hk x.1 ((hX k x hx).lt) (fun z => ?_)
    obtain ⟨y, hy, e⟩ := CW_adr (g := g) c0 z
    exact va_D_ap hD (List.mem_of_getElem? hx) (List.mem_append_left _ hy) e.symm
  · refine hk x.1 ((hS k x hx).lt) (fun z => ?_)
    obtain ⟨y, hy, e⟩ := CW_adr (g := g) c0 z
    exact va_D_ap (va_D_r hD) hy (List.mem_of_getElem? hx) e
theorem fr_s {D : va_G} {A : Nat → Prop} {g : ClassId × ClassId × ClassId} {b u : Nat → Nat} {t t' : SS} {X PRE : va_W} {H H1 : Heap} (hP : va_P D vwCl (X ++ (PRE ++ SW g b t)) H) (hD : va_D A (X ++ (PRE ++ SW g b t))) (hP1 : va_P D vwCl (SW g u t') H1) (hB1 : SB (va_A (SW g b t) H.size) u t') (hk : ∀ q : Nat, q < H.size → ¬ va_A (SW g b t) H.size q → H1[q]? = H[q]?) (hA : ∀ q, va_A (SW g b t) H.size q → A q) : va_P D vwCl (X ++ (PRE ++ SW g u t')) H1 ∧ va_D A (X ++ (PRE ++ SW g u t')) ∧ SB A u t' := by
  have hX := va_P_l hP
  have hR := va_P_l (va_P_r hP)
  have hDr := va_D_r hD
  have ne : ∀ x : Nat × va_E, x.1 < H.size → (∀ y ∈ SW g b t, x.1 ≠ y.1) → ¬ va_A (SW g b t) H.size x.1 := fun x h1 h2 z => by
    rcases z with ⟨k, e, hk⟩ | z
    · exact h2 _ (List.mem_of_getElem? hk) rfl
    · omega
  have nX : ∀ x ∈ X, ¬ va_A (SW g b t) H.size x.1 := fun x hx => ne x ((va_P_mem hX hx).lt) (fun y hy => va_D_ap hD hx (List.mem_append_right _ hy))
  have nR : ∀ x ∈ PRE, ¬ va_A (SW g b t) H.size x.1 := fun x hx => ne x ((va_P_mem hR hx).lt) (fun y hy => va_D_ap hDr hx hy)
  have cross : ∀ x : Nat × va_E, ¬ va_A (SW g b t) H.size x.1 → ∀ y ∈ SW g u t', x.1 ≠ y.1 := fun x hx y hy e => by
    obtain ⟨j, hj, e2⟩ := SW_SV hy
    exact hx (by rw [e, e2]; exact hB1.2 j hj)
  refine ⟨va_P.app (hX.kept (fun k x hx => hk x.1 ((hX k x hx).lt) (nX x (List.mem_of_getElem? hx)))) (va_P.app (hR.kept (fun k x hx => hk x.1 ((hR k x hx).lt) (nR x (List.mem_of_getElem? hx)))) hP1), ?_, hB1.imp hA⟩
  refine va_D_of (va_D_l hD) (va_D_of (va_D_l hDr) ((hB1.imp hA).D g) (fun x hx y hy => cross x (nR x hx) y hy)) (fun x hx y hy => ?_)
  rcases List.mem_append.mp hy with h | h
  · exact va_D_ap hD hx (List.mem_append_left _ h)
  · exact cross x (nX x hx) y h
theorem SB_self {A : Nat → Prop} {g : ClassId × ClassId × ClassId} {b : Nat → Nat} {t : SS} (h : SB A b t) (sz : Nat) : SB (va_A (SW g b t) sz) b t := ⟨h.1, fun j hj => by
  obtain ⟨x, hx, e⟩ := SV_SW g b hj
  obtain ⟨k, hk⟩ := List.getElem?_of_mem hx
  exact Or.inl ⟨k, x.2, by rw [← e]; exact hk⟩⟩
theorem SB_A {A : Nat → Prop} {g : ClassId × ClassId × ClassId} {b : Nat → Nat} {t : SS} {sz : Nat} (h : SB A b t) (hA : ∀ q, sz ≤ q → A q) : ∀ q, va_A (SW g b t) sz q → A q := fun q hq => by
  rcases hq with ⟨k, e, hk⟩ | hq
  · obtain ⟨j, hj, e2⟩ := SW_SV (List.mem_of_getElem? hk)
    have e2 : q = b j := e2
    rw [e2]; exact h.2 j hj
  · exact hA q hq
theorem sDig_cnt (t : SS) (q by9 : Int) : sn t 0 = sn (sDig t q by9) 0 ∧ sn t 1 = sn (sDig t q by9) 1 ∧ sn t 2 = sn (sDig t q by9) 2 ∧ sn t 3 = sn (sDig t q by9) 3 := by
  unfold sDig
  split
  · exact sPay_cnt (sDk t q by9.toNat) q _ _
  · exact ⟨rfl, rfl, rfl, rfl⟩
section LJ
variable {p : Program} {l : Launch} {e : Env} {R : Room} {s : State} {m : MethodId} {args : Array Value} {below : List Frame} {meth : Method} {c : Code} {H : Heap} {locs : List Loc} {cells slots : Nat} {Q : State → Prop}
variable {cc : ByteArray} {nL pc : Nat} {own : String} {ls : Array Slot} {rest st0 : List Value} {D : va_G} {A : Nat → Prop} {g : ClassId × ClassId × ClassId} {a b : Nat → Nat} {c0 c1 : CS} {t t' : SS} {X PRE : va_W}
variable {y : MethodName} {bytes : ByteArray} {maxL n index : Nat} {As : List Value} {fr nc ns lo : Nat} {r : Int} {ok : Prop} {ex : String → Prop} {ret : Option FieldType}
/-- the class's call that writes -/
theorem y_wC (S : CallFix p m c cc nL s args AW own) (hM : WRi l y bytes maxL ret fr lo D g (CA 21 a) (CW g a c0) (.ref (a 0) :: As) (CW g a c1) r) (h1 : Cond.methodLink own index y ∈ AW) (h2 : Cond.instanceMethod y ∈ AW) (h3 : Cond.selects RX4 y y ∈ AW) (h5 : Cond.code y bytes maxL ret ∈ AW)
    (hd : y.cls = RX4 ∧ y.cls ≠ "java/lang/invoke/MethodHandle" ∧ y.cls ≠ "java/lang/invoke/VarHandle" ∧ (parseMethodDescriptor y.desc).map (fun d => d.parameters.length) = some n) (hR : fr + 1 ≤ R.frames ∧ 8 + (maxL + 11) + lo ≤ R.locals)
    (hK : KG D g s) (hP : va_P D vwCl (X ++ (CW g a c0 ++ SW g b t)) H) (hD : va_D A (X ++ (CW g a c0 ++ SW g b t))) (hAc : ∀ q, CA 21 a q → A q) (hS : va_S A s.heap H locs) (hn : As.length = n) (hsz : ls.size = nL) (hst : st0 = As.reverse ++ .ref (a 0) :: rest) (hr : (rest.map fun v => v.category).sum ≤ 8) (hc : cells ≤ R.cells ∧ slots ≤ R.slots) (hdg : decode cc pc = .ok (.invokevirtual index, 3))
    (kk : ∀ (H1 : Heap) (locs1 : List Loc), va_P D vwCl (X ++ (CW g a c1 ++ SW g b t)) H1 → va_D A (X ++ (CW g a c1 ++ SW g b t)) → va_S A s.heap H1 locs1 → W p l e R s m args below meth c H1 locs1 cells slots Q (F0 m (pc + 3) ls (.int (zI r) :: rest))) : W p l e R s m args below meth c H locs cells slots Q (F0 m pc ls st0) := by
  have hPc := va_P_l (va_P_r hP)
  refine z_wV (rest := rest) S hM h1 h2 h3 ini_X4 h5 hd hR hK hPc (va_recv hK.1 hPc (ci := 4) (q0 := 0) rfl rfl) hn hsz hst hr hc hS hAc hdg (fun H1 locs1 hP1 hz hk hS1 => ?_)
  obtain ⟨a1, a2⟩ := fr_c hP hD hP1 hk
  exact kk H1 locs1 a1 a2 hS1
/-- the class's call that may throw -/
theorem y_xC (S : CallFix p m c cc nL s args AW own) (hM : XM l y bytes maxL (some .int) fr lo D g (CA 21 a) (CW g a c0) (.ref (a 0) :: As) (CW g a c1) r ok ex) (h1 : Cond.methodLink own index y ∈ AW) (h2 : Cond.instanceMethod y ∈ AW) (h3 : Cond.selects RX4 y y ∈ AW) (h5 : Cond.code y bytes maxL (some .int) ∈ AW)
    (hd : y.cls = RX4 ∧ y.cls ≠ "java/lang/invoke/MethodHandle" ∧ y.cls ≠ "java/lang/invoke/VarHandle" ∧ (parseMethodDescriptor y.desc).map (fun d => d.parameters.length) = some n) (hR : fr + 1 ≤ R.frames ∧ 8 + (maxL + 11) + lo ≤ R.locals)
    (hX : KX D g s) (hZ : ZQ A s s.heap) (hP : va_P D vwCl (X ++ (CW g a c0 ++ SW g b t)) H) (hD : va_D A (X ++ (CW g a c0 ++ SW g b t))) (hAc : ∀ q, CA 21 a q → A q) (hS : va_S A s.heap H locs) (hn : As.length = n) (hsz : ls.size = nL) (hst : st0 = As.reverse ++ .ref (a 0) :: rest) (hr : (rest.map fun v => v.category).sum ≤ 8) (hc : cells + 1 ≤ R.cells ∧ slots + 6 ≤ R.slots) (hdg : decode cc pc = .ok (.invokevirtual index, 3))
    (kx : ∀ (E : String) (ce : Cell) (q9 : Addr) (H1 : Heap) (locs1 : List Loc), ex E → va_P D vwCl (X ++ (CW g a c0 ++ SW g b t)) H1 → va_S A s.heap H1 locs1 → H1[q9]? = some ce → ce.vm = .none → s.vm.findClass E = some ce.cls → vx_W p l e R s m args below meth c H1 locs1 (cells + 1) (slots + 6) Q (F0 m pc ls rest) q9)
    (kk : ok → ∀ (H1 : Heap) (locs1 : List Loc), va_P D vwCl (X ++ (CW g a c1 ++ SW g b t)) H1 → va_D A (X ++ (CW g a c1 ++ SW g b t)) → va_S A s.heap H1 locs1 → W p l e R s m args below meth c H1 locs1 (cells + 1) (slots + 6) Q (F0 m (pc + 3) ls (.int (zI r) :: rest))) : W p l e R s m args below meth c H locs cells slots Q (F0 m pc ls st0) := by
  have hPc := va_P_l (va_P_r hP)
  have hZH : ZQ (CA 21 a) s H := (hZ.kept (H1 := H) (fun q h1 h2 => hS.2.1 q h1 h2)).narrow hAc
  refine vx_calli (AX := fun _ => False) (vx_runV (rest := rest) S hM (mkV S.2.2.2.2 h1 h2 h3 ini_X4 h5 hd hR) ⟨PX.blind, va_recv hX.1.1 hPc (ci := 4) (q0 := 0) rfl rfl, fun U hU hW => ⟨rfl, by rw [hU]; exact hPc, hX.warm hW, by rw [hU]; exact ZQ.moved hW.alike hZH⟩⟩ rfl hn hsz hst (z_lroom hr) hdg hc) hS (fun q _ h => hAc q h) (fun q h => hAc q h) (fun q _ h => h.elim) (fun E ce q9 u t H1 locs1 ht _ _ hB hz hk hS1 hc1 hc2 hc3 => ?_) (fun v u t H1 locs1 ht _ hv hB hz hk hS1 => ?_)
  · exact kx E ce q9 H1 locs1 hB (hP.kept (fun k q hk9 => hk q.1 ((hP k q hk9).lt) (fun h => h))) hS1 hc1 hc2 hc3
  · obtain ⟨hok, rfl⟩ := hv
    rw [ht] at hB
    obtain ⟨a1, a2⟩ := fr_c hP hD hB hk
    exact kk hok H1 locs1 a1 a2 hS1
/-- a call of the law's own field that makes cells -/
theorem y_sI (S : CallFix p m c cc nL s args AW own) (hM : MSi l y bytes maxL fr nc ns lo D g b t (.ref (b 0) :: As) t' r) (hB : SB A b t) (h1 : Cond.methodLink own index y ∈ AW) (h2 : Cond.instanceMethod y ∈ AW) (h3 : Cond.selects RX5 y y ∈ AW) (h5 : Cond.code y bytes maxL (some .int) ∈ AW)
    (hd : y.cls = RX5 ∧ y.cls ≠ "java/lang/invoke/MethodHandle" ∧ y.cls ≠ "java/lang/invoke/VarHandle" ∧ (parseMethodDescriptor y.desc).map (fun d => d.parameters.length) = some n) (hR : fr + 1 ≤ R.frames ∧ 8 + (maxL + 11) + lo ≤ R.locals)
    (hK : KG D g s) (hP : va_P D vwCl (X ++ (PRE ++ SW g b t)) H) (hD : va_D A (X ++ (PRE ++ SW g b t))) (hA : ∀ q, s.heap.size ≤ q → A q) (hS : va_S A s.heap H locs) (hn : As.length = n) (hsz : ls.size = nL) (hst : st0 = As.reverse ++ .ref (b 0) :: rest) (hr : (rest.map fun v => v.category).sum ≤ 8) (hc : cells + nc ≤ R.cells ∧ slots + ns ≤ R.slots) (hdg : decode cc pc = .ok (.invokevirtual index, 3))
    (kk : ∀ (u : Nat → Nat) (H1 : Heap) (locs1 : List Loc), u 0 = b 0 → va_P D vwCl (X ++ (PRE ++ SW g u t')) H1 → va_D A (X ++ (PRE ++ SW g u t')) → SB A u t' → va_S A s.heap H1 locs1 → W p l e R s m args below meth c H1 locs1 (cells + nc) (slots + ns) Q (F0 m (pc + 3) ls (.int (zI r) :: rest))) : W p l e R s m args below meth c H locs cells slots Q (F0 m pc ls st0) := by
  have hA2 := SB_A (g := g) (sz := H.size) hB (fun q h => hA q (Nat.le_trans hS.1 h))
  refine y_calls (rest := rest) S hM (SB_self hB _) h1 h2 h3 h5 hd hR hK (va_P_r (va_P_r hP)) hn hsz hst hr hc hS hA2 hdg (fun u H1 locs1 hu hP1 hB1 hz hk hS1 => ?_)
  obtain ⟨a1, a2, a3⟩ := fr_s hP hD hP1 hB1 hk hA2
  exact kk u H1 locs1 hu a1 a2 a3 hS1
theorem y_sV (S : CallFix p m c cc nL s args AW own) (hM : MSv l y bytes maxL fr nc ns lo D g b t (.ref (b 0) :: As) t') (hB : SB A b t) (h1 : Cond.methodLink own index y ∈ AW) (h2 : Cond.instanceMethod y ∈ AW) (h3 : Cond.selects RX5 y y ∈ AW) (h5 : Cond.code y bytes maxL none ∈ AW)
    (hd : y.cls = RX5 ∧ y.cls ≠ "java/lang/invoke/MethodHandle" ∧ y.cls ≠ "java/lang/invoke/VarHandle" ∧ (parseMethodDescriptor y.desc).map (fun d => d.parameters.length) = some n) (hR : fr + 1 ≤ R.frames ∧ 8 + (maxL + 11) + lo ≤ R.locals)
    (hK : KG D g s) (hP : va_P D vwCl (X ++ (PRE ++ SW g b t)) H) (hD : va_D A (X ++ (PRE ++ SW g b t))) (hA : ∀ q, s.heap.size ≤ q → A q) (hS : va_S A s.heap H locs) (hn : As.length = n) (hsz : ls.size = nL) (hst : st0 = As.reverse ++ .ref (b 0) :: rest) (hr : (rest.map fun v => v.category).sum ≤ 8) (hc : cells + nc ≤ R.cells ∧ slots + ns ≤ R.slots) (hdg : decode cc pc = .ok (.invokevirtual index, 3))
    (kk : ∀ (u : Nat → Nat) (H1 : Heap) (locs1 : List Loc), u 0 = b 0 → va_P D vwCl (X ++ (PRE ++ SW g u t')) H1 → va_D A (X ++ (PRE ++ SW g u t')) → SB A u t' → va_S A s.heap H1 locs1 → W p l e R s m args below meth c H1 locs1 (cells + nc) (slots + ns) Q (F0 m (pc + 3) ls rest)) : W p l e R s m args below meth c H locs cells slots Q (F0 m pc ls st0) := by
  have hA2 := SB_A (g := g) (sz := H.size) hB (fun q h => hA q (Nat.le_trans hS.1 h))
  refine y_callsv (rest := rest) S hM (SB_self hB _) h1 h2 h3 h5 hd hR hK (va_P_r (va_P_r hP)) hn hsz hst hr hc hS hA2 hdg (fun u H1 locs1 hu hP1 hB1 hz hk hS1 => ?_)
  obtain ⟨a1, a2, a3⟩ := fr_s hP hD hP1 hB1 hk hA2
  exact kk u H1 locs1 hu a1 a2 a3 hS1
/-- digging in the law's own field -/
theorem y_sD {q by9 : Int} (S : CallFix p m c cc nL s args AW own) (hT : IT t) (h0 : 0 ≤ q ∧ q < t.1 5) (h9 : 1 ≤ by9 ∧ by9 ≤ 20) (hB : SB A b t) (h1 : Cond.methodLink own index yX5_dig ∈ AW) (hR : 3 + 1 ≤ R.frames ∧ 8 + (7 + 11) + 67 ≤ R.locals)
    (hK : KG D g s) (hP : va_P D vwCl (X ++ (PRE ++ SW g b t)) H) (hD : va_D A (X ++ (PRE ++ SW g b t))) (hA : ∀ q, s.heap.size ≤ q → A q) (hS : va_S A s.heap H locs) (hsz : ls.size = nL) (hr : (rest.map fun v => v.category).sum ≤ 8) (hc : cells ≤ R.cells ∧ slots ≤ R.slots) (hdg : decode cc pc = .ok (.invokevirtual index, 3))
    (kk : ∀ (H1 : Heap) (locs1 : List Loc), va_P D vwCl (X ++ (PRE ++ SW g b (sDig t q by9))) H1 → va_D A (X ++ (PRE ++ SW g b (sDig t q by9))) → SB A b (sDig t q by9) → va_S A s.heap H1 locs1 → W p l e R s m args below meth c H1 locs1 cells slots Q (F0 m (pc + 3) ls (.int (zI (sDg t q by9.toNat)) :: rest))) : W p l e R s m args below meth c H locs cells slots Q (F0 m pc ls (.int (zI by9) :: .int (zI q) :: .ref (b 0) :: rest)) := by
  have hA2 := SB_A (g := g) (sz := H.size) hB (fun q h => hA q (Nat.le_trans hS.1 h))
  have hPs := va_P_r (va_P_r hP)
  refine z_wV (As := [.int (zI q), .int (zI by9)]) (rest := rest) S (m_X5_dig l D g b t hT (SB_self (g := g) hB H.size) q by9 h0 h9) h1 im_X5_dig se_X5_dig ini_X5 cd_X5_dig ds_X5_dig hR hK hPs (va_recv hK.1 hPs (ci := 5) (q0 := 0) rfl rfl) rfl hsz rfl hr hc hS hA2 hdg (fun H1 locs1 hP1 hz hk hS1 => ?_)
  obtain ⟨a1, a2, a3⟩ := fr_s hP hD hP1 ((SB_self (g := g) hB H.size).cnt (sDig_cnt t q by9)) hk hA2
  exact kk H1 locs1 a1 a2 a3 hS1
/-- a row of pegs less: the call and the field -/
theorem y_delrow {j : Int} {ix ip : Nat} (S : CallFix p m c cc nL s args AW own) (hK : KG D g s) (hP : va_P D vwCl (PRE ++ SW g b t) H) (hD : va_D A (PRE ++ SW g b t)) (hB : SB A b t) (hS : va_S A s.heap H locs) (hA : ∀ q, s.heap.size ≤ q → A q) (hj : 0 ≤ j ∧ j < t.1 4) (h60 : t.1 4 ≤ 60)
    (h1 : Cond.methodLink own ix yX5_without ∈ AW) (hlink : Cond.fieldLink own ip (TX5 4).1 (TX5 4).2.1 (TX5 4).2.2.1 ∈ AW) (hR : 0 + 1 ≤ R.frames ∧ 8 + (4 + 11) + 0 ≤ R.locals) (hsz : ls.size = nL) (hr : (rest.map fun v => v.category).sum + 1 ≤ 8) (hc : cells + 1 ≤ R.cells ∧ slots + 61 ≤ R.slots) (d1 : decode cc pc = .ok (.invokestatic ix, 3)) (d2 : decode cc (pc + 3) = .ok (.putfield ip, 3))
    (kk : ∀ (o : Nat) (H1 : Heap) (locs1 : List Loc), va_P D vwCl (PRE ++ SW g (bDel b j.toNat o) (sDel t j)) H1 → va_D A (PRE ++ SW g (bDel b j.toNat o) (sDel t j)) → SB A (bDel b j.toNat o) (sDel t j) → va_S A s.heap H1 locs1 → W p l e R s m args below meth c H1 locs1 (cells + 1) (slots + 61) Q (F0 m (pc + 6) ls rest)) :
    W p l e R s m args below meth c H locs cells slots Q (F0 m pc ls (.int (zI j) :: .ref (b 3) :: .ref (b 0) :: rest)) := by
  have hPs := va_P_r hP
  have hDs := va_D_r hD
  have hAH : ∀ x, H.size ≤ x → A x := fun q h => hA q (Nat.le_trans hS.1 h)
  have hn : ((sn t 2 : Nat) : Int) = t.1 4 := by show (((t.1 4).toNat : Nat) : Int) = t.1 4; omega
  have hpre : va_P D vwCl ((b 3, oe g (sn t 2) (rd b 2)) :: rwW g (rd b 2) 3 (t.2 2) (sn t 2)) H := va_P_cons (va_P_mem hPs (SW_mem.mpr (Or.inr (Or.inl ⟨2, by omega, rfl⟩)))) (va_P_of (fun x hx => by
    obtain ⟨i, hi, rfl⟩ := rwW_mem.mp hx
    exact va_P_mem hPs (SW_mem.mpr (Or.inr (Or.inr ⟨2, by omega, i, hi, rfl⟩)))))
  have hpD : va_D (fun _ => True) ((b 3, oe g (sn t 2) (rd b 2)) :: rwW g (rd b 2) 3 (t.2 2) (sn t 2)) := by
    refine va_D_cons ⟨fun i j x y hi hj e2 => ?_, fun _ _ _ => trivial⟩ (fun i x hi => ?_) trivial
    · have hi0 := (List.getElem?_eq_some_iff.mp hi).1
      have hj0 := (List.getElem?_eq_some_iff.mp hj).1
      rw [rwW_len] at hi0 hj0
      rw [rwW_at hi0] at hi
      rw [rwW_at hj0] at hj
      cases hi
      cases hj
      have := hB.1 _ _ (SV_row (by omega) hi0) (SV_row (by omega) hj0) e2
      omega
    · have hi0 := (List.getElem?_eq_some_iff.mp hi).1
      rw [rwW_len] at hi0
      rw [rwW_at hi0] at hi
      cases hi
      intro e2
      have := hB.1 _ _ (SV_row (by omega) hi0) (SV_lo (show 3 < 5 by omega)) e2
      omega
  refine y_callr (As := [.ref (b 3), .int (zI j)]) (rest := .ref (b 0) :: rest) (n := 2) S (m_X5_without l D g (b 3) (sn t 2) 3 (rd b 2) (t.2 2) j (by rw [hn]; exact hj) (by show (t.1 4).toNat ≤ 60; omega) hpD) h1 sm_X5_without ini_X5 cd_X5_without ds_X5_without hR hK hpre rfl hsz rfl (by show (Value.ref (b 0)).category + (rest.map fun v => v.category).sum ≤ 8; show 1 + _ ≤ 8; omega) hc hS hAH d1 (fun o H1 locs1 ho ho1 ho2 hkp hS1 => ?_)
  have kept : ∀ {ws : va_W}, va_P D vwCl ws H → va_P D vwCl ws H1 := fun {ws} h => h.kept (fun i x hx => hkp x.1 ((h i x hx).lt))
  have e0 : sn t 2 - 1 = sn (sDel t j) 2 := by
    have := sDel_sn (t := t) (j := j) (by omega)
    omega
  rw [e0] at ho
  have hP1 : va_P D vwCl ((o, oe g (sn (sDel t j) 2) (fun i => if i < j.toNat then rd b 2 i else rd b 2 (i + 1))) :: (PRE ++ SW g b t)) H1 := va_P_cons ho (kept hP)
  have hD1 : va_D A ((o, oe g (sn (sDel t j) 2) (fun i => if i < j.toNat then rd b 2 i else rd b 2 (i + 1))) :: (PRE ++ SW g b t)) := va_D_cons hD (fun i x hx => by
    have := (hP i x hx).lt
    show x.1 ≠ o
    omega) (hAH o ho1)
  have hpos : ((o, oe g (sn (sDel t j) 2) (fun i => if i < j.toNat then rd b 2 i else rd b 2 (i + 1))) :: (PRE ++ SW g b t))[1 + (PRE.length + 0)]? = some (SO b t) := c1_at.trans (show (PRE ++ SW g b t)[PRE.length + 0]? = some (SO b t) from (ap_at1 rfl).trans rfl)
  have hof : ∀ j, SV t j → o ≠ b j := fun j hj => by
    obtain ⟨x, hx, e⟩ := SV_SW g b hj
    rw [← e]
    exact va_D_ne hD1 (List.mem_append_right _ hx)
  refine y_putr S hK hP1 hD1 hS1 (1 + (PRE.length + 0)) hpos 4 (by omega) hlink (TX5_rf 2 (by omega)).1 (TX5_rf 2 (by omega)).2 (by show 4 < 6; omega) d2 (fun H2 locs2 hP2 hD2 hS2 => ?_)
  have hBn : SB A (bDel b j.toNat o) (sDel t j) := SB_del hj hB hof (hAH o ho1)
  have mem2 : ∀ x : Nat × va_E, x ∈ ((o, oe g (sn (sDel t j) 2) (fun i => if i < j.toNat then rd b 2 i else rd b 2 (i + 1))) :: (PRE ++ SW g b t)) → x.1 ≠ b 0 → va_at D vwCl x H2 := fun x hx hne => by
    obtain ⟨i, hi⟩ := List.getElem?_of_mem hx
    refine hP2 i x ?_
    rw [List.getElem?_set_ne (fun z => ?_)]
    · exact hi
    · rw [← z, hpos] at hi
      exact hne (by rw [← Option.some.inj hi])
  have hObj : va_at D vwCl (b 0, .inr (5, [Value.int (zI (t.1 0)), .int (zI (t.1 1)), .ref (b 1), .ref (b 2), .ref (b 3), .ref (b 4)].set 4 (.ref o))) H2 := by
    refine hP2 (1 + (PRE.length + 0)) _ ?_
    rw [List.getElem?_set_self (List.getElem?_eq_some_iff.mp hpos).1]
  have hPn : va_P D vwCl (SW g (bDel b j.toNat o) (sDel t j)) H2 := by
    refine SW_del hj (fun x hx hne => mem2 x (List.mem_cons_of_mem _ (List.mem_append_right _ hx)) hne) (fun j hj hj0 e => hj0 (hB.1 _ _ hj (SV_lo (by omega)) e)) ?_ (mem2 _ List.mem_cons_self (hof 0 (SV_lo (by omega))))
    unfold SO
    rw [bDel_lo (x := 0) (by omega) (by omega), bDel_lo (x := 1) (by omega) (by omega), bDel_lo (x := 2) (by omega) (by omega), bDel_lo (x := 4) (by omega) (by omega), show bDel b j.toNat o 3 = o from if_pos rfl]
    exact hObj
  have hdis : ∀ x ∈ PRE, ∀ y ∈ SW g (bDel b j.toNat o) (sDel t j), x.1 ≠ y.1 := fun x hx y hy => by
    obtain ⟨i, hi, e⟩ := SW_SV hy
    rw [e]
    have hxo : o ≠ x.1 := va_D_ne hD1 (List.mem_append_left _ hx)
    have old : ∀ i, SV t i → x.1 ≠ b i := fun i hi => by
      obtain ⟨y2, hy2, e2⟩ := SV_SW g b hi
      rw [← e2]
      exact va_D_ap hD hx hy2
    rcases hi with hi | ⟨k, hk, i', hi', e3⟩
    · by_cases z : i = 3
      · rw [z, show bDel b j.toNat o 3 = o from if_pos rfl]; exact fun z => hxo z.symm
      · rw [bDel_lo hi z]; exact old i (SV_lo hi)
    · rw [e3]
      by_cases z : k = 2
      · subst z
        have := sDel_sn (t := t) (j := j) (by omega)
        show x.1 ≠ rd (bDel b j.toNat o) 2 i'
        rw [bDel_r]
        split
        · exact old _ (SV_row hk (by omega))
        · exact old _ (SV_row hk (by omega))
      · rw [sDel_sn' hk z] at hi'
        show x.1 ≠ rd (bDel b j.toNat o) k i'
        rw [bDel_r' hk z]
        exact old _ (SV_row hk hi')
  refine kk o H2 locs2 (va_P.app (va_P_of (fun x hx => mem2 x (List.mem_cons_of_mem _ (List.mem_append_left _ hx)) (fun z => ?_))) hPn) (va_D_of (va_D_l hD) (hBn.D g) hdis) hBn hS2
  obtain ⟨y2, hy2, e2⟩ := SV_SW g b (SV_lo (t := t) (show 0 < 5 by omega))
  exact va_D_ap hD hx hy2 (z.trans e2.symm)
/-- new int[N][K] -/
theorem y_mna {ws : va_W} {N K : Int} (S : CallFix p m c cc nL s args AW own) (hcl : Cond.classLink own index "[[I" ∈ AW) (hK : KG D g s) (hP : va_P D vwCl ws H) (hD : va_D A ws) (hS : va_S A s.heap H locs) (hA : ∀ q, s.heap.size ≤ q → A q) (hN : 0 ≤ N ∧ N ≤ 100) (hKK : 0 ≤ K ∧ K ≤ 100) (hcells : cells + (1 + N.toNat) ≤ R.cells) (hslots : slots + (N.toNat + N.toNat * K.toNat) ≤ R.slots) (hdg : decode cc pc = .ok (.multianewarray index 2, 4))
    (kk : ∀ (q : Nat) (r0 : Nat → Nat) (H1 : Heap), va_P D vwCl (([(q, .inl (g.2.2, N.toNat, .inr (.inr (.inr (.inr (rfs N.toNat r0))))))] ++ rwW g r0 K.toNat (fun _ _ => 0) N.toNat) ++ ws) H1 → va_D A (([(q, .inl (g.2.2, N.toNat, .inr (.inr (.inr (.inr (rfs N.toNat r0))))))] ++ rwW g r0 K.toNat (fun _ _ => 0) N.toNat) ++ ws) → va_S A s.heap H1 locs → W p l e R s m args below meth c H1 locs (cells + 1 + N.toNat) (slots + N.toNat + N.toNat * K.toNat) Q (F0 m (pc + 4) ls (.ref q :: rest))) : W p l e R s m args below meth c H locs cells slots Q (F0 m pc ls (.int (zI K) :: .int (zI N) :: rest)) := by
  have hcN := zI_clamp (z := N) (by omega)
  have hcK := zI_clamp (z := K) (by omega)
  refine va_mna (X := ws) (L := []) (f := fun _ => .inl (g.1, 0, .inl (fun _ => 0))) (ty := .int) (cy := g.1) (z := (K.toNat, .inl (zA (fun _ => 0)))) (N' := N.toNat) (K' := K.toNat) S.1 S.2.1 S.2.2.2.1 (S.2.2.2.2 _ hcl) hK.2.2 (S.2.2.2.2 _ ac_int) (hK.1.2 0 _ rfl).2 hK.1 (by show va_P D vwCl (ws ++ []) H; rw [List.append_nil]; exact hP) (by show va_D A (ws ++ []); rw [List.append_nil]; exact hD) hS hA (zI_nneg (by omega)) (zI_nneg (by omega)) (by omega) (by omega) (by omega) (by show K.toNat * 4 ≤ _; omega) (by omega) rfl rfl hcells hslots (fun c => by show ({ cls := c, slots := Array.replicate K.toNat (defaultValue .int), vm := .none } : Cell) = _; rw [arrV_new]; rfl) hdg (fun q r0 cA H1 hr1 hr2 hKA hP1 hD1 hS1 => ?_)
  have hcA : cA = g.2.2 := Option.some.inj ((hKA.2 3 _ rfl).2.symm.trans (hK.1.2 2 _ rfl).2)
  subst hcA
  have e1 : va_pl ([] ++ (List.range N.toNat).map r0) (vr_up (fun _ => (.inl (g.1, 0, .inl (fun _ => 0)) : va_E)) ((List.range N.toNat).map r0) (.inl (g.1, K.toNat, .inl (zA (fun _ => 0))))) = rwW g r0 K.toNat (fun _ _ => 0) N.toNat := by
    unfold va_pl rwW
    rw [List.nil_append, List.map_map]
    apply List.map_congr_left
    intro i hi
    show (r0 i, vr_up _ _ _ (r0 i)) = _
    rw [vr_up_in (List.mem_map.mpr ⟨i, hi, rfl⟩)]
  rw [e1] at hP1 hD1
  refine kk q r0 H1 (va_P_of (fun x hx => va_P_mem hP1 ?_)) ?_ hS1
  · rcases List.mem_append.mp hx with h | h
    · rcases List.mem_append.mp h with h | h
      · exact List.mem_append_left _ (List.mem_append_right _ h)
      · exact List.mem_append_right _ h
    · exact List.mem_append_left _ (List.mem_append_left _ h)
  · refine va_D_of (va_D_of (va_D_r (va_D_l hD1)) (va_D_r hD1) (fun x hx y hy => va_D_ap hD1 (List.mem_append_right _ hx) hy)) (va_D_l (va_D_l hD1)) (fun x hx y hy => ?_)
    rcases List.mem_append.mp hx with h | h
    · exact fun z => va_D_ap (va_D_l hD1) hy h z.symm
    · exact fun z => va_D_ap hD1 (List.mem_append_left _ hy) h z.symm
end LJ
/-- a field without anything -/
def s00 : SS := (fun k => bif Nat.beq k 0 then 3 else 0, fun _ _ _ => 0)
set_option maxHeartbeats 4000000 in
set_option maxRecDepth 100000 in
theorem n_X5 (l : Launch) (D : va_G) (g : ClassId × ClassId × ClassId) (h0 : Nat) : NWm l yX5_init cX5_init 1 1 4 0 12 D g h0 (.inr (5, [.int (zI 0), .int (zI 0), .null, .null, .null, .null])) (fun b => SW g b s00) (fun b => b 0 = h0) := by
  refine n_enter RX5 (by decide) rfl rfl (Nat.le_of_ble_eq_true rfl) ?_
  intro p e s m args below meth co A hAe hA hD S hr hlk hin hK hP ls hl
  have hl : lv_has ls 1 [(0, .ref h0)] := hl
  have hS : va_S A s.heap s.heap [] := va_S.rf
  refine lv_aload_n S.1 S.2.1 dX5_init_0 rfl (lv_at hl 0 rfl) ?_
  refine W.objInit S.1 S.2.1 S.2.2.2.1 (S.2.2.2.2 _ ml_X5_1) (S.2.2.2.2 _ im_objInit) (S.2.2.2.2 _ cd_objInit) rfl (by rw [S.2.2.1]; exact hl.1) rfl dX5_init_1 (Nat.le_of_ble_eq_true rfl) (Nat.le_of_ble_eq_true rfl) ?_
  refine W.eq (g2 := F0 m 4 ls []) rfl ?_
  refine lv_aload_n S.1 S.2.1 dX5_init_4 rfl (lv_at hl 0 rfl) ?_
  refine z_iconst S dX5_init_5 ?_
  refine y_puti S hK hP hD hS 0 rfl 0 (by decide) fl_X5_7 rfl (by decide +kernel) (Nat.le_of_ble_eq_true rfl) dX5_init_6 (fun H locs hP hD hS => ?_)
  refine lv_aload_n S.1 S.2.1 dX5_init_9 rfl (lv_at hl 0 rfl) ?_
  refine z_iconst S dX5_init_10 ?_
  refine y_new2 S cl_X5_13 hK hP hD hS (fun q h => hA q (Nat.le_trans hS.1 h)) (z := 0) (fun _ => 0) (by omega) (Nat.le_of_ble_eq_true rfl) (Nat.le_of_ble_eq_true rfl) dX5_init_11 (fun o1 H _ _ hP hD hS => ?_)
  refine y_putr S hK hP hD hS 1 rfl 2 (by decide) fl_X5_15 rfl (by decide +kernel) (Nat.le_of_ble_eq_true rfl) dX5_init_14 (fun H locs hP hD hS => ?_)
  refine lv_aload_n S.1 S.2.1 dX5_init_17 rfl (lv_at hl 0 rfl) ?_
  refine z_iconst S dX5_init_18 ?_
  refine y_new2 S cl_X5_13 hK hP hD hS (fun q h => hA q (Nat.le_trans hS.1 h)) (z := 0) (fun _ => 0) (by omega) (Nat.le_of_ble_eq_true rfl) (Nat.le_of_ble_eq_true rfl) dX5_init_19 (fun o2 H _ _ hP hD hS => ?_)
  refine y_putr S hK hP hD hS 2 rfl 3 (by decide) fl_X5_19 rfl (by decide +kernel) (Nat.le_of_ble_eq_true rfl) dX5_init_22 (fun H locs hP hD hS => ?_)
  refine lv_aload_n S.1 S.2.1 dX5_init_25 rfl (lv_at hl 0 rfl) ?_
  refine z_iconst S dX5_init_26 ?_
  refine y_new2 S cl_X5_13 hK hP hD hS (fun q h => hA q (Nat.le_trans hS.1 h)) (z := 0) (fun _ => 0) (by omega) (Nat.le_of_ble_eq_true rfl) (Nat.le_of_ble_eq_true rfl) dX5_init_27 (fun o3 H _ _ hP hD hS => ?_)
  refine y_putr S hK hP hD hS 3 rfl 4 (by decide) fl_X5_22 rfl (by decide +kernel) (Nat.le_of_ble_eq_true rfl) dX5_init_30 (fun H locs hP hD hS => ?_)
  refine lv_aload_n S.1 S.2.1 dX5_init_33 rfl (lv_at hl 0 rfl) ?_
  refine z_iconst S dX5_init_34 ?_
  refine y_new2 S cl_X5_13 hK hP hD hS (fun q h => hA q (Nat.le_trans hS.1 h)) (z := 0) (fun _ => 0) (by omega) (Nat.le_of_ble_eq_true rfl) (Nat.le_of_ble_eq_true rfl) dX5_init_35 (fun o4 H _ _ hP hD hS => ?_)
  refine y_putr S hK hP hD hS 4 rfl 5 (by decide) fl_X5_25 rfl (by decide +kernel) (Nat.le_of_ble_eq_true rfl) dX5_init_38 (fun H locs hP hD hS => ?_)
  have hP9 : va_P D vwCl [(o4, oe g 0 (fun _ => 0)), (o3, oe g 0 (fun _ => 0)), (o2, oe g 0 (fun _ => 0)), (o1, oe g 0 (fun _ => 0)), (h0, .inr (5, [.int (zI 3), .int (zI 0), .ref o1, .ref o2, .ref o3, .ref o4]))] H := hP
  have hD9 : va_D A [(o4, oe g 0 (fun _ => 0)), (o3, oe g 0 (fun _ => 0)), (o2, oe g 0 (fun _ => 0)), (o1, oe g 0 (fun _ => 0)), (h0, .inr (5, [.int (zI 3), .int (zI 0), .ref o1, .ref o2, .ref o3, .ref o4]))] := hD
  have e0 : ∀ r : Nat → Nat, oe g 0 r = oe g 0 (fun _ => 0) := fun r => by unfold oe; rw [rfs_congr (r' := fun _ => 0) (fun i hi => absurd hi (by omega))]
  have hw : SW g (fun k => [h0, o1, o2, o3, o4].getD k 0) s00 = [(h0, .inr (5, [.int (zI 3), .int (zI 0), .ref o1, .ref o2, .ref o3, .ref o4])), (o1, oe g 0 (fun _ => 0)), (o2, oe g 0 (fun _ => 0)), (o3, oe g 0 (fun _ => 0)), (o4, oe g 0 (fun _ => 0))] := by
    show [(h0, _), (o1, oe g 0 _), (o2, oe g 0 _), (o3, oe g 0 _), (o4, oe g 0 _)] = _
    rw [e0, e0, e0, e0]
    rfl
  exact W.vret S.1 S.2.1 hr (fun t ht hW => ⟨⟨(fun k => [h0, o1, o2, o3, o4].getD k 0), rfl, rfl, by rw [ht, hw]; exact hP9.sub [4, 3, 2, 1, 0] rfl, by rw [hw]; exact hD9.sub [4, 3, 2, 1, 0] rfl rfl⟩, hS.F ht⟩) hS.2.2 dX5_init_41

