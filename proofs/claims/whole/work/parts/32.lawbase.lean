/-! THE LAW: its world, and its steps that come again and again -/
theorem va_P_l {D : va_G} {cl : List vw_C} {w1 w2 : va_W} {H : Heap} (h : va_P D cl (w1 ++ w2) H) : va_P D cl w1 H := fun k q hk => h k q (by rw [List.getElem?_append_left (List.getElem?_eq_some_iff.mp hk).1]; exact hk)
theorem va_P_r {D : va_G} {cl : List vw_C} {w1 w2 : va_W} {H : Heap} (h : va_P D cl (w1 ++ w2) H) : va_P D cl w2 H := fun k q hk => h (w1.length + k) q (by rw [List.getElem?_append_right (Nat.le_add_right _ _), Nat.add_sub_cancel_left]; exact hk)
theorem LW_in {g : ClassId × ClassId × ClassId} {a : Nat → Nat} {c : CS} {o : Nat} {G : Nat → Int64} (hda : CD 21 a) (k : Nat) (q : Nat × va_E) (h : (LW g a c o G)[k]? = some q) : LA a o q.1 := by
  rcases List.mem_append.mp (List.mem_of_getElem? h) with h1 | h1
  · obtain ⟨i, hi⟩ := List.getElem?_of_mem h1
    exact Or.inl ((CW_D hda c).2 i q hi)
  · rw [List.mem_singleton.mp h1]; exact Or.inr rfl
theorem MW_in {g : ClassId × ClassId × ClassId} {b : Nat → Nat} {c : CS} (hdb : CD 14 b) (k : Nat) (q : Nat × va_E) (h : (MW g b c)[k]? = some q) : CA 14 b q.1 := (MW_D hdb c).2 k q h
theorem KX.dr {D : va_G} {g : ClassId × ClassId × ClassId} {U : State} (d : Drawn) (h : KX D g U) : KX D g (U.setDrawn d) := ⟨⟨va_K.moved (u := U) (U := U.setDrawn d) (Vm.Alike.refl U.vm) h.1.1, NW.same (u := U) (U := U.setDrawn d) rfl h.1.2⟩, fun w hw => xw_same (u := U) (U := U.setDrawn d) (XWl_x w hw) rfl (h.2.1 w hw), fun q hq => (h.2.2.1 q hq).elim fun sa z => ⟨sa, vk_R.same (u := U) (U := U.setDrawn d) rfl z⟩, fun q hq => va_Nc.moved (u := U) (U := U.setDrawn d) (Vm.Alike.refl U.vm) (h.2.2.2 q hq)⟩
/-- what holds all along: the tables, the statics, which cells are whose, the script -/
def LX (D : va_G) (g : ClassId × ClassId × ClassId) (a b : Nat → Nat) (o sc L : Nat) (xs : Nat → Int32) (s : State) : Prop := KX D g s ∧ ZQ (fun q => s.heap.size ≤ q) s s.heap ∧ (CD 21 a ∧ CD 14 b) ∧ (∀ k : Nat, k < 21 → o ≠ a k) ∧ (∀ q, LA a o q → ¬ CA 14 b q) ∧ (∀ q, LA a o q → s.heap.size ≤ q) ∧ (∀ q, CA 14 b q → s.heap.size ≤ q) ∧ va_X sc L xs s s.heap ∧ sc < s.heap.size ∧ L ≤ 3584
theorem LX.dr {D : va_G} {g : ClassId × ClassId × ClassId} {a b : Nat → Nat} {o sc L : Nat} {xs : Nat → Int32} {s : State} (d : Drawn) (h : LX D g a b o sc L xs s) : LX D g a b o sc L xs (s.setDrawn d) := ⟨h.1.dr d, ZQ.moved (u := s) (U := s.setDrawn d) (Vm.Alike.refl s.vm) h.2.1, h.2.2.1, h.2.2.2.1, h.2.2.2.2.1, h.2.2.2.2.2.1, h.2.2.2.2.2.2.1, h.2.2.2.2.2.2.2.1, h.2.2.2.2.2.2.2.2.1, h.2.2.2.2.2.2.2.2.2⟩
/-- the script's j-th whole number -/
def sx (xs : Nat → Int32) (j : Int) : Int := (xs j.toNat).toInt
theorem sx_I (xs : Nat → Int32) (j : Int) : I32 (sx xs j) := I32_of _
section LB
variable {p : Program} {l : Launch} {e : Env} {R : Room} {s : State} {m : MethodId} {args : Array Value} {below : List Frame} {meth : Method} {co : Code} {H : Heap} {locs : List Loc} {cells slots : Nat} {Q : State → Prop} {D : va_G} {g : ClassId × ClassId × ClassId} {a b : Nat → Nat} {o sc L : Nat} {xs : Nat → Int32} {ls : Array Slot} {lv : List (Nat × Value)} {rest st0 : List Value} {pc : Nat} {i : Int} {c c0 c1 mm m1 : CS} {G G1 : Nat → Int64}
theorem l_sld (S : CallFix p m co cL_law 9 s args AW RL) (hx : LX D g a b o sc L xs s) (hS : va_S (fun q => s.heap.size ≤ q) s.heap H locs) {j : Int} (hj : 0 ≤ j ∧ j < L) (hdg : decode cL_law pc = .ok (.iaload, 1)) (k : W p l e R s m args below meth co H locs cells slots Q (F0 m (pc + 1) ls (.int (zI (sx xs j)) :: rest))) : W p l e R s m args below meth co H locs cells slots Q (F0 m pc ls (.int (zI j) :: .ref sc :: rest)) := by
  obtain ⟨-, -, -, -, -, -, -, hX, hsc, hL⟩ := hx
  have h1 := zI_clamp (z := j) (by omega)
  refine va_sld S.1 S.2.1 hX hsc (Nat.not_le.mpr hsc) hS (zI_in (n := L) hj (by omega)) hdg ?_
  rw [show (zI j).toNatClampNeg = j.toNat by omega, zI_of (xs j.toNat)]
  exact k
/-- script[i + n] is loaded -/
theorem l_arg (S : CallFix p m co cL_law 9 s args AW RL) (hx : LX D g a b o sc L xs s) (hS : va_S (fun q => s.heap.size ≤ q) s.heap H locs) (hl : lv_has ls 9 lv) (k0 k4 : Nat) (h0 : lv[k0]? = some (0, .ref sc)) (h4 : lv[k4]? = some (4, .int (zI i))) {n : Int} (hj : 0 ≤ i + n ∧ i + n < L) (d0 : decode cL_law pc = .ok (.aload_n 0, 1)) (d1 : decode cL_law (pc + 1) = .ok (.iload 4, 2)) (d2 : decode cL_law (pc + 3) = .ok (.iconst n, 1)) (d3 : decode cL_law (pc + 4) = .ok (.iadd, 1)) (d4 : decode cL_law (pc + 5) = .ok (.iaload, 1))
    (k : W p l e R s m args below meth co H locs cells slots Q (F0 m (pc + 6) ls (.int (zI (sx xs (i + n))) :: rest))) : W p l e R s m args below meth co H locs cells slots Q (F0 m pc ls rest) := by
  refine lv_aload_n S.1 S.2.1 d0 rfl (lv_at hl k0 h0) ?_
  refine lv_iload S.1 S.2.1 d1 (lv_at hl k4 h4) ?_
  refine z_iconst S d2 ?_
  refine z_iadd S d3 ?_
  exact l_sld S hx hS hj d4 k
theorem l_arg6 (S : CallFix p m co cL_law 9 s args AW RL) (hx : LX D g a b o sc L xs s) (hS : va_S (fun q => s.heap.size ≤ q) s.heap H locs) (hl : lv_has ls 9 lv) (k0 k4 : Nat) (h0 : lv[k0]? = some (0, .ref sc)) (h4 : lv[k4]? = some (4, .int (zI i))) (hj : 0 ≤ i + 6 ∧ i + 6 < L) (d0 : decode cL_law pc = .ok (.aload_n 0, 1)) (d1 : decode cL_law (pc + 1) = .ok (.iload 4, 2)) (d2 : decode cL_law (pc + 3) = .ok (.bipush 6, 2)) (d3 : decode cL_law (pc + 5) = .ok (.iadd, 1)) (d4 : decode cL_law (pc + 6) = .ok (.iaload, 1))
    (k : W p l e R s m args below meth co H locs cells slots Q (F0 m (pc + 7) ls (.int (zI (sx xs (i + 6))) :: rest))) : W p l e R s m args below meth co H locs cells slots Q (F0 m pc ls rest) := by
  refine lv_aload_n S.1 S.2.1 d0 rfl (lv_at hl k0 h0) ?_
  refine lv_iload S.1 S.2.1 d1 (lv_at hl k4 h4) ?_
  refine z_bipush S (by decide) d2 ?_
  refine z_iadd S d3 ?_
  exact l_sld S hx hS hj d4 k
/-- v != 0, as a truth value -/
theorem l_flag (S : CallFix p m co cL_law 9 s args AW RL) {v : Int} (hv : I32 v) (d0 : decode cL_law pc = .ok (.ifCond .eq 7, 3)) (d1 : decode cL_law (pc + 3) = .ok (.iconst 1, 1)) (d2 : decode cL_law (pc + 4) = .ok (.goto 4, 3)) (d3 : decode cL_law (pc + 7) = .ok (.iconst 0, 1))
    (k : W p l e R s m args below meth co H locs cells slots Q (F0 m (pc + 8) ls (.int (zI (b01 (v ≠ 0))) :: rest))) : W p l e R s m args below meth co H locs cells slots Q (F0 m pc ls (.int (zI v) :: rest)) := by
  refine z_if_eq (tgt := pc + 7) S d0 (by omega) hv (fun h => ?_) (fun h => ?_)
  · refine z_iconst S d3 ?_
    rw [b01_f (fun z => z h)] at k
    exact k
  · refine z_iconst S d1 ?_
    refine z_goto (tgt := pc + 8) S d2 (by omega) ?_
    rw [b01_t h] at k
    exact k
/-- the class's call by its wrapper -/
theorem l_wrap (S : CallFix p m co cL_law 9 s args AW RL) (hx : LX D g a b o sc L xs s) {y : MethodName} {bytes : ByteArray} {maxL n index fr lo kd : Nat} {hh : List (Nat × Nat × Nat × Nat)} {As : List Value} {wc' : va_W} (hM : LM l y bytes maxL hh fr lo D g (LA a o) (LW g a c0 o G) As wc' kd) (h1 : Cond.methodLink RL index y ∈ AW) (h2 : Cond.static y ∈ AW) (h5 : Cond.codeWith y bytes maxL (some .int) hh ∈ AW)
    (hd : y.cls = RL ∧ y.cls ≠ "java/lang/invoke/MethodHandle" ∧ y.cls ≠ "java/lang/invoke/VarHandle" ∧ (parseMethodDescriptor y.desc).map (fun d => d.parameters.length) = some n) (hR : fr + 1 ≤ R.frames ∧ 8 + (maxL + 11) + lo ≤ R.locals)
    (hP : va_P D vwCl (LW g a c0 o G ++ MW g b mm) H) (hS : va_S (fun q => s.heap.size ≤ q) s.heap H locs) (hn : As.length = n) (hsz : ls.size = 9) (hst : st0 = As.reverse ++ rest) (hr : (rest.map fun v => v.category).sum ≤ 8) (hc : cells + 1 ≤ R.cells ∧ slots + 6 ≤ R.slots) (hdg : decode cL_law pc = .ok (.invokestatic index, 3))
    (kk : ∀ (H1 : Heap) (locs1 : List Loc), va_P D vwCl (wc' ++ MW g b mm) H1 → va_S (fun q => s.heap.size ≤ q) s.heap H1 locs1 → W p l e R s m args below meth co H1 locs1 (cells + 1) (slots + 6) Q (F0 m (pc + 3) ls (.int (zI kd) :: rest))) : W p l e R s m args below meth co H locs cells slots Q (F0 m pc ls st0) := by
  obtain ⟨hX, hZ, ⟨hda, hdb⟩, hoa, hdis, hla, hlb, -, -, -⟩ := hx
  have hPa := va_P_l hP
  have hPb := va_P_r hP
  have hZH : ZQ (LA a o) s H := (hZ.kept (H1 := H) (fun q h1 h2 => hS.2.1 q h1 h2)).narrow hla
  have hg : GoodIn AW (va_wsS RL index y (.codeWith y bytes maxL (some .int) hh :: AW)) := gin_3 h1 h2 (by rw [hd.1]; exact ini_L) (fun w hw => (List.mem_cons.mp hw).elim (fun e => by rw [e]; exact gin_AW _ h5) (fun q => gin_AW _ q))
  refine vx_calli (AX := fun _ => False) (vx_runSX (rest := rest) S hM (vx_cwSW n S.2.2.2.2 hg rfl rfl rfl hd.2 hR) ⟨PX.blind, fun U hU hW => ⟨rfl, by rw [hU]; exact hPa, hX.warm hW, by rw [hU]; exact ZQ.moved hW.alike hZH⟩⟩ rfl hn hsz hst (z_lroom hr) hdg hc) hS (fun q _ h => hla q h) (fun q h => hla q h) (fun q _ h => h.elim) (fun E ce q9 u t H1 locs1 _ _ hu => hu.elim) (fun v u t H1 locs1 ht _ hv hB hz hk hS1 => ?_)
  subst hv
  rw [ht] at hB
  refine kk H1 locs1 (hB.app (hPb.kept (fun k q hk9 => ?_))) hS1
  exact hk q.1 ((hPb k q hk9).lt) (fun h => hdis _ h (MW_in hdb k q hk9))
/-- the reference's call -/
theorem l_ref (S : CallFix p m co cL_law 9 s args AW RL) (hx : LX D g a b o sc L xs s) {y : MethodName} {bytes : ByteArray} {maxL n index fr lo : Nat} {As : List Value} {r : Int} (hM : WRi l y bytes maxL (some .int) fr lo D g (CA 14 b) (MW g b mm) (.ref (b 0) :: As) (MW g b m1) r) (h1 : Cond.methodLink RL index y ∈ AW) (h2 : Cond.instanceMethod y ∈ AW) (h3 : Cond.selects RX5 y y ∈ AW) (h5 : Cond.code y bytes maxL (some .int) ∈ AW)
    (hd : y.cls = RX5 ∧ y.cls ≠ "java/lang/invoke/MethodHandle" ∧ y.cls ≠ "java/lang/invoke/VarHandle" ∧ (parseMethodDescriptor y.desc).map (fun d => d.parameters.length) = some n) (hR : fr + 1 ≤ R.frames ∧ 8 + (maxL + 11) + lo ≤ R.locals)
    (hP : va_P D vwCl (LW g a c0 o G ++ MW g b mm) H) (hS : va_S (fun q => s.heap.size ≤ q) s.heap H locs) (hn : As.length = n) (hsz : ls.size = 9) (hst : st0 = As.reverse ++ .ref (b 0) :: rest) (hr : (rest.map fun v => v.category).sum ≤ 8) (hc : cells ≤ R.cells ∧ slots ≤ R.slots) (hdg : decode cL_law pc = .ok (.invokevirtual index, 3))
    (kk : ∀ (H1 : Heap) (locs1 : List Loc), va_P D vwCl (LW g a c0 o G ++ MW g b m1) H1 → va_S (fun q => s.heap.size ≤ q) s.heap H1 locs1 → W p l e R s m args below meth co H1 locs1 cells slots Q (F0 m (pc + 3) ls (.int (zI r) :: rest))) : W p l e R s m args below meth co H locs cells slots Q (F0 m pc ls st0) := by
  obtain ⟨hX, hZ, ⟨hda, hdb⟩, hoa, hdis, hla, hlb, -, -, -⟩ := hx
  have hPa := va_P_l hP
  have hPb := va_P_r hP
  refine z_wV (rest := rest) S hM h1 h2 h3 ini_X5 h5 hd hR hX.1 hPb (va_recv hX.1.1 hPb (ci := 5) (q0 := 0) rfl rfl) hn hsz hst hr hc hS hlb hdg (fun H1 locs1 hB hz hk hS1 => ?_)
  refine kk H1 locs1 (va_P.app (hPa.kept (fun k q hk9 => ?_)) hB) hS1
  exact hk q.1 ((hPa k q hk9).lt) (fun h => hdis _ (LW_in hda k q hk9) h)
/-- behind a call on both sides: the codes, and the answers, are compared -/
theorem l_tail (S : CallFix p m co cL_law 9 s args AW RL) (hx : LX D g a b o sc L xs s) {B : Int} (hI : IM B m1) {kd jd : Nat} {r r2 : Int} (hth : m1.1 0 = (jd : Int)) (hkj : kd = jd) (hkb : kd < 1000) (hG : kd = 0 → G 0 = (zI r).toInt64) (hr : kd = 0 → r = r2) (hl : lv_has ls 9 lv) (k2 k3 k5 k6 : Nat) (h2 : lv[k2]? = some (2, .ref (b 0))) (h3 : lv[k3]? = some (3, .ref o)) (h5 : lv[k5]? = some (5, .int (zI kd))) (h6 : lv[k6]? = some (6, .int (zI r2)))
    (hP : va_P D vwCl (LW g a c0 o G ++ MW g b m1) H) (hS : va_S (fun q => s.heap.size ≤ q) s.heap H locs) (hR : 1 ≤ R.frames ∧ 20 ≤ R.locals) (hc : cells ≤ R.cells ∧ slots ≤ R.slots)
    (e0 : decode cL_law pc = .ok (.aload_n 2, 1)) (e1 : decode cL_law (pc + 1) = .ok (.invokevirtual 80, 3)) (e4 : decode cL_law (pc + 4) = .ok (.iload 5, 2)) (e6 : decode cL_law (pc + 6) = .ok (.if_icmp .eq 5, 3)) (e11 : decode cL_law (pc + 11) = .ok (.iload 5, 2)) (e13 : decode cL_law (pc + 13) = .ok (.ifCond .ne 15, 3)) (e16 : decode cL_law (pc + 16) = .ok (.aload_n 3, 1)) (e17 : decode cL_law (pc + 17) = .ok (.iconst 0, 1)) (e18 : decode cL_law (pc + 18) = .ok (.laload, 1)) (e19 : decode cL_law (pc + 19) = .ok (.iload 6, 2)) (e21 : decode cL_law (pc + 21) = .ok (.i2l, 1)) (e22 : decode cL_law (pc + 22) = .ok (.lcmp, 1)) (e23 : decode cL_law (pc + 23) = .ok (.ifCond .eq 5, 3))
    (k : W p l e R s m args below meth co H locs cells slots Q (F0 m (pc + 28) ls [])) : W p l e R s m args below meth co H locs cells slots Q (F0 m pc ls []) := by
  obtain ⟨hX, hZ, ⟨hda, hdb⟩, hoa, hdis, hla, hlb, -, -, -⟩ := hx
  have hPa := va_P_l hP
  have hPb := va_P_r hP
  refine lv_aload_n S.1 S.2.1 e0 rfl (lv_at hl k2 h2) ?_
  refine z_rV (rest := []) (As := []) S (m_X5_thrown l D g b m1 hI) ml_L_80 im_X5_thrown se_X5_thrown ini_X5 cd_X5_thrown ds_X5_thrown ⟨by show 0 + 1 ≤ R.frames; omega, by show 8 + (1 + 11) + 0 ≤ R.locals; omega⟩ hX.1 hPb (va_recv hX.1.1 hPb (ci := 5) (q0 := 0) rfl rfl) rfl hl.1 rfl (Nat.le_of_ble_eq_true rfl) hc e1 ?_
  refine lv_iload S.1 S.2.1 e4 (lv_at hl k5 h5) ?_
  rw [hth, ← hkj]
  refine z_icmp_eq (tgt := pc + 11) S e6 (by omega) ⟨by omega, by omega⟩ (fun _ => ?_) (fun h => absurd rfl h)
  refine lv_iload S.1 S.2.1 e11 (lv_at hl k5 h5) ?_
  refine z_if_ne (tgt := pc + 28) S e13 (by omega) (by omega) (fun _ => k) (fun h0 => ?_)
  have hk0 : kd = 0 := by omega
  refine lv_aload_n S.1 S.2.1 e16 rfl (lv_at hl k3 h3) ?_
  refine z_iconst S e17 ?_
  refine va_lald S.1 S.2.1 hX.1.1 hPa 21 2 rfl rfl (zI_in (n := 1) (by omega) (by omega)) e18 ?_
  refine lv_iload S.1 S.2.1 e19 (lv_at hl k6 h6) ?_
  refine lv_i2l (v := (zI r2).toInt64) S.1 S.2.1 e21 rfl ?_
  refine W.lcmp S.1 S.2.1 e22 ?_
  have hz : lg_cmp (G (zI 0).toNatClampNeg) (zI r2).toInt64 = 0 := by
    rw [show (zI 0).toNatClampNeg = 0 from rfl, hG hk0, hr hk0]
    unfold lg_cmp
    rw [if_neg (fun z => absurd z (by rw [gt_iff_lt, Int64.lt_iff_toInt_lt]; omega)), if_pos rfl]
  rw [hz]
  exact lv_if_eq (tgt := pc + 28) S.1 S.2.1 e23 (by omega) (fun _ => k) (fun h => absurd rfl h)
end LB
