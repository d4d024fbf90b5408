/-! THE LAW: advise, mean, digest -/
theorem nan_none {r : UInt64} (h : isNaN64 r = true) (t : UInt64) : FP.dcmp r t = none := by
  have h1 := isNaN64_iff.mp h
  rw [show (0x7fffffffffffffff : Nat) = 2 ^ 63 - 1 from rfl, Nat.and_two_pow_sub_one_eq_mod] at h1
  have hd : FP.Core.decode FP.Core.b64 r.toNat = .nan := by
    unfold FP.Core.decode
    rw [if_pos (show FP.Core.fieldE FP.Core.b64 r.toNat = FP.Core.b64.exps - 1 by show r.toNat / 4503599627370496 % 2048 = 2047; omega), if_neg (show ¬ FP.Core.fieldT FP.Core.b64 r.toNat = 0 by show ¬ r.toNat % 4503599627370496 = 0; omega)]
  show FP.Core.order (FP.Core.decode FP.Core.b64 r.toNat) (FP.Core.decode FP.Core.b64 t.toNat) = none
  rw [hd]
  rfl
/-- two numbers alike to one: the same, or both no numbers -/
theorem alike_two {r t X : UInt64} (h1 : alike64 r X = true) (h2 : alike64 t X = true) : r = t ∨ (isNaN64 r = true ∧ isNaN64 t = true) := by
  unfold alike64 at h1 h2
  rw [Bool.or_eq_true, decide_eq_true_eq, Bool.and_eq_true] at h1 h2
  rcases h1 with h1 | h1
  · rcases h2 with h2 | h2
    · exact Or.inl (h1.trans h2.symm)
    · rw [h1]; exact Or.inr ⟨h2.2, h2.1⟩
  · rcases h2 with h2 | h2
    · rw [h2]; exact Or.inr ⟨h1.1, h1.2⟩
    · exact Or.inr ⟨h1.1, h2.1⟩
section LC2
variable {p : Program} {l : Launch} {e : Env} {s : State} {m : MethodId} {args : Array Value} {below : List Frame} {meth : Method} {co : Code} {H : Heap} {locs : List Loc} {cells slots : Nat} {Q : State → Prop} {D : va_G} {g : ClassId × ClassId × ClassId} {a b : Nat → Nat} {o sc L : Nat} {xs : Nat → Int32} {ls : Array Slot} {i B : Int} {c mm : CS} {G : Nat → Int64}
set_option maxHeartbeats 4000000 in
set_option maxRecDepth 100000 in
theorem lc_advise (S : CallFix p m co cL_law 9 s args AW RL) (hx : LX D g a b o sc L xs s) (h : OK2 B c mm) (hB : 1000 ≤ B ∧ B ≤ 900000000) (hl : lv_has ls 9 [(0, .ref sc), (1, .ref (a 0)), (2, .ref (b 0)), (3, .ref o), (4, .int (zI i))]) (hP : va_P D vwCl (LW g a c o G ++ MW g b mm) H) (hS : va_S (fun q => s.heap.size ≤ q) s.heap H locs) (hc : cells + 1 ≤ 1086 ∧ slots + 6 ≤ 15587) (next : ∀ (c2 m2 : CS) (G2 : Nat → Int64) (H2 : Heap) (locs2 : List Loc) (ls2 : Array Slot), OK2 (B + 100000) c2 m2 → va_P D vwCl (LW g a c2 o G2 ++ MW g b m2) H2 → va_S (fun q => s.heap.size ≤ q) s.heap H2 locs2 → lv_has ls2 9 [(0, .ref sc), (1, .ref (a 0)), (2, .ref (b 0)), (3, .ref o), (4, .int (zI i))] → W p l e room_1 s m args below meth co H2 locs2 (cells + 1) (slots + 6) Q (F0 m 1430 ls2 [])) : W p l e room_1 s m args below meth co H locs cells slots Q (F0 m 1362 ls []) := by
  obtain ⟨hR, hI, hM⟩ := id h
  have hs := hI.s
  have n3 := hR.n3
  have hPc : va_P D vwCl (CW g a c) H := va_P_l (va_P_l hP)
  refine W.widen (k := cells + 1) (n := slots + 6) (by omega) (by omega) ?_
  refine lv_aload_n S.1 S.2.1 dL_law_1362 rfl (lv_at hl 1 rfl) ?_
  refine z_rV (rest := []) (As := []) S (m_X4_advise l D g a c hI) ml_L_135 im_X4_advise se_X4_advise ini_X4 cd_X4_advise ds_X4_advise ⟨Nat.le_of_ble_eq_true rfl, Nat.le_of_ble_eq_true rfl⟩ hx.1.1 hPc (va_recv hx.1.1.1 hPc (ci := 4) (q0 := 0) rfl rfl) rfl hl.1 rfl (Nat.le_of_ble_eq_true rfl) hc dL_law_1363 ?_
  refine lv_aload_n S.1 S.2.1 dL_law_1366 rfl (lv_at hl 2 rfl) ?_
  refine l_ref (rest := [.int (zI (adv c (c.1 3).toNat))]) (As := []) S hx (m_X5_advise l D g b mm hM hx.2.2.1.2) ml_L_138 im_X5_advise se_X5_advise cd_X5_advise ds_X5_advise ⟨Nat.le_of_ble_eq_true rfl, Nat.le_of_ble_eq_true rfl⟩ hP hS rfl hl.1 rfl (Nat.le_of_ble_eq_true rfl) hc dL_law_1367 (fun H locs hP hS => ?_)
  have e : adv c (c.1 3).toNat = mAdv (sS mm 0 0) (mm.1 4).toNat := by rw [(hR.th 0).e_adv, n3]
  have hb := adv_b c (c.1 3).toNat
  rw [← e]
  refine z_icmp_eq (tgt := 1430) S dL_law_1370 (by decide) ⟨by omega, by omega⟩ (fun _ => ?_) (fun z => absurd rfl z)
  exact next _ _ _ _ _ _ (h.same (by omega) 0) hP hS hl
set_option maxHeartbeats 4000000 in
set_option maxRecDepth 100000 in
theorem lc_digest (S : CallFix p m co cL_law 9 s args AW RL) (hx : LX D g a b o sc L xs s) (h : OK2 B c mm) (hB : 1000 ≤ B ∧ B ≤ 900000000) (hl : lv_has ls 9 [(0, .ref sc), (1, .ref (a 0)), (2, .ref (b 0)), (3, .ref o), (4, .int (zI i))]) (hP : va_P D vwCl (LW g a c o G ++ MW g b mm) H) (hS : va_S (fun q => s.heap.size ≤ q) s.heap H locs) (hc : cells + 1 ≤ 1086 ∧ slots + 6 ≤ 15587) (next : ∀ (c2 m2 : CS) (G2 : Nat → Int64) (H2 : Heap) (locs2 : List Loc) (ls2 : Array Slot), OK2 (B + 100000) c2 m2 → va_P D vwCl (LW g a c2 o G2 ++ MW g b m2) H2 → va_S (fun q => s.heap.size ≤ q) s.heap H2 locs2 → lv_has ls2 9 [(0, .ref sc), (1, .ref (a 0)), (2, .ref (b 0)), (3, .ref o), (4, .int (zI i))] → W p l e room_1 s m args below meth co H2 locs2 (cells + 1) (slots + 6) Q (F0 m 1430 ls2 [])) : W p l e room_1 s m args below meth co H locs cells slots Q (F0 m 1416 ls []) := by
  obtain ⟨hR, hI, hM⟩ := id h
  have hPc : va_P D vwCl (CW g a c) H := va_P_l (va_P_l hP)
  have hPm := va_P_r hP
  have hPw := va_P_l hP
  refine W.widen (k := cells + 1) (n := slots + 6) (by omega) (by omega) ?_
  refine lv_aload_n S.1 S.2.1 dL_law_1416 rfl (lv_at hl 1 rfl) ?_
  refine z_rVl (rest := []) (As := []) S (m_X4_digest l D g a c hI) ml_L_144 im_X4_digest se_X4_digest ini_X4 cd_X4_digest ds_X4_digest ⟨Nat.le_of_ble_eq_true rfl, Nat.le_of_ble_eq_true rfl⟩ hx.1.1 hPc (va_recv hx.1.1.1 hPc (ci := 4) (q0 := 0) rfl rfl) rfl hl.1 rfl (Nat.le_of_ble_eq_true rfl) hc dL_law_1417 ?_
  refine lv_aload_n S.1 S.2.1 dL_law_1420 rfl (lv_at hl 2 rfl) ?_
  refine va_calll (va_runV (rest := [.long (digC c)]) (As := []) S (m_X5_digest l D g b mm hM hx.2.2.1.2) (mkV S.2.2.2.2 ml_L_148 im_X5_digest se_X5_digest ini_X5 cd_X5_digest ds_X5_digest ⟨Nat.le_of_ble_eq_true rfl, Nat.le_of_ble_eq_true rfl⟩) (z_preV hx.1.1 hPm (va_recv hx.1.1.1 hPm (ci := 5) (q0 := 0) rfl rfl)) rfl rfl hl.1 rfl (z_lroom (Nat.le_of_ble_eq_true rfl)) dL_law_1421 hc) hS (fun q _ h => hx.2.2.2.2.2.2.1 q h) (fun q h => hx.2.2.2.2.2.2.1 q h) (fun v u t H1 locs1 ht _ hv hB1 hz hk hS => ?_)
  subst hv
  rw [ht] at hB1
  have hP : va_P D vwCl (LW g a c o G ++ MW g b (sS mm 0 0)) H1 := va_P.app (hPw.kept (fun k q hk9 => hk q.1 ((hPw k q hk9).lt) (fun h => hx.2.2.2.2.1 _ (LW_in hx.2.2.1.1 k q hk9) h))) hB1
  have e : digC c = dgO (mSpT (sS mm 0 0)) 4 (dgO (mPiT (sS mm 0 0)) 7 (dgO (mDoT (sS mm 0 0)) 8 (dg (mCnt (sS mm 0 0)) 1801 9) (mm.1 4).toNat) (mm.1 6).toNat) 400 := (hR.th 0).e_dig (hM.n0 (v := 0))
  rw [e]
  refine W.lcmp S.1 S.2.1 dL_law_1424 ?_
  rw [show ∀ z : Int64, lg_cmp z z = 0 from fun z => by unfold lg_cmp; rw [if_neg (fun q => absurd q (by rw [gt_iff_lt, Int64.lt_iff_toInt_lt]; omega)), if_pos rfl]]
  refine lv_if_eq (tgt := 1430) S.1 S.2.1 dL_law_1425 (by decide) (fun _ => ?_) (fun z => absurd rfl z)
  exact next _ _ _ _ _ _ (h.same (by omega) 0) hP hS hl
set_option maxHeartbeats 4000000 in
set_option maxRecDepth 100000 in
theorem lc_mean {d0 : Drawn} (hd0 : s.drawn.sameBut d0 lw_cs) (S : CallFix p m co cL_law 9 (s.setDrawn d0) args AW RL) (hx : LX D g a b o sc L xs s) (h : OK2 B c mm) (hB : 1000 ≤ B ∧ B ≤ 900000000) (hl : lv_has ls 9 [(0, .ref sc), (1, .ref (a 0)), (2, .ref (b 0)), (3, .ref o), (4, .int (zI i))]) (hP : va_P D vwCl (LW g a c o G ++ MW g b mm) H) (hS : va_S (fun q => s.heap.size ≤ q) s.heap H locs) (hc : cells + 1 ≤ 1086 ∧ slots + 6 ≤ 15587) (next : ∀ (d1 : Drawn) (c2 m2 : CS) (G2 : Nat → Int64) (H2 : Heap) (locs2 : List Loc) (ls2 : Array Slot), s.drawn.sameBut d1 lw_cs → OK2 (B + 100000) c2 m2 → va_P D vwCl (LW g a c2 o G2 ++ MW g b m2) H2 → va_S (fun q => s.heap.size ≤ q) s.heap H2 locs2 → lv_has ls2 9 [(0, .ref sc), (1, .ref (a 0)), (2, .ref (b 0)), (3, .ref o), (4, .int (zI i))] → W p l e room_1 (s.setDrawn d1) m args below meth co H2 locs2 (cells + 1) (slots + 6) Q (F0 m 1430 ls2 [])) : W p l e room_1 (s.setDrawn d0) m args below meth co H locs cells slots Q (F0 m 1375 ls []) := by
  obtain ⟨hR, hI, hM⟩ := id h
  have n4 := hR.n4
  have hla := hx.2.2.2.2.2.1
  have hlb := hx.2.2.2.2.2.2.1
  have hdis := hx.2.2.2.2.1
  have hoa := hx.2.2.2.1
  have hK0 := (hx.1.dr d0).1
  have hPc : va_P D vwCl (CW g a c) H := va_P_l (va_P_l hP)
  have hPo : va_P D vwCl [(o, .inl (g.2.2, 1, .inr (.inl G)))] H := va_P_r (va_P_l hP)
  have hPm := va_P_r hP
  refine W.widen (k := cells + 1) (n := slots + 6) (by omega) (by omega) ?_
  refine lv_aload_n S.1 S.2.1 dL_law_1375 rfl (lv_at hl 1 rfl) ?_
  refine va_calldD hd0 (va_runV_D (As := []) (rest := []) S (m_X4_mean l D g a c hI hx.2.2.1.1) (mkV S.2.2.2.2 ml_L_139 im_X4_mean se_X4_mean ini_X4 cd_X4_mean ds_X4_mean ⟨Nat.le_of_ble_eq_true rfl, Nat.le_of_ble_eq_true rfl⟩) (z_preV hK0 hPc (va_recv hK0.1 hPc (ci := 4) (q0 := 0) rfl rfl)) rfl rfl hl.1 rfl (z_lroom (Nat.le_of_ble_eq_true rfl)) dL_law_1376 hc) hS (fun q _ h => hla q (Or.inl h)) (fun q h => hla q (Or.inl h)) (fun r1 u t H1 locs1 ht _ hr1 hB1 hz hk hS d1 hd1 => ?_)
  rw [ht] at hB1
  have hoA : ¬ CA 21 a o := fun ⟨k, hk, e⟩ => hoa k hk e
  have hP : va_P D vwCl (LW g a c o G ++ MW g b mm) H1 := va_P.app (va_P.app hB1 (hPo.kept (fun k q hk9 => by
    have hq : q = (o, .inl (g.2.2, 1, .inr (.inl G))) := by
      cases k with
      | zero => exact (Option.some.inj hk9).symm
      | succ k => simp at hk9
    exact hk q.1 ((hPo k q hk9).lt) (by rw [hq]; exact hoA)))) (hPm.kept (fun k q hk9 => hk q.1 ((hPm k q hk9).lt) (fun h => hdis q.1 (Or.inl h) (MW_in hx.2.2.1.2 k q hk9))))
  have hPw := va_P_l hP
  have hPm := va_P_r hP
  have S1 := z_S9 S d1
  have hK1 := (hx.1.dr d1).1
  refine lv_dstore (lv' := [(5, .double r1), (0, .ref sc), (1, .ref (a 0)), (2, .ref (b 0)), (3, .ref o), (4, .int (zI i))]) S1.1 S1.2.1 dL_law_1379 hl (by decide) rfl (fun ls hl => ?_)
  refine lv_aload_n S1.1 S1.2.1 dL_law_1381 rfl (lv_at hl 3 rfl) ?_
  refine va_calldD hd1 (va_runV_D (As := []) (rest := []) S1 (m_X5_mean l D g b mm hM hx.2.2.1.2) (mkV S1.2.2.2.2 ml_L_143 im_X5_mean se_X5_mean ini_X5 cd_X5_mean ds_X5_mean ⟨Nat.le_of_ble_eq_true rfl, Nat.le_of_ble_eq_true rfl⟩) (z_preV hK1 hPm (va_recv hK1.1 hPm (ci := 5) (q0 := 0) rfl rfl)) rfl rfl hl.1 rfl (z_lroom (Nat.le_of_ble_eq_true rfl)) dL_law_1382 hc) hS (fun q _ h => hlb q h) (fun q h => hlb q h) (fun r2 u2 t2 H2 locs2 ht2 _ hr2 hB2 hz2 hk2 hS d2 hd2 => ?_)
  rw [ht2] at hB2
  have hP : va_P D vwCl (LW g a c o G ++ MW g b (sS mm 0 0)) H2 := va_P.app (hPw.kept (fun k q hk9 => hk2 q.1 ((hPw k q hk9).lt) (fun h => hdis _ (LW_in hx.2.2.1.1 k q hk9) h))) hB2
  have S2 := z_S9 S d2
  refine lv_dstore (lv' := [(7, .double r2), (5, .double r1), (0, .ref sc), (1, .ref (a 0)), (2, .ref (b 0)), (3, .ref o), (4, .int (zI i))]) S2.1 S2.2.1 dL_law_1385 hl (by decide) rfl (fun ls hl => ?_)
  have key : r1 = r2 ∨ (isNaN64 r1 = true ∧ isNaN64 r2 = true) := by
    have hr1 : if 0 < c.1 4 then alike64 r1 (FP.ddiv (FP.i2d (zI (meanW c))) (FP.i2d (zI (c.1 4)))) = true else r1 = FP.dconst0 := hr1
    have hr2 : if 0 < mm.1 5 then alike64 r2 (FP.ddiv (FP.i2d (zI (mMeW (sS mm 0 0)))) (FP.i2d (zI (mm.1 5)))) = true else r2 = FP.dconst0 := hr2
    have e : meanW c = mMeW (sS mm 0 0) := (hR.th 0).e_meanW (hM.n0 (v := 0))
    rw [e, n4] at hr1
    by_cases z : 0 < mm.1 5
    · rw [if_pos z] at hr1 hr2
      exact alike_two hr1 hr2
    · rw [if_neg z] at hr1 hr2
      exact Or.inl (hr1.trans hr2.symm)
  have key2 : Op.cmpValue (FP.dcmp r1 r2) .l = 0 ∨ (¬ Op.cmpValue (FP.dcmp r1 r1) .l = 0 ∧ ¬ Op.cmpValue (FP.dcmp r2 r2) .l = 0) := by
    rcases key with e | ⟨e1, e2⟩
    · subst e
      by_cases z : Op.cmpValue (FP.dcmp r1 r1) .l = 0
      · exact Or.inl z
      · exact Or.inr ⟨z, z⟩
    · refine Or.inr ⟨?_, ?_⟩
      · rw [nan_none e1]; decide
      · rw [nan_none e2]; decide
  have fin : W p l e room_1 (s.setDrawn d2) m args below meth co H2 locs2 (cells + 1) (slots + 6) Q (F0 m 1413 ls []) := by
    refine z_goto (tgt := 1430) S2 dL_law_1413 (by decide) ?_
    exact next d2 _ _ _ _ _ _ hd2 (h.same (by omega) 0) hP hS (lv_sub hl [2, 3, 4, 5, 6] rfl)
  refine lv_dload S2.1 S2.2.1 dL_law_1387 (lv_at hl 1 rfl) ?_
  refine lv_dload S2.1 S2.2.1 dL_law_1389 (lv_at hl 0 rfl) ?_
  refine lv_dcmp S2.1 S2.2.1 dL_law_1391 ?_
  refine lv_if_eq (tgt := 1413) S2.1 S2.2.1 dL_law_1392 (by decide) (fun _ => fin) (fun z => ?_)
  obtain ⟨k1, k2⟩ := key2.resolve_left z
  refine lv_dload S2.1 S2.2.1 dL_law_1395 (lv_at hl 1 rfl) ?_
  refine lv_dload S2.1 S2.2.1 dL_law_1397 (lv_at hl 1 rfl) ?_
  refine lv_dcmp S2.1 S2.2.1 dL_law_1399 ?_
  refine lv_if_eq (tgt := 1411) S2.1 S2.2.1 dL_law_1400 (by decide) (fun z => absurd z k1) (fun _ => ?_)
  refine lv_dload S2.1 S2.2.1 dL_law_1403 (lv_at hl 0 rfl) ?_
  refine lv_dload S2.1 S2.2.1 dL_law_1405 (lv_at hl 0 rfl) ?_
  refine lv_dcmp S2.1 S2.2.1 dL_law_1407 ?_
  exact lv_if_ne (tgt := 1413) S2.1 S2.2.1 dL_law_1408 (by decide) (fun _ => fin) (fun z => absurd z k2)
end LC2
