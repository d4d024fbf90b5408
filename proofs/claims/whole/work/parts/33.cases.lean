/-! THE LAW, CASE BY CASE: a call on both sides, up to the loop's step -/
section LCS
variable {p : Program} {l : Launch} {e : Env} {s : State} {m : MethodId} {args : Array Value} {below : List Frame} {meth : Method} {co : Code} {H : Heap} {locs : List Loc} {cells slots : Nat} {Q : State → Prop} {D : va_G} {g : ClassId × ClassId × ClassId} {a b : Nat → Nat} {o sc L : Nat} {xs : Nat → Int32} {ls : Array Slot} {i B : Int} {c mm : CS} {G : Nat → Int64}
set_option maxHeartbeats 4000000 in
set_option maxRecDepth 100000 in
theorem lc_vein (S : CallFix p m co cL_law 9 s args AW RL) (hx : LX D g a b o sc L xs s) (hst : l.stackTraces = false) (h : OK2 B c mm) (hB : 1000 ≤ B ∧ B ≤ 900000000) (hi : 0 ≤ i ∧ i + 6 < L) (hl : lv_has ls 9 [(0, .ref sc), (1, .ref (a 0)), (2, .ref (b 0)), (3, .ref o), (4, .int (zI i))]) (hP : va_P D vwCl (LW g a c o G ++ MW g b mm) H) (hS : va_S (fun q => s.heap.size ≤ q) s.heap H locs) (hc : cells + 1 ≤ 1086 ∧ slots + 6 ≤ 15587) (next : ∀ (c2 m2 : CS) (G2 : Nat → Int64) (H2 : Heap) (locs2 : List Loc) (ls2 : Array Slot), OK2 (B + 100000) c2 m2 → va_P D vwCl (LW g a c2 o G2 ++ MW g b m2) H2 → va_S (fun q => s.heap.size ≤ q) s.heap H2 locs2 → lv_has ls2 9 [(0, .ref sc), (1, .ref (a 0)), (2, .ref (b 0)), (3, .ref o), (4, .int (zI i))] → W p l e room_1 s m args below meth co H2 locs2 (cells + 1) (slots + 6) Q (F0 m 1430 ls2 [])) : W p l e room_1 s m args below meth co H locs cells slots Q (F0 m 132 ls []) := by
  obtain ⟨hR, hI, hM⟩ := id h
  have hs := s_vein h hB (sx xs (i + 1)) (sx xs (i + 2)) (sx xs (i + 3)) (sx xs (i + 4)) (sx xs (i + 5)) (sx xs (i + 6))
  have hk : kVein c (sx xs (i + 1)) (sx xs (i + 2)) (sx xs (i + 3)) (sx xs (i + 4)) (sx xs (i + 5)) (sx xs (i + 6)) < 1000 := by unfold kVein; (repeat' split) <;> decide
  refine lv_aload_n S.1 S.2.1 dL_law_132 rfl (lv_at hl 1 rfl) ?_
  refine l_arg S hx hS hl 0 4 rfl rfl (n := 1) (by omega) dL_law_133 dL_law_134 dL_law_136 dL_law_137 dL_law_138 ?_
  refine l_arg S hx hS hl 0 4 rfl rfl (n := 2) (by omega) dL_law_139 dL_law_140 dL_law_142 dL_law_143 dL_law_144 ?_
  refine l_arg S hx hS hl 0 4 rfl rfl (n := 3) (by omega) dL_law_145 dL_law_146 dL_law_148 dL_law_149 dL_law_150 ?_
  refine l_arg S hx hS hl 0 4 rfl rfl (n := 4) (by omega) dL_law_151 dL_law_152 dL_law_154 dL_law_155 dL_law_156 ?_
  refine l_arg S hx hS hl 0 4 rfl rfl (n := 5) (by omega) dL_law_157 dL_law_158 dL_law_160 dL_law_161 dL_law_162 ?_
  refine l_arg6 S hx hS hl 0 4 rfl rfl (by omega) dL_law_163 dL_law_164 dL_law_166 dL_law_168 dL_law_169 ?_
  refine lv_aload_n S.1 S.2.1 dL_law_170 rfl (lv_at hl 3 rfl) ?_
  refine l_wrap (rest := []) (As := [.ref (a 0), .int (zI (sx xs (i + 1))), .int (zI (sx xs (i + 2))), .int (zI (sx xs (i + 3))), .int (zI (sx xs (i + 4))), .int (zI (sx xs (i + 5))), .int (zI (sx xs (i + 6))), .ref o]) S hx (w_vein l D g a o G c hI hst hx.2.2.1.1 hx.2.2.2.1 (sx xs (i + 1)) (sx xs (i + 2)) (sx xs (i + 3)) (sx xs (i + 4)) (sx xs (i + 5)) (sx xs (i + 6)) (sx_I xs (i + 1)) (sx_I xs (i + 2)) (sx_I xs (i + 3)) (sx_I xs (i + 4)) (sx_I xs (i + 5)) (sx_I xs (i + 6)) hB.2) ml_L_74 sm_L_vein cw_L_vein ds_L_vein ⟨Nat.le_of_ble_eq_true rfl, Nat.le_of_ble_eq_true rfl⟩ hP hS rfl hl.1 rfl (Nat.le_of_ble_eq_true rfl) hc dL_law_171 (fun H locs hP hS => ?_)
  have hw : (if kVein c (sx xs (i + 1)) (sx xs (i + 2)) (sx xs (i + 3)) (sx xs (i + 4)) (sx xs (i + 5)) (sx xs (i + 6)) = 0 then LW g a (veinC c (sx xs (i + 1)) (sx xs (i + 2)) (sx xs (i + 3)) (sx xs (i + 4)) (sx xs (i + 5)) (sx xs (i + 6))) o (oU G (c.1 2)) else LW g a c o G) = LW g a (if kVein c (sx xs (i + 1)) (sx xs (i + 2)) (sx xs (i + 3)) (sx xs (i + 4)) (sx xs (i + 5)) (sx xs (i + 6)) = 0 then veinC c (sx xs (i + 1)) (sx xs (i + 2)) (sx xs (i + 3)) (sx xs (i + 4)) (sx xs (i + 5)) (sx xs (i + 6)) else c) o (if kVein c (sx xs (i + 1)) (sx xs (i + 2)) (sx xs (i + 3)) (sx xs (i + 4)) (sx xs (i + 5)) (sx xs (i + 6)) = 0 then oU G (c.1 2) else G) := by split <;> rfl
  rw [hw] at hP
  refine lv_istore (lv' := [(5, .int (zI (kVein c (sx xs (i + 1)) (sx xs (i + 2)) (sx xs (i + 3)) (sx xs (i + 4)) (sx xs (i + 5)) (sx xs (i + 6)) : Nat))), (0, .ref sc), (1, .ref (a 0)), (2, .ref (b 0)), (3, .ref o), (4, .int (zI i))]) S.1 S.2.1 dL_law_174 hl (by decide) rfl (fun ls hl => ?_)
  refine lv_aload_n S.1 S.2.1 dL_law_176 rfl (lv_at hl 3 rfl) ?_
  refine l_arg S hx hS hl 1 5 rfl rfl (n := 1) (by omega) dL_law_177 dL_law_178 dL_law_180 dL_law_181 dL_law_182 ?_
  refine l_arg S hx hS hl 1 5 rfl rfl (n := 2) (by omega) dL_law_183 dL_law_184 dL_law_186 dL_law_187 dL_law_188 ?_
  refine l_arg S hx hS hl 1 5 rfl rfl (n := 3) (by omega) dL_law_189 dL_law_190 dL_law_192 dL_law_193 dL_law_194 ?_
  refine l_arg S hx hS hl 1 5 rfl rfl (n := 4) (by omega) dL_law_195 dL_law_196 dL_law_198 dL_law_199 dL_law_200 ?_
  refine l_arg S hx hS hl 1 5 rfl rfl (n := 5) (by omega) dL_law_201 dL_law_202 dL_law_204 dL_law_205 dL_law_206 ?_
  refine l_arg6 S hx hS hl 1 5 rfl rfl (by omega) dL_law_207 dL_law_208 dL_law_210 dL_law_212 dL_law_213 ?_
  refine l_ref (rest := []) (As := [.int (zI (sx xs (i + 1))), .int (zI (sx xs (i + 2))), .int (zI (sx xs (i + 3))), .int (zI (sx xs (i + 4))), .int (zI (sx xs (i + 5))), .int (zI (sx xs (i + 6)))]) S hx (m_X5_vein l D g b mm hM hx.2.2.1.2 (sx xs (i + 1)) (sx xs (i + 2)) (sx xs (i + 3)) (sx xs (i + 4)) (sx xs (i + 5)) (sx xs (i + 6)) (sx_I xs (i + 1)) (sx_I xs (i + 2)) (sx_I xs (i + 3)) (sx_I xs (i + 4)) (sx_I xs (i + 5)) (sx_I xs (i + 6))) ml_L_79 im_X5_vein se_X5_vein cd_X5_vein ds_X5_vein ⟨Nat.le_of_ble_eq_true rfl, Nat.le_of_ble_eq_true rfl⟩ hP hS rfl hl.1 rfl (Nat.le_of_ble_eq_true rfl) hc dL_law_214 (fun H locs hP hS => ?_)
  refine lv_istore (lv' := [(6, .int (zI (mA (jVein mm (sx xs (i + 1)) (sx xs (i + 2)) (sx xs (i + 3)) (sx xs (i + 4)) (sx xs (i + 5)) (sx xs (i + 6))) ((mLay (mOpn mm (sx xs (i + 5)) (sx xs (i + 6))) (mm.1 3) (20 * (sx xs (i + 2)) + (sx xs (i + 1))) (20 * (sx xs (i + 4)) + (sx xs (i + 3)))).1 3 + 1 - 1)))), (5, .int (zI (kVein c (sx xs (i + 1)) (sx xs (i + 2)) (sx xs (i + 3)) (sx xs (i + 4)) (sx xs (i + 5)) (sx xs (i + 6)) : Nat))), (0, .ref sc), (1, .ref (a 0)), (2, .ref (b 0)), (3, .ref o), (4, .int (zI i))]) S.1 S.2.1 dL_law_217 hl (by decide) rfl (fun ls hl => ?_)
  refine l_tail S hx hs.2.1.2.2 (kd := kVein c (sx xs (i + 1)) (sx xs (i + 2)) (sx xs (i + 3)) (sx xs (i + 4)) (sx xs (i + 5)) (sx xs (i + 6))) (jd := jVein mm (sx xs (i + 1)) (sx xs (i + 2)) (sx xs (i + 3)) (sx xs (i + 4)) (sx xs (i + 5)) (sx xs (i + 6))) (r := c.1 2) (r2 := mA (jVein mm (sx xs (i + 1)) (sx xs (i + 2)) (sx xs (i + 3)) (sx xs (i + 4)) (sx xs (i + 5)) (sx xs (i + 6))) ((mLay (mOpn mm (sx xs (i + 5)) (sx xs (i + 6))) (mm.1 3) (20 * (sx xs (i + 2)) + (sx xs (i + 1))) (20 * (sx xs (i + 4)) + (sx xs (i + 3)))).1 3 + 1 - 1)) hs.2.2.1 hs.1 hk (fun z => by rw [if_pos z]; exact pk_uLs) hs.2.2.2 hl 4 5 1 0 rfl rfl rfl rfl hP hS ⟨Nat.le_of_ble_eq_true rfl, Nat.le_of_ble_eq_true rfl⟩ hc dL_law_219 dL_law_220 dL_law_223 dL_law_225 dL_law_230 dL_law_232 dL_law_235 dL_law_236 dL_law_237 dL_law_238 dL_law_240 dL_law_241 dL_law_242 ?_
  refine z_goto (tgt := 1430) S dL_law_247 (by decide) ?_
  exact next _ _ _ _ _ _ hs.2.1 hP hS (lv_sub hl [2, 3, 4, 5, 6] rfl)
set_option maxHeartbeats 4000000 in
set_option maxRecDepth 100000 in
theorem lc_dowser (S : CallFix p m co cL_law 9 s args AW RL) (hx : LX D g a b o sc L xs s) (hst : l.stackTraces = false) (h : OK2 B c mm) (hB : 1000 ≤ B ∧ B ≤ 900000000) (hi : 0 ≤ i ∧ i + 6 < L) (hl : lv_has ls 9 [(0, .ref sc), (1, .ref (a 0)), (2, .ref (b 0)), (3, .ref o), (4, .int (zI i))]) (hP : va_P D vwCl (LW g a c o G ++ MW g b mm) H) (hS : va_S (fun q => s.heap.size ≤ q) s.heap H locs) (hc : cells + 1 ≤ 1086 ∧ slots + 6 ≤ 15587) (next : ∀ (c2 m2 : CS) (G2 : Nat → Int64) (H2 : Heap) (locs2 : List Loc) (ls2 : Array Slot), OK2 (B + 100000) c2 m2 → va_P D vwCl (LW g a c2 o G2 ++ MW g b m2) H2 → va_S (fun q => s.heap.size ≤ q) s.heap H2 locs2 → lv_has ls2 9 [(0, .ref sc), (1, .ref (a 0)), (2, .ref (b 0)), (3, .ref o), (4, .int (zI i))] → W p l e room_1 s m args below meth co H2 locs2 (cells + 1) (slots + 6) Q (F0 m 1430 ls2 [])) : W p l e room_1 s m args below meth co H locs cells slots Q (F0 m 250 ls []) := by
  obtain ⟨hR, hI, hM⟩ := id h
  have hs := s_dow h hB (sx xs (i + 1)) (sx xs (i + 2))
  have hk : kDow c (sx xs (i + 1)) (sx xs (i + 2)) < 1000 := by unfold kDow; (repeat' split) <;> decide
  refine lv_aload_n S.1 S.2.1 dL_law_250 rfl (lv_at hl 1 rfl) ?_
  refine l_arg S hx hS hl 0 4 rfl rfl (n := 1) (by omega) dL_law_251 dL_law_252 dL_law_254 dL_law_255 dL_law_256 ?_
  refine l_arg S hx hS hl 0 4 rfl rfl (n := 2) (by omega) dL_law_257 dL_law_258 dL_law_260 dL_law_261 dL_law_262 ?_
  refine lv_aload_n S.1 S.2.1 dL_law_263 rfl (lv_at hl 3 rfl) ?_
  refine l_wrap (rest := []) (As := [.ref (a 0), .int (zI (sx xs (i + 1))), .int (zI (sx xs (i + 2))), .ref o]) S hx (w_dowser l D g a o G c hI hst hx.2.2.1.1 hx.2.2.2.1 (sx xs (i + 1)) (sx xs (i + 2)) (sx_I xs (i + 1)) (sx_I xs (i + 2))) ml_L_84 sm_L_dowser cw_L_dowser ds_L_dowser ⟨Nat.le_of_ble_eq_true rfl, Nat.le_of_ble_eq_true rfl⟩ hP hS rfl hl.1 rfl (Nat.le_of_ble_eq_true rfl) hc dL_law_264 (fun H locs hP hS => ?_)
  have hw : (if kDow c (sx xs (i + 1)) (sx xs (i + 2)) = 0 then LW g a (dowC c (sx xs (i + 1)) (sx xs (i + 2))) o (oU G (c.1 3)) else LW g a c o G) = LW g a (if kDow c (sx xs (i + 1)) (sx xs (i + 2)) = 0 then dowC c (sx xs (i + 1)) (sx xs (i + 2)) else c) o (if kDow c (sx xs (i + 1)) (sx xs (i + 2)) = 0 then oU G (c.1 3) else G) := by split <;> rfl
  rw [hw] at hP
  refine lv_istore (lv' := [(5, .int (zI (kDow c (sx xs (i + 1)) (sx xs (i + 2)) : Nat))), (0, .ref sc), (1, .ref (a 0)), (2, .ref (b 0)), (3, .ref o), (4, .int (zI i))]) S.1 S.2.1 dL_law_267 hl (by decide) rfl (fun ls hl => ?_)
  refine lv_aload_n S.1 S.2.1 dL_law_269 rfl (lv_at hl 3 rfl) ?_
  refine l_arg S hx hS hl 1 5 rfl rfl (n := 1) (by omega) dL_law_270 dL_law_271 dL_law_273 dL_law_274 dL_law_275 ?_
  refine l_arg S hx hS hl 1 5 rfl rfl (n := 2) (by omega) dL_law_276 dL_law_277 dL_law_279 dL_law_280 dL_law_281 ?_
  refine l_ref (rest := []) (As := [.int (zI (sx xs (i + 1))), .int (zI (sx xs (i + 2)))]) S hx (m_X5_dowser l D g b mm hM hx.2.2.1.2 (sx xs (i + 1)) (sx xs (i + 2)) (sx_I xs (i + 1)) (sx_I xs (i + 2))) ml_L_87 im_X5_dowser se_X5_dowser cd_X5_dowser ds_X5_dowser ⟨Nat.le_of_ble_eq_true rfl, Nat.le_of_ble_eq_true rfl⟩ hP hS rfl hl.1 rfl (Nat.le_of_ble_eq_true rfl) hc dL_law_282 (fun H locs hP hS => ?_)
  refine lv_istore (lv' := [(6, .int (zI (mA (jDow mm (sx xs (i + 1)) (sx xs (i + 2))) (mm.1 4)))), (5, .int (zI (kDow c (sx xs (i + 1)) (sx xs (i + 2)) : Nat))), (0, .ref sc), (1, .ref (a 0)), (2, .ref (b 0)), (3, .ref o), (4, .int (zI i))]) S.1 S.2.1 dL_law_285 hl (by decide) rfl (fun ls hl => ?_)
  refine l_tail S hx hs.2.1.2.2 (kd := kDow c (sx xs (i + 1)) (sx xs (i + 2))) (jd := jDow mm (sx xs (i + 1)) (sx xs (i + 2))) (r := c.1 3) (r2 := mA (jDow mm (sx xs (i + 1)) (sx xs (i + 2))) (mm.1 4)) hs.2.2.1 hs.1 hk (fun z => by rw [if_pos z]; exact pk_uLs) hs.2.2.2 hl 4 5 1 0 rfl rfl rfl rfl hP hS ⟨Nat.le_of_ble_eq_true rfl, Nat.le_of_ble_eq_true rfl⟩ hc dL_law_287 dL_law_288 dL_law_291 dL_law_293 dL_law_298 dL_law_300 dL_law_303 dL_law_304 dL_law_305 dL_law_306 dL_law_308 dL_law_309 dL_law_310 ?_
  refine z_goto (tgt := 1430) S dL_law_315 (by decide) ?_
  exact next _ _ _ _ _ _ hs.2.1 hP hS (lv_sub hl [2, 3, 4, 5, 6] rfl)
set_option maxHeartbeats 4000000 in
set_option maxRecDepth 100000 in
theorem lc_setMark (S : CallFix p m co cL_law 9 s args AW RL) (hx : LX D g a b o sc L xs s) (hst : l.stackTraces = false) (h : OK2 B c mm) (hB : 1000 ≤ B ∧ B ≤ 900000000) (hi : 0 ≤ i ∧ i + 6 < L) (hl : lv_has ls 9 [(0, .ref sc), (1, .ref (a 0)), (2, .ref (b 0)), (3, .ref o), (4, .int (zI i))]) (hP : va_P D vwCl (LW g a c o G ++ MW g b mm) H) (hS : va_S (fun q => s.heap.size ≤ q) s.heap H locs) (hc : cells + 1 ≤ 1086 ∧ slots + 6 ≤ 15587) (next : ∀ (c2 m2 : CS) (G2 : Nat → Int64) (H2 : Heap) (locs2 : List Loc) (ls2 : Array Slot), OK2 (B + 100000) c2 m2 → va_P D vwCl (LW g a c2 o G2 ++ MW g b m2) H2 → va_S (fun q => s.heap.size ≤ q) s.heap H2 locs2 → lv_has ls2 9 [(0, .ref sc), (1, .ref (a 0)), (2, .ref (b 0)), (3, .ref o), (4, .int (zI i))] → W p l e room_1 s m args below meth co H2 locs2 (cells + 1) (slots + 6) Q (F0 m 1430 ls2 [])) : W p l e room_1 s m args below meth co H locs cells slots Q (F0 m 318 ls []) := by
  obtain ⟨hR, hI, hM⟩ := id h
  have hs := s_mark h hB (sx xs (i + 1))
  have hk : kMark (sx xs (i + 1)) < 1000 := by unfold kMark; (repeat' split) <;> decide
  refine lv_aload_n S.1 S.2.1 dL_law_318 rfl (lv_at hl 1 rfl) ?_
  refine l_arg S hx hS hl 0 4 rfl rfl (n := 1) (by omega) dL_law_319 dL_law_320 dL_law_322 dL_law_323 dL_law_324 ?_
  refine lv_aload_n S.1 S.2.1 dL_law_325 rfl (lv_at hl 3 rfl) ?_
  refine l_wrap (rest := []) (As := [.ref (a 0), .int (zI (sx xs (i + 1))), .ref o]) S hx (w_setMark l D g a o G c hI hst hx.2.2.1.1 hx.2.2.2.1 (sx xs (i + 1)) (sx_I xs (i + 1))) ml_L_88 sm_L_setMark cw_L_setMark ds_L_setMark ⟨Nat.le_of_ble_eq_true rfl, Nat.le_of_ble_eq_true rfl⟩ hP hS rfl hl.1 rfl (Nat.le_of_ble_eq_true rfl) hc dL_law_326 (fun H locs hP hS => ?_)
  have hw : (if kMark (sx xs (i + 1)) = 0 then LW g a (sS c 0 (sx xs (i + 1))) o (oU G (c.1 0)) else LW g a c o G) = LW g a (if kMark (sx xs (i + 1)) = 0 then sS c 0 (sx xs (i + 1)) else c) o (if kMark (sx xs (i + 1)) = 0 then oU G (c.1 0) else G) := by split <;> rfl
  rw [hw] at hP
  refine lv_istore (lv' := [(5, .int (zI (kMark (sx xs (i + 1)) : Nat))), (0, .ref sc), (1, .ref (a 0)), (2, .ref (b 0)), (3, .ref o), (4, .int (zI i))]) S.1 S.2.1 dL_law_329 hl (by decide) rfl (fun ls hl => ?_)
  refine lv_aload_n S.1 S.2.1 dL_law_331 rfl (lv_at hl 3 rfl) ?_
  refine l_arg S hx hS hl 1 5 rfl rfl (n := 1) (by omega) dL_law_332 dL_law_333 dL_law_335 dL_law_336 dL_law_337 ?_
  refine l_ref (rest := []) (As := [.int (zI (sx xs (i + 1)))]) S hx (m_X5_setMark l D g b mm hM hx.2.2.1.2 (sx xs (i + 1)) (sx_I xs (i + 1))) ml_L_91 im_X5_setMark se_X5_setMark cd_X5_setMark ds_X5_setMark ⟨Nat.le_of_ble_eq_true rfl, Nat.le_of_ble_eq_true rfl⟩ hP hS rfl hl.1 rfl (Nat.le_of_ble_eq_true rfl) hc dL_law_338 (fun H locs hP hS => ?_)
  refine lv_istore (lv' := [(6, .int (zI (mA (jMark (sx xs (i + 1))) (mm.1 1)))), (5, .int (zI (kMark (sx xs (i + 1)) : Nat))), (0, .ref sc), (1, .ref (a 0)), (2, .ref (b 0)), (3, .ref o), (4, .int (zI i))]) S.1 S.2.1 dL_law_341 hl (by decide) rfl (fun ls hl => ?_)
  refine l_tail S hx hs.2.1.2.2 (kd := kMark (sx xs (i + 1))) (jd := jMark (sx xs (i + 1))) (r := c.1 0) (r2 := mA (jMark (sx xs (i + 1))) (mm.1 1)) hs.2.2.1 hs.1 hk (fun z => by rw [if_pos z]; exact pk_uLs) hs.2.2.2 hl 4 5 1 0 rfl rfl rfl rfl hP hS ⟨Nat.le_of_ble_eq_true rfl, Nat.le_of_ble_eq_true rfl⟩ hc dL_law_343 dL_law_344 dL_law_347 dL_law_349 dL_law_354 dL_law_356 dL_law_359 dL_law_360 dL_law_361 dL_law_362 dL_law_364 dL_law_365 dL_law_366 ?_
  refine z_goto (tgt := 1430) S dL_law_371 (by decide) ?_
  exact next _ _ _ _ _ _ hs.2.1 hP hS (lv_sub hl [2, 3, 4, 5, 6] rfl)
set_option maxHeartbeats 4000000 in
set_option maxRecDepth 100000 in
theorem lc_walk (S : CallFix p m co cL_law 9 s args AW RL) (hx : LX D g a b o sc L xs s) (hst : l.stackTraces = false) (h : OK2 B c mm) (hB : 1000 ≤ B ∧ B ≤ 900000000) (hi : 0 ≤ i ∧ i + 6 < L) (hl : lv_has ls 9 [(0, .ref sc), (1, .ref (a 0)), (2, .ref (b 0)), (3, .ref o), (4, .int (zI i))]) (hP : va_P D vwCl (LW g a c o G ++ MW g b mm) H) (hS : va_S (fun q => s.heap.size ≤ q) s.heap H locs) (hc : cells + 1 ≤ 1086 ∧ slots + 6 ≤ 15587) (next : ∀ (c2 m2 : CS) (G2 : Nat → Int64) (H2 : Heap) (locs2 : List Loc) (ls2 : Array Slot), OK2 (B + 100000) c2 m2 → va_P D vwCl (LW g a c2 o G2 ++ MW g b m2) H2 → va_S (fun q => s.heap.size ≤ q) s.heap H2 locs2 → lv_has ls2 9 [(0, .ref sc), (1, .ref (a 0)), (2, .ref (b 0)), (3, .ref o), (4, .int (zI i))] → W p l e room_1 s m args below meth co H2 locs2 (cells + 1) (slots + 6) Q (F0 m 1430 ls2 [])) : W p l e room_1 s m args below meth co H locs cells slots Q (F0 m 374 ls []) := by
  obtain ⟨hR, hI, hM⟩ := id h
  have hs := s_walk h hB (sx xs (i + 1)) (sx xs (i + 2)) (sx xs (i + 3)) (sx xs (i + 4)) (sx xs (i + 5))
  have hk : kWalk c (sx xs (i + 1)) (sx xs (i + 2)) (sx xs (i + 3)) (sx xs (i + 4)) (sx xs (i + 5)) < 1000 := by unfold kWalk; (repeat' split) <;> decide
  refine lv_aload_n S.1 S.2.1 dL_law_374 rfl (lv_at hl 1 rfl) ?_
  refine l_arg S hx hS hl 0 4 rfl rfl (n := 1) (by omega) dL_law_375 dL_law_376 dL_law_378 dL_law_379 dL_law_380 ?_
  refine l_arg S hx hS hl 0 4 rfl rfl (n := 2) (by omega) dL_law_381 dL_law_382 dL_law_384 dL_law_385 dL_law_386 ?_
  refine l_arg S hx hS hl 0 4 rfl rfl (n := 3) (by omega) dL_law_387 dL_law_388 dL_law_390 dL_law_391 dL_law_392 ?_
  refine l_arg S hx hS hl 0 4 rfl rfl (n := 4) (by omega) dL_law_393 dL_law_394 dL_law_396 dL_law_397 dL_law_398 ?_
  refine l_arg S hx hS hl 0 4 rfl rfl (n := 5) (by omega) dL_law_399 dL_law_400 dL_law_402 dL_law_403 dL_law_404 ?_
  refine lv_aload_n S.1 S.2.1 dL_law_405 rfl (lv_at hl 3 rfl) ?_
  refine l_wrap (rest := []) (As := [.ref (a 0), .int (zI (sx xs (i + 1))), .int (zI (sx xs (i + 2))), .int (zI (sx xs (i + 3))), .int (zI (sx xs (i + 4))), .int (zI (sx xs (i + 5))), .ref o]) S hx (w_walk l D g a o G c hI hst hx.2.2.1.1 hx.2.2.2.1 (sx xs (i + 1)) (sx xs (i + 2)) (sx xs (i + 3)) (sx xs (i + 4)) (sx xs (i + 5)) (sx_I xs (i + 1)) (sx_I xs (i + 2)) (sx_I xs (i + 3)) (sx_I xs (i + 4)) (sx_I xs (i + 5))) ml_L_92 sm_L_walk cw_L_walk ds_L_walk ⟨Nat.le_of_ble_eq_true rfl, Nat.le_of_ble_eq_true rfl⟩ hP hS rfl hl.1 rfl (Nat.le_of_ble_eq_true rfl) hc dL_law_406 (fun H locs hP hS => ?_)
  have hw : (if kWalk c (sx xs (i + 1)) (sx xs (i + 2)) (sx xs (i + 3)) (sx xs (i + 4)) (sx xs (i + 5)) = 0 then LW g a (walkC c (sx xs (i + 1)) (sx xs (i + 2)) (sx xs (i + 3)) (sx xs (i + 4)) (sx xs (i + 5))) o (oU G (walkR c (sx xs (i + 1)) (sx xs (i + 2)) (sx xs (i + 3)) (sx xs (i + 4)) (sx xs (i + 5)))) else LW g a c o G) = LW g a (if kWalk c (sx xs (i + 1)) (sx xs (i + 2)) (sx xs (i + 3)) (sx xs (i + 4)) (sx xs (i + 5)) = 0 then walkC c (sx xs (i + 1)) (sx xs (i + 2)) (sx xs (i + 3)) (sx xs (i + 4)) (sx xs (i + 5)) else c) o (if kWalk c (sx xs (i + 1)) (sx xs (i + 2)) (sx xs (i + 3)) (sx xs (i + 4)) (sx xs (i + 5)) = 0 then oU G (walkR c (sx xs (i + 1)) (sx xs (i + 2)) (sx xs (i + 3)) (sx xs (i + 4)) (sx xs (i + 5))) else G) := by split <;> rfl
  rw [hw] at hP
  refine lv_istore (lv' := [(5, .int (zI (kWalk c (sx xs (i + 1)) (sx xs (i + 2)) (sx xs (i + 3)) (sx xs (i + 4)) (sx xs (i + 5)) : Nat))), (0, .ref sc), (1, .ref (a 0)), (2, .ref (b 0)), (3, .ref o), (4, .int (zI i))]) S.1 S.2.1 dL_law_409 hl (by decide) rfl (fun ls hl => ?_)
  refine lv_aload_n S.1 S.2.1 dL_law_411 rfl (lv_at hl 3 rfl) ?_
  refine l_arg S hx hS hl 1 5 rfl rfl (n := 1) (by omega) dL_law_412 dL_law_413 dL_law_415 dL_law_416 dL_law_417 ?_
  refine l_arg S hx hS hl 1 5 rfl rfl (n := 2) (by omega) dL_law_418 dL_law_419 dL_law_421 dL_law_422 dL_law_423 ?_
  refine l_arg S hx hS hl 1 5 rfl rfl (n := 3) (by omega) dL_law_424 dL_law_425 dL_law_427 dL_law_428 dL_law_429 ?_
  refine l_arg S hx hS hl 1 5 rfl rfl (n := 4) (by omega) dL_law_430 dL_law_431 dL_law_433 dL_law_434 dL_law_435 ?_
  refine l_arg S hx hS hl 1 5 rfl rfl (n := 5) (by omega) dL_law_436 dL_law_437 dL_law_439 dL_law_440 dL_law_441 ?_
  refine l_ref (rest := []) (As := [.int (zI (sx xs (i + 1))), .int (zI (sx xs (i + 2))), .int (zI (sx xs (i + 3))), .int (zI (sx xs (i + 4))), .int (zI (sx xs (i + 5)))]) S hx (m_X5_walk l D g b mm hM hx.2.2.1.2 (sx xs (i + 1)) (sx xs (i + 2)) (sx xs (i + 3)) (sx xs (i + 4)) (sx xs (i + 5)) (sx_I xs (i + 1)) (sx_I xs (i + 2)) (sx_I xs (i + 3)) (sx_I xs (i + 4)) (sx_I xs (i + 5))) ml_L_95 im_X5_walk se_X5_walk cd_X5_walk ds_X5_walk ⟨Nat.le_of_ble_eq_true rfl, Nat.le_of_ble_eq_true rfl⟩ hP hS rfl hl.1 rfl (Nat.le_of_ble_eq_true rfl) hc dL_law_442 (fun H locs hP hS => ?_)
  refine lv_istore (lv' := [(6, .int (zI (mA (jWalk mm (sx xs (i + 1)) (sx xs (i + 2)) (sx xs (i + 3)) (sx xs (i + 4)) (sx xs (i + 5))) (mWkR mm (sx xs (i + 1)) (sx xs (i + 2)) (sx xs (i + 3)) (sx xs (i + 4)) (sx xs (i + 5)))))), (5, .int (zI (kWalk c (sx xs (i + 1)) (sx xs (i + 2)) (sx xs (i + 3)) (sx xs (i + 4)) (sx xs (i + 5)) : Nat))), (0, .ref sc), (1, .ref (a 0)), (2, .ref (b 0)), (3, .ref o), (4, .int (zI i))]) S.1 S.2.1 dL_law_445 hl (by decide) rfl (fun ls hl => ?_)
  refine l_tail S hx hs.2.1.2.2 (kd := kWalk c (sx xs (i + 1)) (sx xs (i + 2)) (sx xs (i + 3)) (sx xs (i + 4)) (sx xs (i + 5))) (jd := jWalk mm (sx xs (i + 1)) (sx xs (i + 2)) (sx xs (i + 3)) (sx xs (i + 4)) (sx xs (i + 5))) (r := walkR c (sx xs (i + 1)) (sx xs (i + 2)) (sx xs (i + 3)) (sx xs (i + 4)) (sx xs (i + 5))) (r2 := mA (jWalk mm (sx xs (i + 1)) (sx xs (i + 2)) (sx xs (i + 3)) (sx xs (i + 4)) (sx xs (i + 5))) (mWkR mm (sx xs (i + 1)) (sx xs (i + 2)) (sx xs (i + 3)) (sx xs (i + 4)) (sx xs (i + 5)))) hs.2.2.1 hs.1 hk (fun z => by rw [if_pos z]; exact pk_uLs) hs.2.2.2 hl 4 5 1 0 rfl rfl rfl rfl hP hS ⟨Nat.le_of_ble_eq_true rfl, Nat.le_of_ble_eq_true rfl⟩ hc dL_law_447 dL_law_448 dL_law_451 dL_law_453 dL_law_458 dL_law_460 dL_law_463 dL_law_464 dL_law_465 dL_law_466 dL_law_468 dL_law_469 dL_law_470 ?_
  refine z_goto (tgt := 1430) S dL_law_475 (by decide) ?_
  exact next _ _ _ _ _ _ hs.2.1 hP hS (lv_sub hl [2, 3, 4, 5, 6] rfl)
set_option maxHeartbeats 4000000 in
set_option maxRecDepth 100000 in
theorem lc_pull (S : CallFix p m co cL_law 9 s args AW RL) (hx : LX D g a b o sc L xs s) (hst : l.stackTraces = false) (h : OK2 B c mm) (hB : 1000 ≤ B ∧ B ≤ 900000000) (hi : 0 ≤ i ∧ i + 6 < L) (hl : lv_has ls 9 [(0, .ref sc), (1, .ref (a 0)), (2, .ref (b 0)), (3, .ref o), (4, .int (zI i))]) (hP : va_P D vwCl (LW g a c o G ++ MW g b mm) H) (hS : va_S (fun q => s.heap.size ≤ q) s.heap H locs) (hc : cells + 1 ≤ 1086 ∧ slots + 6 ≤ 15587) (next : ∀ (c2 m2 : CS) (G2 : Nat → Int64) (H2 : Heap) (locs2 : List Loc) (ls2 : Array Slot), OK2 (B + 100000) c2 m2 → va_P D vwCl (LW g a c2 o G2 ++ MW g b m2) H2 → va_S (fun q => s.heap.size ≤ q) s.heap H2 locs2 → lv_has ls2 9 [(0, .ref sc), (1, .ref (a 0)), (2, .ref (b 0)), (3, .ref o), (4, .int (zI i))] → W p l e room_1 s m args below meth co H2 locs2 (cells + 1) (slots + 6) Q (F0 m 1430 ls2 [])) : W p l e room_1 s m args below meth co H locs cells slots Q (F0 m 478 ls []) := by
  obtain ⟨hR, hI, hM⟩ := id h
  have hs := s_pull h hB (sx xs (i + 1)) (sx xs (i + 2))
  have hk : kPull c (sx xs (i + 1)) (sx xs (i + 2)) < 1000 := by unfold kPull; (repeat' split) <;> decide
  refine lv_aload_n S.1 S.2.1 dL_law_478 rfl (lv_at hl 1 rfl) ?_
  refine l_arg S hx hS hl 0 4 rfl rfl (n := 1) (by omega) dL_law_479 dL_law_480 dL_law_482 dL_law_483 dL_law_484 ?_
  refine l_arg S hx hS hl 0 4 rfl rfl (n := 2) (by omega) dL_law_485 dL_law_486 dL_law_488 dL_law_489 dL_law_490 ?_
  refine lv_aload_n S.1 S.2.1 dL_law_491 rfl (lv_at hl 3 rfl) ?_
  refine l_wrap (rest := []) (As := [.ref (a 0), .int (zI (sx xs (i + 1))), .int (zI (sx xs (i + 2))), .ref o]) S hx (w_pull l D g a o G c hI hst hx.2.2.1.1 hx.2.2.2.1 (sx xs (i + 1)) (sx xs (i + 2)) (sx_I xs (i + 1)) (sx_I xs (i + 2))) ml_L_96 sm_L_pull cw_L_pull ds_L_pull ⟨Nat.le_of_ble_eq_true rfl, Nat.le_of_ble_eq_true rfl⟩ hP hS rfl hl.1 rfl (Nat.le_of_ble_eq_true rfl) hc dL_law_492 (fun H locs hP hS => ?_)
  have hw : (if kPull c (sx xs (i + 1)) (sx xs (i + 2)) = 0 then LW g a (pullC c (sx xs (i + 1)) (sx xs (i + 2))) o (oU G (c.2 8 ((sx xs (i + 2)) * 20 + (sx xs (i + 1))))) else LW g a c o G) = LW g a (if kPull c (sx xs (i + 1)) (sx xs (i + 2)) = 0 then pullC c (sx xs (i + 1)) (sx xs (i + 2)) else c) o (if kPull c (sx xs (i + 1)) (sx xs (i + 2)) = 0 then oU G (c.2 8 ((sx xs (i + 2)) * 20 + (sx xs (i + 1)))) else G) := by split <;> rfl
  rw [hw] at hP
  refine lv_istore (lv' := [(5, .int (zI (kPull c (sx xs (i + 1)) (sx xs (i + 2)) : Nat))), (0, .ref sc), (1, .ref (a 0)), (2, .ref (b 0)), (3, .ref o), (4, .int (zI i))]) S.1 S.2.1 dL_law_495 hl (by decide) rfl (fun ls hl => ?_)
  refine lv_aload_n S.1 S.2.1 dL_law_497 rfl (lv_at hl 3 rfl) ?_
  refine l_arg S hx hS hl 1 5 rfl rfl (n := 1) (by omega) dL_law_498 dL_law_499 dL_law_501 dL_law_502 dL_law_503 ?_
  refine l_arg S hx hS hl 1 5 rfl rfl (n := 2) (by omega) dL_law_504 dL_law_505 dL_law_507 dL_law_508 dL_law_509 ?_
  refine l_ref (rest := []) (As := [.int (zI (sx xs (i + 1))), .int (zI (sx xs (i + 2)))]) S hx (m_X5_pull l D g b mm hM hx.2.2.1.2 (sx xs (i + 1)) (sx xs (i + 2)) (sx_I xs (i + 1)) (sx_I xs (i + 2))) ml_L_98 im_X5_pull se_X5_pull cd_X5_pull ds_X5_pull ⟨Nat.le_of_ble_eq_true rfl, Nat.le_of_ble_eq_true rfl⟩ hP hS rfl hl.1 rfl (Nat.le_of_ble_eq_true rfl) hc dL_law_510 (fun H locs hP hS => ?_)
  refine lv_istore (lv' := [(6, .int (zI (mA (jPull mm (sx xs (i + 1)) (sx xs (i + 2))) (mm.2 8 (20 * (sx xs (i + 2)) + (sx xs (i + 1))) - 1)))), (5, .int (zI (kPull c (sx xs (i + 1)) (sx xs (i + 2)) : Nat))), (0, .ref sc), (1, .ref (a 0)), (2, .ref (b 0)), (3, .ref o), (4, .int (zI i))]) S.1 S.2.1 dL_law_513 hl (by decide) rfl (fun ls hl => ?_)
  refine l_tail S hx hs.2.1.2.2 (kd := kPull c (sx xs (i + 1)) (sx xs (i + 2))) (jd := jPull mm (sx xs (i + 1)) (sx xs (i + 2))) (r := c.2 8 ((sx xs (i + 2)) * 20 + (sx xs (i + 1)))) (r2 := mA (jPull mm (sx xs (i + 1)) (sx xs (i + 2))) (mm.2 8 (20 * (sx xs (i + 2)) + (sx xs (i + 1))) - 1)) hs.2.2.1 hs.1 hk (fun z => by rw [if_pos z]; exact pk_uLs) hs.2.2.2 hl 4 5 1 0 rfl rfl rfl rfl hP hS ⟨Nat.le_of_ble_eq_true rfl, Nat.le_of_ble_eq_true rfl⟩ hc dL_law_515 dL_law_516 dL_law_519 dL_law_521 dL_law_526 dL_law_528 dL_law_531 dL_law_532 dL_law_533 dL_law_534 dL_law_536 dL_law_537 dL_law_538 ?_
  refine z_goto (tgt := 1430) S dL_law_543 (by decide) ?_
  exact next _ _ _ _ _ _ hs.2.1 hP hS (lv_sub hl [2, 3, 4, 5, 6] rfl)
set_option maxHeartbeats 4000000 in
set_option maxRecDepth 100000 in
theorem lc_pit (S : CallFix p m co cL_law 9 s args AW RL) (hx : LX D g a b o sc L xs s) (hst : l.stackTraces = false) (h : OK2 B c mm) (hB : 1000 ≤ B ∧ B ≤ 900000000) (hi : 0 ≤ i ∧ i + 6 < L) (hl : lv_has ls 9 [(0, .ref sc), (1, .ref (a 0)), (2, .ref (b 0)), (3, .ref o), (4, .int (zI i))]) (hP : va_P D vwCl (LW g a c o G ++ MW g b mm) H) (hS : va_S (fun q => s.heap.size ≤ q) s.heap H locs) (hc : cells + 1 ≤ 1086 ∧ slots + 6 ≤ 15587) (next : ∀ (c2 m2 : CS) (G2 : Nat → Int64) (H2 : Heap) (locs2 : List Loc) (ls2 : Array Slot), OK2 (B + 100000) c2 m2 → va_P D vwCl (LW g a c2 o G2 ++ MW g b m2) H2 → va_S (fun q => s.heap.size ≤ q) s.heap H2 locs2 → lv_has ls2 9 [(0, .ref sc), (1, .ref (a 0)), (2, .ref (b 0)), (3, .ref o), (4, .int (zI i))] → W p l e room_1 s m args below meth co H2 locs2 (cells + 1) (slots + 6) Q (F0 m 1430 ls2 [])) : W p l e room_1 s m args below meth co H locs cells slots Q (F0 m 546 ls []) := by
  obtain ⟨hR, hI, hM⟩ := id h
  have hs := s_pit h hB (sx xs (i + 1)) (sx xs (i + 2))
  have hk : kPit c (sx xs (i + 1)) (sx xs (i + 2)) < 1000 := by unfold kPit; (repeat' split) <;> decide
  refine lv_aload_n S.1 S.2.1 dL_law_546 rfl (lv_at hl 1 rfl) ?_
  refine l_arg S hx hS hl 0 4 rfl rfl (n := 1) (by omega) dL_law_547 dL_law_548 dL_law_550 dL_law_551 dL_law_552 ?_
  refine l_arg S hx hS hl 0 4 rfl rfl (n := 2) (by omega) dL_law_553 dL_law_554 dL_law_556 dL_law_557 dL_law_558 ?_
  refine lv_aload_n S.1 S.2.1 dL_law_559 rfl (lv_at hl 3 rfl) ?_
  refine l_wrap (rest := []) (As := [.ref (a 0), .int (zI (sx xs (i + 1))), .int (zI (sx xs (i + 2))), .ref o]) S hx (w_pit l D g a o G c hI hst hx.2.2.1.1 hx.2.2.2.1 (sx xs (i + 1)) (sx xs (i + 2)) (sx_I xs (i + 1)) (sx_I xs (i + 2))) ml_L_99 sm_L_pit cw_L_pit ds_L_pit ⟨Nat.le_of_ble_eq_true rfl, Nat.le_of_ble_eq_true rfl⟩ hP hS rfl hl.1 rfl (Nat.le_of_ble_eq_true rfl) hc dL_law_560 (fun H locs hP hS => ?_)
  have hw : (if kPit c (sx xs (i + 1)) (sx xs (i + 2)) = 0 then LW g a (pitC c (sx xs (i + 1)) (sx xs (i + 2))) o (oU G (c.1 5)) else LW g a c o G) = LW g a (if kPit c (sx xs (i + 1)) (sx xs (i + 2)) = 0 then pitC c (sx xs (i + 1)) (sx xs (i + 2)) else c) o (if kPit c (sx xs (i + 1)) (sx xs (i + 2)) = 0 then oU G (c.1 5) else G) := by split <;> rfl
  rw [hw] at hP
  refine lv_istore (lv' := [(5, .int (zI (kPit c (sx xs (i + 1)) (sx xs (i + 2)) : Nat))), (0, .ref sc), (1, .ref (a 0)), (2, .ref (b 0)), (3, .ref o), (4, .int (zI i))]) S.1 S.2.1 dL_law_563 hl (by decide) rfl (fun ls hl => ?_)
  refine lv_aload_n S.1 S.2.1 dL_law_565 rfl (lv_at hl 3 rfl) ?_
  refine l_arg S hx hS hl 1 5 rfl rfl (n := 1) (by omega) dL_law_566 dL_law_567 dL_law_569 dL_law_570 dL_law_571 ?_
  refine l_arg S hx hS hl 1 5 rfl rfl (n := 2) (by omega) dL_law_572 dL_law_573 dL_law_575 dL_law_576 dL_law_577 ?_
  refine l_ref (rest := []) (As := [.int (zI (sx xs (i + 1))), .int (zI (sx xs (i + 2)))]) S hx (m_X5_pit l D g b mm hM hx.2.2.1.2 (sx xs (i + 1)) (sx xs (i + 2)) (sx_I xs (i + 1)) (sx_I xs (i + 2))) ml_L_101 im_X5_pit se_X5_pit cd_X5_pit ds_X5_pit ⟨Nat.le_of_ble_eq_true rfl, Nat.le_of_ble_eq_true rfl⟩ hP hS rfl hl.1 rfl (Nat.le_of_ble_eq_true rfl) hc dL_law_578 (fun H locs hP hS => ?_)
  refine lv_istore (lv' := [(6, .int (zI (mA (jPit mm (sx xs (i + 1)) (sx xs (i + 2))) (mm.1 6 + 1 - 1)))), (5, .int (zI (kPit c (sx xs (i + 1)) (sx xs (i + 2)) : Nat))), (0, .ref sc), (1, .ref (a 0)), (2, .ref (b 0)), (3, .ref o), (4, .int (zI i))]) S.1 S.2.1 dL_law_581 hl (by decide) rfl (fun ls hl => ?_)
  refine l_tail S hx hs.2.1.2.2 (kd := kPit c (sx xs (i + 1)) (sx xs (i + 2))) (jd := jPit mm (sx xs (i + 1)) (sx xs (i + 2))) (r := c.1 5) (r2 := mA (jPit mm (sx xs (i + 1)) (sx xs (i + 2))) (mm.1 6 + 1 - 1)) hs.2.2.1 hs.1 hk (fun z => by rw [if_pos z]; exact pk_uLs) hs.2.2.2 hl 4 5 1 0 rfl rfl rfl rfl hP hS ⟨Nat.le_of_ble_eq_true rfl, Nat.le_of_ble_eq_true rfl⟩ hc dL_law_583 dL_law_584 dL_law_587 dL_law_589 dL_law_594 dL_law_596 dL_law_599 dL_law_600 dL_law_601 dL_law_602 dL_law_604 dL_law_605 dL_law_606 ?_
  refine z_goto (tgt := 1430) S dL_law_611 (by decide) ?_
  exact next _ _ _ _ _ _ hs.2.1 hP hS (lv_sub hl [2, 3, 4, 5, 6] rfl)
set_option maxHeartbeats 4000000 in
set_option maxRecDepth 100000 in
theorem lc_bet (S : CallFix p m co cL_law 9 s args AW RL) (hx : LX D g a b o sc L xs s) (hst : l.stackTraces = false) (h : OK2 B c mm) (hB : 1000 ≤ B ∧ B ≤ 900000000) (hi : 0 ≤ i ∧ i + 6 < L) (hl : lv_has ls 9 [(0, .ref sc), (1, .ref (a 0)), (2, .ref (b 0)), (3, .ref o), (4, .int (zI i))]) (hP : va_P D vwCl (LW g a c o G ++ MW g b mm) H) (hS : va_S (fun q => s.heap.size ≤ q) s.heap H locs) (hc : cells + 1 ≤ 1086 ∧ slots + 6 ≤ 15587) (next : ∀ (c2 m2 : CS) (G2 : Nat → Int64) (H2 : Heap) (locs2 : List Loc) (ls2 : Array Slot), OK2 (B + 100000) c2 m2 → va_P D vwCl (LW g a c2 o G2 ++ MW g b m2) H2 → va_S (fun q => s.heap.size ≤ q) s.heap H2 locs2 → lv_has ls2 9 [(0, .ref sc), (1, .ref (a 0)), (2, .ref (b 0)), (3, .ref o), (4, .int (zI i))] → W p l e room_1 s m args below meth co H2 locs2 (cells + 1) (slots + 6) Q (F0 m 1430 ls2 [])) : W p l e room_1 s m args below meth co H locs cells slots Q (F0 m 614 ls []) := by
  obtain ⟨hR, hI, hM⟩ := id h
  obtain ⟨fl9, hf9⟩ : ∃ f : Int, f = b01 (sx xs (i + 4) ≠ 0) := ⟨_, rfl⟩
  have hf : 0 ≤ fl9 ∧ fl9 ≤ 1 := by rw [hf9]; exact b01_01 _
  have hfI : I32 fl9 := by omega
  have hs := s_bet h hB (sx xs (i + 1)) (sx xs (i + 2)) (sx xs (i + 3)) fl9 hf
  have hk : kBet c (sx xs (i + 1)) (sx xs (i + 2)) (sx xs (i + 3)) < 1000 := by unfold kBet; (repeat' split) <;> decide
  refine lv_aload_n S.1 S.2.1 dL_law_614 rfl (lv_at hl 1 rfl) ?_
  refine l_arg S hx hS hl 0 4 rfl rfl (n := 1) (by omega) dL_law_615 dL_law_616 dL_law_618 dL_law_619 dL_law_620 ?_
  refine l_arg S hx hS hl 0 4 rfl rfl (n := 2) (by omega) dL_law_621 dL_law_622 dL_law_624 dL_law_625 dL_law_626 ?_
  refine l_arg S hx hS hl 0 4 rfl rfl (n := 3) (by omega) dL_law_627 dL_law_628 dL_law_630 dL_law_631 dL_law_632 ?_
  refine l_arg S hx hS hl 0 4 rfl rfl (n := 4) (by omega) dL_law_633 dL_law_634 dL_law_636 dL_law_637 dL_law_638 ?_
  refine l_flag S (sx_I xs (i + 4)) dL_law_639 dL_law_642 dL_law_643 dL_law_646 ?_
  rw [← hf9]
  refine lv_aload_n S.1 S.2.1 dL_law_647 rfl (lv_at hl 3 rfl) ?_
  refine l_wrap (rest := []) (As := [.ref (a 0), .int (zI (sx xs (i + 1))), .int (zI (sx xs (i + 2))), .int (zI (sx xs (i + 3))), .int (zI fl9), .ref o]) S hx (w_bet l D g a o G c hI hst hx.2.2.1.1 hx.2.2.2.1 (sx xs (i + 1)) (sx xs (i + 2)) (sx xs (i + 3)) fl9 (sx_I xs (i + 1)) (sx_I xs (i + 2)) (sx_I xs (i + 3)) hfI hf) ml_L_102 sm_L_bet cw_L_bet ds_L_bet ⟨Nat.le_of_ble_eq_true rfl, Nat.le_of_ble_eq_true rfl⟩ hP hS rfl hl.1 rfl (Nat.le_of_ble_eq_true rfl) hc dL_law_648 (fun H locs hP hS => ?_)
  have hw : (if kBet c (sx xs (i + 1)) (sx xs (i + 2)) (sx xs (i + 3)) = 0 then LW g a (betC c (sx xs (i + 1)) (sx xs (i + 2)) (sx xs (i + 3)) fl9) o (oU G (c.2 7 (sx xs (i + 1)) - (sx xs (i + 3)))) else LW g a c o G) = LW g a (if kBet c (sx xs (i + 1)) (sx xs (i + 2)) (sx xs (i + 3)) = 0 then betC c (sx xs (i + 1)) (sx xs (i + 2)) (sx xs (i + 3)) fl9 else c) o (if kBet c (sx xs (i + 1)) (sx xs (i + 2)) (sx xs (i + 3)) = 0 then oU G (c.2 7 (sx xs (i + 1)) - (sx xs (i + 3))) else G) := by split <;> rfl
  rw [hw] at hP
  refine lv_istore (lv' := [(5, .int (zI (kBet c (sx xs (i + 1)) (sx xs (i + 2)) (sx xs (i + 3)) : Nat))), (0, .ref sc), (1, .ref (a 0)), (2, .ref (b 0)), (3, .ref o), (4, .int (zI i))]) S.1 S.2.1 dL_law_651 hl (by decide) rfl (fun ls hl => ?_)
  refine lv_aload_n S.1 S.2.1 dL_law_653 rfl (lv_at hl 3 rfl) ?_
  refine l_arg S hx hS hl 1 5 rfl rfl (n := 1) (by omega) dL_law_654 dL_law_655 dL_law_657 dL_law_658 dL_law_659 ?_
  refine l_arg S hx hS hl 1 5 rfl rfl (n := 2) (by omega) dL_law_660 dL_law_661 dL_law_663 dL_law_664 dL_law_665 ?_
  refine l_arg S hx hS hl 1 5 rfl rfl (n := 3) (by omega) dL_law_666 dL_law_667 dL_law_669 dL_law_670 dL_law_671 ?_
  refine l_arg S hx hS hl 1 5 rfl rfl (n := 4) (by omega) dL_law_672 dL_law_673 dL_law_675 dL_law_676 dL_law_677 ?_
  refine l_flag S (sx_I xs (i + 4)) dL_law_678 dL_law_681 dL_law_682 dL_law_685 ?_
  rw [← hf9]
  refine l_ref (rest := []) (As := [.int (zI (sx xs (i + 1))), .int (zI (sx xs (i + 2))), .int (zI (sx xs (i + 3))), .int (zI fl9)]) S hx (m_X5_bet l D g b mm hM hx.2.2.1.2 (sx xs (i + 1)) (sx xs (i + 2)) (sx xs (i + 3)) fl9 (sx_I xs (i + 1)) (sx_I xs (i + 2)) (sx_I xs (i + 3)) hfI hf) ml_L_105 im_X5_bet se_X5_bet cd_X5_bet ds_X5_bet ⟨Nat.le_of_ble_eq_true rfl, Nat.le_of_ble_eq_true rfl⟩ hP hS rfl hl.1 rfl (Nat.le_of_ble_eq_true rfl) hc dL_law_686 (fun H locs hP hS => ?_)
  refine lv_istore (lv' := [(6, .int (zI (mA (jBet mm (sx xs (i + 1)) (sx xs (i + 2)) (sx xs (i + 3))) (mm.2 5 (sx xs (i + 1)) - (sx xs (i + 3)))))), (5, .int (zI (kBet c (sx xs (i + 1)) (sx xs (i + 2)) (sx xs (i + 3)) : Nat))), (0, .ref sc), (1, .ref (a 0)), (2, .ref (b 0)), (3, .ref o), (4, .int (zI i))]) S.1 S.2.1 dL_law_689 hl (by decide) rfl (fun ls hl => ?_)
  refine l_tail S hx hs.2.1.2.2 (kd := kBet c (sx xs (i + 1)) (sx xs (i + 2)) (sx xs (i + 3))) (jd := jBet mm (sx xs (i + 1)) (sx xs (i + 2)) (sx xs (i + 3))) (r := c.2 7 (sx xs (i + 1)) - (sx xs (i + 3))) (r2 := mA (jBet mm (sx xs (i + 1)) (sx xs (i + 2)) (sx xs (i + 3))) (mm.2 5 (sx xs (i + 1)) - (sx xs (i + 3)))) hs.2.2.1 hs.1 hk (fun z => by rw [if_pos z]; exact pk_uLs) hs.2.2.2 hl 4 5 1 0 rfl rfl rfl rfl hP hS ⟨Nat.le_of_ble_eq_true rfl, Nat.le_of_ble_eq_true rfl⟩ hc dL_law_691 dL_law_692 dL_law_695 dL_law_697 dL_law_702 dL_law_704 dL_law_707 dL_law_708 dL_law_709 dL_law_710 dL_law_712 dL_law_713 dL_law_714 ?_
  refine z_goto (tgt := 1430) S dL_law_719 (by decide) ?_
  exact next _ _ _ _ _ _ hs.2.1 hP hS (lv_sub hl [2, 3, 4, 5, 6] rfl)
set_option maxHeartbeats 4000000 in
set_option maxRecDepth 100000 in
theorem lc_dig (S : CallFix p m co cL_law 9 s args AW RL) (hx : LX D g a b o sc L xs s) (hst : l.stackTraces = false) (h : OK2 B c mm) (hB : 1000 ≤ B ∧ B ≤ 900000000) (hi : 0 ≤ i ∧ i + 6 < L) (hl : lv_has ls 9 [(0, .ref sc), (1, .ref (a 0)), (2, .ref (b 0)), (3, .ref o), (4, .int (zI i))]) (hP : va_P D vwCl (LW g a c o G ++ MW g b mm) H) (hS : va_S (fun q => s.heap.size ≤ q) s.heap H locs) (hc : cells + 1 ≤ 1086 ∧ slots + 6 ≤ 15587) (next : ∀ (c2 m2 : CS) (G2 : Nat → Int64) (H2 : Heap) (locs2 : List Loc) (ls2 : Array Slot), OK2 (B + 100000) c2 m2 → va_P D vwCl (LW g a c2 o G2 ++ MW g b m2) H2 → va_S (fun q => s.heap.size ≤ q) s.heap H2 locs2 → lv_has ls2 9 [(0, .ref sc), (1, .ref (a 0)), (2, .ref (b 0)), (3, .ref o), (4, .int (zI i))] → W p l e room_1 s m args below meth co H2 locs2 (cells + 1) (slots + 6) Q (F0 m 1430 ls2 [])) : W p l e room_1 s m args below meth co H locs cells slots Q (F0 m 722 ls []) := by
  obtain ⟨hR, hI, hM⟩ := id h
  have hs := s_dig h hB (sx xs (i + 1)) (sx xs (i + 2))
  have hk : kDig c (sx xs (i + 1)) (sx xs (i + 2)) < 1000 := by unfold kDig; (repeat' split) <;> decide
  refine lv_aload_n S.1 S.2.1 dL_law_722 rfl (lv_at hl 1 rfl) ?_
  refine l_arg S hx hS hl 0 4 rfl rfl (n := 1) (by omega) dL_law_723 dL_law_724 dL_law_726 dL_law_727 dL_law_728 ?_
  refine l_arg S hx hS hl 0 4 rfl rfl (n := 2) (by omega) dL_law_729 dL_law_730 dL_law_732 dL_law_733 dL_law_734 ?_
  refine lv_aload_n S.1 S.2.1 dL_law_735 rfl (lv_at hl 3 rfl) ?_
  refine l_wrap (rest := []) (As := [.ref (a 0), .int (zI (sx xs (i + 1))), .int (zI (sx xs (i + 2))), .ref o]) S hx (w_dig l D g a o G c hI hst hx.2.2.1.1 hx.2.2.2.1 (sx xs (i + 1)) (sx xs (i + 2)) (sx_I xs (i + 1)) (sx_I xs (i + 2)) hB.2) ml_L_106 sm_L_dig cw_L_dig ds_L_dig ⟨Nat.le_of_ble_eq_true rfl, Nat.le_of_ble_eq_true rfl⟩ hP hS rfl hl.1 rfl (Nat.le_of_ble_eq_true rfl) hc dL_law_736 (fun H locs hP hS => ?_)
  have hw : (if kDig c (sx xs (i + 1)) (sx xs (i + 2)) = 0 then LW g a (digC1 c (sx xs (i + 1)) (sx xs (i + 2))) o (oU G (dpn c (sx xs (i + 1)) (sx xs (i + 2)))) else LW g a c o G) = LW g a (if kDig c (sx xs (i + 1)) (sx xs (i + 2)) = 0 then digC1 c (sx xs (i + 1)) (sx xs (i + 2)) else c) o (if kDig c (sx xs (i + 1)) (sx xs (i + 2)) = 0 then oU G (dpn c (sx xs (i + 1)) (sx xs (i + 2))) else G) := by split <;> rfl
  rw [hw] at hP
  refine lv_istore (lv' := [(5, .int (zI (kDig c (sx xs (i + 1)) (sx xs (i + 2)) : Nat))), (0, .ref sc), (1, .ref (a 0)), (2, .ref (b 0)), (3, .ref o), (4, .int (zI i))]) S.1 S.2.1 dL_law_739 hl (by decide) rfl (fun ls hl => ?_)
  refine lv_aload_n S.1 S.2.1 dL_law_741 rfl (lv_at hl 3 rfl) ?_
  refine l_arg S hx hS hl 1 5 rfl rfl (n := 1) (by omega) dL_law_742 dL_law_743 dL_law_745 dL_law_746 dL_law_747 ?_
  refine l_arg S hx hS hl 1 5 rfl rfl (n := 2) (by omega) dL_law_748 dL_law_749 dL_law_751 dL_law_752 dL_law_753 ?_
  refine l_ref (rest := []) (As := [.int (zI (sx xs (i + 1))), .int (zI (sx xs (i + 2)))]) S hx (m_X5_dig l D g b mm hM hx.2.2.1.2 (sx xs (i + 1)) (sx xs (i + 2)) (sx_I xs (i + 1)) (sx_I xs (i + 2)) hB.2) ml_L_108 im_X5_dig se_X5_dig cd_X5_dig ds_X5_dig ⟨Nat.le_of_ble_eq_true rfl, Nat.le_of_ble_eq_true rfl⟩ hP hS rfl hl.1 rfl (Nat.le_of_ble_eq_true rfl) hc dL_law_754 (fun H locs hP hS => ?_)
  refine lv_istore (lv' := [(6, .int (zI (mA (jDig mm (sx xs (i + 1)) (sx xs (i + 2))) (mDpn mm (sx xs (i + 1)) (sx xs (i + 2)))))), (5, .int (zI (kDig c (sx xs (i + 1)) (sx xs (i + 2)) : Nat))), (0, .ref sc), (1, .ref (a 0)), (2, .ref (b 0)), (3, .ref o), (4, .int (zI i))]) S.1 S.2.1 dL_law_757 hl (by decide) rfl (fun ls hl => ?_)
  refine l_tail S hx hs.2.1.2.2 (kd := kDig c (sx xs (i + 1)) (sx xs (i + 2))) (jd := jDig mm (sx xs (i + 1)) (sx xs (i + 2))) (r := dpn c (sx xs (i + 1)) (sx xs (i + 2))) (r2 := mA (jDig mm (sx xs (i + 1)) (sx xs (i + 2))) (mDpn mm (sx xs (i + 1)) (sx xs (i + 2)))) hs.2.2.1 hs.1 hk (fun z => by rw [if_pos z]; exact pk_uLs) hs.2.2.2 hl 4 5 1 0 rfl rfl rfl rfl hP hS ⟨Nat.le_of_ble_eq_true rfl, Nat.le_of_ble_eq_true rfl⟩ hc dL_law_759 dL_law_760 dL_law_763 dL_law_765 dL_law_770 dL_law_772 dL_law_775 dL_law_776 dL_law_777 dL_law_778 dL_law_780 dL_law_781 dL_law_782 ?_
  refine z_goto (tgt := 1430) S dL_law_787 (by decide) ?_
  exact next _ _ _ _ _ _ hs.2.1 hP hS (lv_sub hl [2, 3, 4, 5, 6] rfl)
set_option maxHeartbeats 4000000 in
set_option maxRecDepth 100000 in
theorem lc_spot (S : CallFix p m co cL_law 9 s args AW RL) (hx : LX D g a b o sc L xs s) (hst : l.stackTraces = false) (h : OK2 B c mm) (hB : 1000 ≤ B ∧ B ≤ 900000000) (hi : 0 ≤ i ∧ i + 6 < L) (hl : lv_has ls 9 [(0, .ref sc), (1, .ref (a 0)), (2, .ref (b 0)), (3, .ref o), (4, .int (zI i))]) (hP : va_P D vwCl (LW g a c o G ++ MW g b mm) H) (hS : va_S (fun q => s.heap.size ≤ q) s.heap H locs) (hc : cells + 1 ≤ 1086 ∧ slots + 6 ≤ 15587) (next : ∀ (c2 m2 : CS) (G2 : Nat → Int64) (H2 : Heap) (locs2 : List Loc) (ls2 : Array Slot), OK2 (B + 100000) c2 m2 → va_P D vwCl (LW g a c2 o G2 ++ MW g b m2) H2 → va_S (fun q => s.heap.size ≤ q) s.heap H2 locs2 → lv_has ls2 9 [(0, .ref sc), (1, .ref (a 0)), (2, .ref (b 0)), (3, .ref o), (4, .int (zI i))] → W p l e room_1 s m args below meth co H2 locs2 (cells + 1) (slots + 6) Q (F0 m 1430 ls2 [])) : W p l e room_1 s m args below meth co H locs cells slots Q (F0 m 790 ls []) := by
  obtain ⟨hR, hI, hM⟩ := id h
  have hs := s_spot h hB (sx xs (i + 1)) (sx xs (i + 2)) (sx xs (i + 3))
  have hk : kSpot (sx xs (i + 1)) (sx xs (i + 2)) (sx xs (i + 3)) < 1000 := by unfold kSpot; (repeat' split) <;> decide
  refine lv_aload_n S.1 S.2.1 dL_law_790 rfl (lv_at hl 1 rfl) ?_
  refine l_arg S hx hS hl 0 4 rfl rfl (n := 1) (by omega) dL_law_791 dL_law_792 dL_law_794 dL_law_795 dL_law_796 ?_
  refine l_arg S hx hS hl 0 4 rfl rfl (n := 2) (by omega) dL_law_797 dL_law_798 dL_law_800 dL_law_801 dL_law_802 ?_
  refine l_arg S hx hS hl 0 4 rfl rfl (n := 3) (by omega) dL_law_803 dL_law_804 dL_law_806 dL_law_807 dL_law_808 ?_
  refine lv_aload_n S.1 S.2.1 dL_law_809 rfl (lv_at hl 3 rfl) ?_
  refine l_wrap (rest := []) (As := [.ref (a 0), .int (zI (sx xs (i + 1))), .int (zI (sx xs (i + 2))), .int (zI (sx xs (i + 3))), .ref o]) S hx (w_spot l D g a o G c hI hst hx.2.2.1.1 hx.2.2.2.1 (sx xs (i + 1)) (sx xs (i + 2)) (sx xs (i + 3)) (sx_I xs (i + 1)) (sx_I xs (i + 2)) (sx_I xs (i + 3))) ml_L_109 sm_L_spot cw_L_spot ds_L_spot ⟨Nat.le_of_ble_eq_true rfl, Nat.le_of_ble_eq_true rfl⟩ hP hS rfl hl.1 rfl (Nat.le_of_ble_eq_true rfl) hc dL_law_810 (fun H locs hP hS => ?_)
  have hw : (if kSpot (sx xs (i + 1)) (sx xs (i + 2)) (sx xs (i + 3)) = 0 then LW g a (c) o (oU G (spotT c ((sx xs (i + 2)) * 20 + (sx xs (i + 1))) (sx xs (i + 3)))) else LW g a c o G) = LW g a (if kSpot (sx xs (i + 1)) (sx xs (i + 2)) (sx xs (i + 3)) = 0 then c else c) o (if kSpot (sx xs (i + 1)) (sx xs (i + 2)) (sx xs (i + 3)) = 0 then oU G (spotT c ((sx xs (i + 2)) * 20 + (sx xs (i + 1))) (sx xs (i + 3))) else G) := by split <;> rfl
  rw [hw] at hP
  refine lv_istore (lv' := [(5, .int (zI (kSpot (sx xs (i + 1)) (sx xs (i + 2)) (sx xs (i + 3)) : Nat))), (0, .ref sc), (1, .ref (a 0)), (2, .ref (b 0)), (3, .ref o), (4, .int (zI i))]) S.1 S.2.1 dL_law_813 hl (by decide) rfl (fun ls hl => ?_)
  refine lv_aload_n S.1 S.2.1 dL_law_815 rfl (lv_at hl 3 rfl) ?_
  refine l_arg S hx hS hl 1 5 rfl rfl (n := 1) (by omega) dL_law_816 dL_law_817 dL_law_819 dL_law_820 dL_law_821 ?_
  refine l_arg S hx hS hl 1 5 rfl rfl (n := 2) (by omega) dL_law_822 dL_law_823 dL_law_825 dL_law_826 dL_law_827 ?_
  refine l_arg S hx hS hl 1 5 rfl rfl (n := 3) (by omega) dL_law_828 dL_law_829 dL_law_831 dL_law_832 dL_law_833 ?_
  refine l_ref (rest := []) (As := [.int (zI (sx xs (i + 1))), .int (zI (sx xs (i + 2))), .int (zI (sx xs (i + 3)))]) S hx (m_X5_spot l D g b mm hM hx.2.2.1.2 (sx xs (i + 1)) (sx xs (i + 2)) (sx xs (i + 3)) (sx_I xs (i + 1)) (sx_I xs (i + 2)) (sx_I xs (i + 3))) ml_L_112 im_X5_spot se_X5_spot cd_X5_spot ds_X5_spot ⟨Nat.le_of_ble_eq_true rfl, Nat.le_of_ble_eq_true rfl⟩ hP hS rfl hl.1 rfl (Nat.le_of_ble_eq_true rfl) hc dL_law_834 (fun H locs hP hS => ?_)
  refine lv_istore (lv' := [(6, .int (zI (mA (jSpot (sx xs (i + 1)) (sx xs (i + 2)) (sx xs (i + 3))) (mSpT (sS mm 0 0) (20 * (sx xs (i + 2)) + (sx xs (i + 1))) (sx xs (i + 3)))))), (5, .int (zI (kSpot (sx xs (i + 1)) (sx xs (i + 2)) (sx xs (i + 3)) : Nat))), (0, .ref sc), (1, .ref (a 0)), (2, .ref (b 0)), (3, .ref o), (4, .int (zI i))]) S.1 S.2.1 dL_law_837 hl (by decide) rfl (fun ls hl => ?_)
  refine l_tail S hx hs.2.1.2.2 (kd := kSpot (sx xs (i + 1)) (sx xs (i + 2)) (sx xs (i + 3))) (jd := jSpot (sx xs (i + 1)) (sx xs (i + 2)) (sx xs (i + 3))) (r := spotT c ((sx xs (i + 2)) * 20 + (sx xs (i + 1))) (sx xs (i + 3))) (r2 := mA (jSpot (sx xs (i + 1)) (sx xs (i + 2)) (sx xs (i + 3))) (mSpT (sS mm 0 0) (20 * (sx xs (i + 2)) + (sx xs (i + 1))) (sx xs (i + 3)))) hs.2.2.1 hs.1 hk (fun z => by rw [if_pos z]; exact pk_uLs) hs.2.2.2 hl 4 5 1 0 rfl rfl rfl rfl hP hS ⟨Nat.le_of_ble_eq_true rfl, Nat.le_of_ble_eq_true rfl⟩ hc dL_law_839 dL_law_840 dL_law_843 dL_law_845 dL_law_850 dL_law_852 dL_law_855 dL_law_856 dL_law_857 dL_law_858 dL_law_860 dL_law_861 dL_law_862 ?_
  refine z_goto (tgt := 1430) S dL_law_867 (by decide) ?_
  exact next _ _ _ _ _ _ hs.2.1 hP hS (lv_sub hl [2, 3, 4, 5, 6] rfl)
set_option maxHeartbeats 4000000 in
set_option maxRecDepth 100000 in
theorem lc_rod (S : CallFix p m co cL_law 9 s args AW RL) (hx : LX D g a b o sc L xs s) (hst : l.stackTraces = false) (h : OK2 B c mm) (hB : 1000 ≤ B ∧ B ≤ 900000000) (hi : 0 ≤ i ∧ i + 6 < L) (hl : lv_has ls 9 [(0, .ref sc), (1, .ref (a 0)), (2, .ref (b 0)), (3, .ref o), (4, .int (zI i))]) (hP : va_P D vwCl (LW g a c o G ++ MW g b mm) H) (hS : va_S (fun q => s.heap.size ≤ q) s.heap H locs) (hc : cells + 1 ≤ 1086 ∧ slots + 6 ≤ 15587) (next : ∀ (c2 m2 : CS) (G2 : Nat → Int64) (H2 : Heap) (locs2 : List Loc) (ls2 : Array Slot), OK2 (B + 100000) c2 m2 → va_P D vwCl (LW g a c2 o G2 ++ MW g b m2) H2 → va_S (fun q => s.heap.size ≤ q) s.heap H2 locs2 → lv_has ls2 9 [(0, .ref sc), (1, .ref (a 0)), (2, .ref (b 0)), (3, .ref o), (4, .int (zI i))] → W p l e room_1 s m args below meth co H2 locs2 (cells + 1) (slots + 6) Q (F0 m 1430 ls2 [])) : W p l e room_1 s m args below meth co H locs cells slots Q (F0 m 870 ls []) := by
  obtain ⟨hR, hI, hM⟩ := id h
  have hs := s_rod h hB (sx xs (i + 1)) (sx xs (i + 2)) (sx xs (i + 3))
  have hk : kRod c (sx xs (i + 1)) (sx xs (i + 2)) (sx xs (i + 3)) < 1000 := by unfold kRod; (repeat' split) <;> decide
  refine lv_aload_n S.1 S.2.1 dL_law_870 rfl (lv_at hl 1 rfl) ?_
  refine l_arg S hx hS hl 0 4 rfl rfl (n := 1) (by omega) dL_law_871 dL_law_872 dL_law_874 dL_law_875 dL_law_876 ?_
  refine l_arg S hx hS hl 0 4 rfl rfl (n := 2) (by omega) dL_law_877 dL_law_878 dL_law_880 dL_law_881 dL_law_882 ?_
  refine l_arg S hx hS hl 0 4 rfl rfl (n := 3) (by omega) dL_law_883 dL_law_884 dL_law_886 dL_law_887 dL_law_888 ?_
  refine lv_aload_n S.1 S.2.1 dL_law_889 rfl (lv_at hl 3 rfl) ?_
  refine l_wrap (rest := []) (As := [.ref (a 0), .int (zI (sx xs (i + 1))), .int (zI (sx xs (i + 2))), .int (zI (sx xs (i + 3))), .ref o]) S hx (w_rod l D g a o G c hI hst hx.2.2.1.1 hx.2.2.2.1 (sx xs (i + 1)) (sx xs (i + 2)) (sx xs (i + 3)) (sx_I xs (i + 1)) (sx_I xs (i + 2)) (sx_I xs (i + 3))) ml_L_113 sm_L_rod cw_L_rod ds_L_rod ⟨Nat.le_of_ble_eq_true rfl, Nat.le_of_ble_eq_true rfl⟩ hP hS rfl hl.1 rfl (Nat.le_of_ble_eq_true rfl) hc dL_law_890 (fun H locs hP hS => ?_)
  have hw : (if kRod c (sx xs (i + 1)) (sx xs (i + 2)) (sx xs (i + 3)) = 0 then LW g a (c) o (oU G (bendC c (sx xs (i + 1)) ((sx xs (i + 3)) * 20 + (sx xs (i + 2))))) else LW g a c o G) = LW g a (if kRod c (sx xs (i + 1)) (sx xs (i + 2)) (sx xs (i + 3)) = 0 then c else c) o (if kRod c (sx xs (i + 1)) (sx xs (i + 2)) (sx xs (i + 3)) = 0 then oU G (bendC c (sx xs (i + 1)) ((sx xs (i + 3)) * 20 + (sx xs (i + 2)))) else G) := by split <;> rfl
  rw [hw] at hP
  refine lv_istore (lv' := [(5, .int (zI (kRod c (sx xs (i + 1)) (sx xs (i + 2)) (sx xs (i + 3)) : Nat))), (0, .ref sc), (1, .ref (a 0)), (2, .ref (b 0)), (3, .ref o), (4, .int (zI i))]) S.1 S.2.1 dL_law_893 hl (by decide) rfl (fun ls hl => ?_)
  refine lv_aload_n S.1 S.2.1 dL_law_895 rfl (lv_at hl 3 rfl) ?_
  refine l_arg S hx hS hl 1 5 rfl rfl (n := 1) (by omega) dL_law_896 dL_law_897 dL_law_899 dL_law_900 dL_law_901 ?_
  refine l_arg S hx hS hl 1 5 rfl rfl (n := 2) (by omega) dL_law_902 dL_law_903 dL_law_905 dL_law_906 dL_law_907 ?_
  refine l_arg S hx hS hl 1 5 rfl rfl (n := 3) (by omega) dL_law_908 dL_law_909 dL_law_911 dL_law_912 dL_law_913 ?_
  refine l_ref (rest := []) (As := [.int (zI (sx xs (i + 1))), .int (zI (sx xs (i + 2))), .int (zI (sx xs (i + 3)))]) S hx (m_X5_rod l D g b mm hM hx.2.2.1.2 (sx xs (i + 1)) (sx xs (i + 2)) (sx xs (i + 3)) (sx_I xs (i + 1)) (sx_I xs (i + 2)) (sx_I xs (i + 3))) ml_L_115 im_X5_rod se_X5_rod cd_X5_rod ds_X5_rod ⟨Nat.le_of_ble_eq_true rfl, Nat.le_of_ble_eq_true rfl⟩ hP hS rfl hl.1 rfl (Nat.le_of_ble_eq_true rfl) hc dL_law_914 (fun H locs hP hS => ?_)
  refine lv_istore (lv' := [(6, .int (zI (mA (jRod mm (sx xs (i + 1)) (sx xs (i + 2)) (sx xs (i + 3))) (mBnd (sS mm 0 0) (sx xs (i + 1)) (20 * (sx xs (i + 3)) + (sx xs (i + 2))))))), (5, .int (zI (kRod c (sx xs (i + 1)) (sx xs (i + 2)) (sx xs (i + 3)) : Nat))), (0, .ref sc), (1, .ref (a 0)), (2, .ref (b 0)), (3, .ref o), (4, .int (zI i))]) S.1 S.2.1 dL_law_917 hl (by decide) rfl (fun ls hl => ?_)
  refine l_tail S hx hs.2.1.2.2 (kd := kRod c (sx xs (i + 1)) (sx xs (i + 2)) (sx xs (i + 3))) (jd := jRod mm (sx xs (i + 1)) (sx xs (i + 2)) (sx xs (i + 3))) (r := bendC c (sx xs (i + 1)) ((sx xs (i + 3)) * 20 + (sx xs (i + 2)))) (r2 := mA (jRod mm (sx xs (i + 1)) (sx xs (i + 2)) (sx xs (i + 3))) (mBnd (sS mm 0 0) (sx xs (i + 1)) (20 * (sx xs (i + 3)) + (sx xs (i + 2))))) hs.2.2.1 hs.1 hk (fun z => by rw [if_pos z]; exact pk_uLs) hs.2.2.2 hl 4 5 1 0 rfl rfl rfl rfl hP hS ⟨Nat.le_of_ble_eq_true rfl, Nat.le_of_ble_eq_true rfl⟩ hc dL_law_919 dL_law_920 dL_law_923 dL_law_925 dL_law_930 dL_law_932 dL_law_935 dL_law_936 dL_law_937 dL_law_938 dL_law_940 dL_law_941 dL_law_942 ?_
  refine z_goto (tgt := 1430) S dL_law_947 (by decide) ?_
  exact next _ _ _ _ _ _ hs.2.1 hP hS (lv_sub hl [2, 3, 4, 5, 6] rfl)
set_option maxHeartbeats 4000000 in
set_option maxRecDepth 100000 in
theorem lc_told (S : CallFix p m co cL_law 9 s args AW RL) (hx : LX D g a b o sc L xs s) (hst : l.stackTraces = false) (h : OK2 B c mm) (hB : 1000 ≤ B ∧ B ≤ 900000000) (hi : 0 ≤ i ∧ i + 6 < L) (hl : lv_has ls 9 [(0, .ref sc), (1, .ref (a 0)), (2, .ref (b 0)), (3, .ref o), (4, .int (zI i))]) (hP : va_P D vwCl (LW g a c o G ++ MW g b mm) H) (hS : va_S (fun q => s.heap.size ≤ q) s.heap H locs) (hc : cells + 1 ≤ 1086 ∧ slots + 6 ≤ 15587) (next : ∀ (c2 m2 : CS) (G2 : Nat → Int64) (H2 : Heap) (locs2 : List Loc) (ls2 : Array Slot), OK2 (B + 100000) c2 m2 → va_P D vwCl (LW g a c2 o G2 ++ MW g b m2) H2 → va_S (fun q => s.heap.size ≤ q) s.heap H2 locs2 → lv_has ls2 9 [(0, .ref sc), (1, .ref (a 0)), (2, .ref (b 0)), (3, .ref o), (4, .int (zI i))] → W p l e room_1 s m args below meth co H2 locs2 (cells + 1) (slots + 6) Q (F0 m 1430 ls2 [])) : W p l e room_1 s m args below meth co H locs cells slots Q (F0 m 950 ls []) := by
  obtain ⟨hR, hI, hM⟩ := id h
  have hs := s_told h hB (sx xs (i + 1)) (sx xs (i + 2))
  have hk : kTold c (sx xs (i + 1)) (sx xs (i + 2)) < 1000 := by unfold kTold; (repeat' split) <;> decide
  refine lv_aload_n S.1 S.2.1 dL_law_950 rfl (lv_at hl 1 rfl) ?_
  refine l_arg S hx hS hl 0 4 rfl rfl (n := 1) (by omega) dL_law_951 dL_law_952 dL_law_954 dL_law_955 dL_law_956 ?_
  refine l_arg S hx hS hl 0 4 rfl rfl (n := 2) (by omega) dL_law_957 dL_law_958 dL_law_960 dL_law_961 dL_law_962 ?_
  refine lv_aload_n S.1 S.2.1 dL_law_963 rfl (lv_at hl 3 rfl) ?_
  refine l_wrap (rest := []) (As := [.ref (a 0), .int (zI (sx xs (i + 1))), .int (zI (sx xs (i + 2))), .ref o]) S hx (w_told l D g a o G c hI hst hx.2.2.1.1 hx.2.2.2.1 (sx xs (i + 1)) (sx xs (i + 2)) (sx_I xs (i + 1)) (sx_I xs (i + 2))) ml_L_116 sm_L_told cw_L_told ds_L_told ⟨Nat.le_of_ble_eq_true rfl, Nat.le_of_ble_eq_true rfl⟩ hP hS rfl hl.1 rfl (Nat.le_of_ble_eq_true rfl) hc dL_law_964 (fun H locs hP hS => ?_)
  have hw : (if kTold c (sx xs (i + 1)) (sx xs (i + 2)) = 0 then LW g a (c) o (oU G (dowT c (sx xs (i + 1)) (sx xs (i + 2)))) else LW g a c o G) = LW g a (if kTold c (sx xs (i + 1)) (sx xs (i + 2)) = 0 then c else c) o (if kTold c (sx xs (i + 1)) (sx xs (i + 2)) = 0 then oU G (dowT c (sx xs (i + 1)) (sx xs (i + 2))) else G) := by split <;> rfl
  rw [hw] at hP
  refine lv_istore (lv' := [(5, .int (zI (kTold c (sx xs (i + 1)) (sx xs (i + 2)) : Nat))), (0, .ref sc), (1, .ref (a 0)), (2, .ref (b 0)), (3, .ref o), (4, .int (zI i))]) S.1 S.2.1 dL_law_967 hl (by decide) rfl (fun ls hl => ?_)
  refine lv_aload_n S.1 S.2.1 dL_law_969 rfl (lv_at hl 3 rfl) ?_
  refine l_arg S hx hS hl 1 5 rfl rfl (n := 1) (by omega) dL_law_970 dL_law_971 dL_law_973 dL_law_974 dL_law_975 ?_
  refine l_arg S hx hS hl 1 5 rfl rfl (n := 2) (by omega) dL_law_976 dL_law_977 dL_law_979 dL_law_980 dL_law_981 ?_
  refine l_ref (rest := []) (As := [.int (zI (sx xs (i + 1))), .int (zI (sx xs (i + 2)))]) S hx (m_X5_told l D g b mm hM hx.2.2.1.2 (sx xs (i + 1)) (sx xs (i + 2)) (sx_I xs (i + 1)) (sx_I xs (i + 2))) ml_L_118 im_X5_told se_X5_told cd_X5_told ds_X5_told ⟨Nat.le_of_ble_eq_true rfl, Nat.le_of_ble_eq_true rfl⟩ hP hS rfl hl.1 rfl (Nat.le_of_ble_eq_true rfl) hc dL_law_982 (fun H locs hP hS => ?_)
  refine lv_istore (lv' := [(6, .int (zI (mA (jTold mm (sx xs (i + 1)) (sx xs (i + 2))) (mDoT (sS mm 0 0) (sx xs (i + 1)) (sx xs (i + 2)))))), (5, .int (zI (kTold c (sx xs (i + 1)) (sx xs (i + 2)) : Nat))), (0, .ref sc), (1, .ref (a 0)), (2, .ref (b 0)), (3, .ref o), (4, .int (zI i))]) S.1 S.2.1 dL_law_985 hl (by decide) rfl (fun ls hl => ?_)
  refine l_tail S hx hs.2.1.2.2 (kd := kTold c (sx xs (i + 1)) (sx xs (i + 2))) (jd := jTold mm (sx xs (i + 1)) (sx xs (i + 2))) (r := dowT c (sx xs (i + 1)) (sx xs (i + 2))) (r2 := mA (jTold mm (sx xs (i + 1)) (sx xs (i + 2))) (mDoT (sS mm 0 0) (sx xs (i + 1)) (sx xs (i + 2)))) hs.2.2.1 hs.1 hk (fun z => by rw [if_pos z]; exact pk_uLs) hs.2.2.2 hl 4 5 1 0 rfl rfl rfl rfl hP hS ⟨Nat.le_of_ble_eq_true rfl, Nat.le_of_ble_eq_true rfl⟩ hc dL_law_987 dL_law_988 dL_law_991 dL_law_993 dL_law_998 dL_law_1000 dL_law_1003 dL_law_1004 dL_law_1005 dL_law_1006 dL_law_1008 dL_law_1009 dL_law_1010 ?_
  refine z_goto (tgt := 1430) S dL_law_1015 (by decide) ?_
  exact next _ _ _ _ _ _ hs.2.1 hP hS (lv_sub hl [2, 3, 4, 5, 6] rfl)
set_option maxHeartbeats 4000000 in
set_option maxRecDepth 100000 in
theorem lc_about (S : CallFix p m co cL_law 9 s args AW RL) (hx : LX D g a b o sc L xs s) (hst : l.stackTraces = false) (h : OK2 B c mm) (hB : 1000 ≤ B ∧ B ≤ 900000000) (hi : 0 ≤ i ∧ i + 6 < L) (hl : lv_has ls 9 [(0, .ref sc), (1, .ref (a 0)), (2, .ref (b 0)), (3, .ref o), (4, .int (zI i))]) (hP : va_P D vwCl (LW g a c o G ++ MW g b mm) H) (hS : va_S (fun q => s.heap.size ≤ q) s.heap H locs) (hc : cells + 1 ≤ 1086 ∧ slots + 6 ≤ 15587) (next : ∀ (c2 m2 : CS) (G2 : Nat → Int64) (H2 : Heap) (locs2 : List Loc) (ls2 : Array Slot), OK2 (B + 100000) c2 m2 → va_P D vwCl (LW g a c2 o G2 ++ MW g b m2) H2 → va_S (fun q => s.heap.size ≤ q) s.heap H2 locs2 → lv_has ls2 9 [(0, .ref sc), (1, .ref (a 0)), (2, .ref (b 0)), (3, .ref o), (4, .int (zI i))] → W p l e room_1 s m args below meth co H2 locs2 (cells + 1) (slots + 6) Q (F0 m 1430 ls2 [])) : W p l e room_1 s m args below meth co H locs cells slots Q (F0 m 1018 ls []) := by
  obtain ⟨hR, hI, hM⟩ := id h
  have hs := s_about h hB (sx xs (i + 1)) (sx xs (i + 2))
  have hk : kAbout c (sx xs (i + 1)) (sx xs (i + 2)) < 1000 := by unfold kAbout; (repeat' split) <;> decide
  refine lv_aload_n S.1 S.2.1 dL_law_1018 rfl (lv_at hl 1 rfl) ?_
  refine l_arg S hx hS hl 0 4 rfl rfl (n := 1) (by omega) dL_law_1019 dL_law_1020 dL_law_1022 dL_law_1023 dL_law_1024 ?_
  refine l_arg S hx hS hl 0 4 rfl rfl (n := 2) (by omega) dL_law_1025 dL_law_1026 dL_law_1028 dL_law_1029 dL_law_1030 ?_
  refine lv_aload_n S.1 S.2.1 dL_law_1031 rfl (lv_at hl 3 rfl) ?_
  refine l_wrap (rest := []) (As := [.ref (a 0), .int (zI (sx xs (i + 1))), .int (zI (sx xs (i + 2))), .ref o]) S hx (w_about l D g a o G c hI hst hx.2.2.1.1 hx.2.2.2.1 (sx xs (i + 1)) (sx xs (i + 2)) (sx_I xs (i + 1)) (sx_I xs (i + 2))) ml_L_119 sm_L_about cw_L_about ds_L_about ⟨Nat.le_of_ble_eq_true rfl, Nat.le_of_ble_eq_true rfl⟩ hP hS rfl hl.1 rfl (Nat.le_of_ble_eq_true rfl) hc dL_law_1032 (fun H locs hP hS => ?_)
  have hw : (if kAbout c (sx xs (i + 1)) (sx xs (i + 2)) = 0 then LW g a (c) o (oU G (pitT c (sx xs (i + 1)) (sx xs (i + 2)))) else LW g a c o G) = LW g a (if kAbout c (sx xs (i + 1)) (sx xs (i + 2)) = 0 then c else c) o (if kAbout c (sx xs (i + 1)) (sx xs (i + 2)) = 0 then oU G (pitT c (sx xs (i + 1)) (sx xs (i + 2))) else G) := by split <;> rfl
  rw [hw] at hP
  refine lv_istore (lv' := [(5, .int (zI (kAbout c (sx xs (i + 1)) (sx xs (i + 2)) : Nat))), (0, .ref sc), (1, .ref (a 0)), (2, .ref (b 0)), (3, .ref o), (4, .int (zI i))]) S.1 S.2.1 dL_law_1035 hl (by decide) rfl (fun ls hl => ?_)
  refine lv_aload_n S.1 S.2.1 dL_law_1037 rfl (lv_at hl 3 rfl) ?_
  refine l_arg S hx hS hl 1 5 rfl rfl (n := 1) (by omega) dL_law_1038 dL_law_1039 dL_law_1041 dL_law_1042 dL_law_1043 ?_
  refine l_arg S hx hS hl 1 5 rfl rfl (n := 2) (by omega) dL_law_1044 dL_law_1045 dL_law_1047 dL_law_1048 dL_law_1049 ?_
  refine l_ref (rest := []) (As := [.int (zI (sx xs (i + 1))), .int (zI (sx xs (i + 2)))]) S hx (m_X5_about l D g b mm hM hx.2.2.1.2 (sx xs (i + 1)) (sx xs (i + 2)) (sx_I xs (i + 1)) (sx_I xs (i + 2))) ml_L_121 im_X5_about se_X5_about cd_X5_about ds_X5_about ⟨Nat.le_of_ble_eq_true rfl, Nat.le_of_ble_eq_true rfl⟩ hP hS rfl hl.1 rfl (Nat.le_of_ble_eq_true rfl) hc dL_law_1050 (fun H locs hP hS => ?_)
  refine lv_istore (lv' := [(6, .int (zI (mA (jAbout mm (sx xs (i + 1)) (sx xs (i + 2))) (mPiT (sS mm 0 0) (sx xs (i + 1)) (sx xs (i + 2)))))), (5, .int (zI (kAbout c (sx xs (i + 1)) (sx xs (i + 2)) : Nat))), (0, .ref sc), (1, .ref (a 0)), (2, .ref (b 0)), (3, .ref o), (4, .int (zI i))]) S.1 S.2.1 dL_law_1053 hl (by decide) rfl (fun ls hl => ?_)
  refine l_tail S hx hs.2.1.2.2 (kd := kAbout c (sx xs (i + 1)) (sx xs (i + 2))) (jd := jAbout mm (sx xs (i + 1)) (sx xs (i + 2))) (r := pitT c (sx xs (i + 1)) (sx xs (i + 2))) (r2 := mA (jAbout mm (sx xs (i + 1)) (sx xs (i + 2))) (mPiT (sS mm 0 0) (sx xs (i + 1)) (sx xs (i + 2)))) hs.2.2.1 hs.1 hk (fun z => by rw [if_pos z]; exact pk_uLs) hs.2.2.2 hl 4 5 1 0 rfl rfl rfl rfl hP hS ⟨Nat.le_of_ble_eq_true rfl, Nat.le_of_ble_eq_true rfl⟩ hc dL_law_1055 dL_law_1056 dL_law_1059 dL_law_1061 dL_law_1066 dL_law_1068 dL_law_1071 dL_law_1072 dL_law_1073 dL_law_1074 dL_law_1076 dL_law_1077 dL_law_1078 ?_
  refine z_goto (tgt := 1430) S dL_law_1083 (by decide) ?_
  exact next _ _ _ _ _ _ hs.2.1 hP hS (lv_sub hl [2, 3, 4, 5, 6] rfl)
set_option maxHeartbeats 4000000 in
set_option maxRecDepth 100000 in
theorem lc_count (S : CallFix p m co cL_law 9 s args AW RL) (hx : LX D g a b o sc L xs s) (hst : l.stackTraces = false) (h : OK2 B c mm) (hB : 1000 ≤ B ∧ B ≤ 900000000) (hi : 0 ≤ i ∧ i + 6 < L) (hl : lv_has ls 9 [(0, .ref sc), (1, .ref (a 0)), (2, .ref (b 0)), (3, .ref o), (4, .int (zI i))]) (hP : va_P D vwCl (LW g a c o G ++ MW g b mm) H) (hS : va_S (fun q => s.heap.size ≤ q) s.heap H locs) (hc : cells + 1 ≤ 1086 ∧ slots + 6 ≤ 15587) (next : ∀ (c2 m2 : CS) (G2 : Nat → Int64) (H2 : Heap) (locs2 : List Loc) (ls2 : Array Slot), OK2 (B + 100000) c2 m2 → va_P D vwCl (LW g a c2 o G2 ++ MW g b m2) H2 → va_S (fun q => s.heap.size ≤ q) s.heap H2 locs2 → lv_has ls2 9 [(0, .ref sc), (1, .ref (a 0)), (2, .ref (b 0)), (3, .ref o), (4, .int (zI i))] → W p l e room_1 s m args below meth co H2 locs2 (cells + 1) (slots + 6) Q (F0 m 1430 ls2 [])) : W p l e room_1 s m args below meth co H locs cells slots Q (F0 m 1086 ls []) := by
  obtain ⟨hR, hI, hM⟩ := id h
  have hs := s_count h hB (sx xs (i + 1))
  have hk : kCount (sx xs (i + 1)) < 1000 := by unfold kCount; (repeat' split) <;> decide
  refine lv_aload_n S.1 S.2.1 dL_law_1086 rfl (lv_at hl 1 rfl) ?_
  refine l_arg S hx hS hl 0 4 rfl rfl (n := 1) (by omega) dL_law_1087 dL_law_1088 dL_law_1090 dL_law_1091 dL_law_1092 ?_
  refine lv_aload_n S.1 S.2.1 dL_law_1093 rfl (lv_at hl 3 rfl) ?_
  refine l_wrap (rest := []) (As := [.ref (a 0), .int (zI (sx xs (i + 1))), .ref o]) S hx (w_count l D g a o G c hI hst hx.2.2.1.1 hx.2.2.2.1 (sx xs (i + 1)) (sx_I xs (i + 1))) ml_L_122 sm_L_count cw_L_count ds_L_count ⟨Nat.le_of_ble_eq_true rfl, Nat.le_of_ble_eq_true rfl⟩ hP hS rfl hl.1 rfl (Nat.le_of_ble_eq_true rfl) hc dL_law_1094 (fun H locs hP hS => ?_)
  have hw : (if kCount (sx xs (i + 1)) = 0 then LW g a (c) o (oU G (cntT c (sx xs (i + 1)))) else LW g a c o G) = LW g a (if kCount (sx xs (i + 1)) = 0 then c else c) o (if kCount (sx xs (i + 1)) = 0 then oU G (cntT c (sx xs (i + 1))) else G) := by split <;> rfl
  rw [hw] at hP
  refine lv_istore (lv' := [(5, .int (zI (kCount (sx xs (i + 1)) : Nat))), (0, .ref sc), (1, .ref (a 0)), (2, .ref (b 0)), (3, .ref o), (4, .int (zI i))]) S.1 S.2.1 dL_law_1097 hl (by decide) rfl (fun ls hl => ?_)
  refine lv_aload_n S.1 S.2.1 dL_law_1099 rfl (lv_at hl 3 rfl) ?_
  refine l_arg S hx hS hl 1 5 rfl rfl (n := 1) (by omega) dL_law_1100 dL_law_1101 dL_law_1103 dL_law_1104 dL_law_1105 ?_
  refine l_ref (rest := []) (As := [.int (zI (sx xs (i + 1)))]) S hx (m_X5_count l D g b mm hM hx.2.2.1.2 (sx xs (i + 1)) (sx_I xs (i + 1))) ml_L_124 im_X5_count se_X5_count cd_X5_count ds_X5_count ⟨Nat.le_of_ble_eq_true rfl, Nat.le_of_ble_eq_true rfl⟩ hP hS rfl hl.1 rfl (Nat.le_of_ble_eq_true rfl) hc dL_law_1106 (fun H locs hP hS => ?_)
  refine lv_istore (lv' := [(6, .int (zI (mA (jCount (sx xs (i + 1))) (mCnt (sS mm 0 0) (sx xs (i + 1)))))), (5, .int (zI (kCount (sx xs (i + 1)) : Nat))), (0, .ref sc), (1, .ref (a 0)), (2, .ref (b 0)), (3, .ref o), (4, .int (zI i))]) S.1 S.2.1 dL_law_1109 hl (by decide) rfl (fun ls hl => ?_)
  refine l_tail S hx hs.2.1.2.2 (kd := kCount (sx xs (i + 1))) (jd := jCount (sx xs (i + 1))) (r := cntT c (sx xs (i + 1))) (r2 := mA (jCount (sx xs (i + 1))) (mCnt (sS mm 0 0) (sx xs (i + 1)))) hs.2.2.1 hs.1 hk (fun z => by rw [if_pos z]; exact pk_uLs) hs.2.2.2 hl 4 5 1 0 rfl rfl rfl rfl hP hS ⟨Nat.le_of_ble_eq_true rfl, Nat.le_of_ble_eq_true rfl⟩ hc dL_law_1111 dL_law_1112 dL_law_1115 dL_law_1117 dL_law_1122 dL_law_1124 dL_law_1127 dL_law_1128 dL_law_1129 dL_law_1130 dL_law_1132 dL_law_1133 dL_law_1134 ?_
  refine z_goto (tgt := 1430) S dL_law_1139 (by decide) ?_
  exact next _ _ _ _ _ _ hs.2.1 hP hS (lv_sub hl [2, 3, 4, 5, 6] rfl)
set_option maxHeartbeats 4000000 in
set_option maxRecDepth 100000 in
theorem lc_line (S : CallFix p m co cL_law 9 s args AW RL) (hx : LX D g a b o sc L xs s) (hst : l.stackTraces = false) (h : OK2 B c mm) (hB : 1000 ≤ B ∧ B ≤ 900000000) (hi : 0 ≤ i ∧ i + 6 < L) (hl : lv_has ls 9 [(0, .ref sc), (1, .ref (a 0)), (2, .ref (b 0)), (3, .ref o), (4, .int (zI i))]) (hP : va_P D vwCl (LW g a c o G ++ MW g b mm) H) (hS : va_S (fun q => s.heap.size ≤ q) s.heap H locs) (hc : cells + 1 ≤ 1086 ∧ slots + 6 ≤ 15587) (next : ∀ (c2 m2 : CS) (G2 : Nat → Int64) (H2 : Heap) (locs2 : List Loc) (ls2 : Array Slot), OK2 (B + 100000) c2 m2 → va_P D vwCl (LW g a c2 o G2 ++ MW g b m2) H2 → va_S (fun q => s.heap.size ≤ q) s.heap H2 locs2 → lv_has ls2 9 [(0, .ref sc), (1, .ref (a 0)), (2, .ref (b 0)), (3, .ref o), (4, .int (zI i))] → W p l e room_1 s m args below meth co H2 locs2 (cells + 1) (slots + 6) Q (F0 m 1430 ls2 [])) : W p l e room_1 s m args below meth co H locs cells slots Q (F0 m 1142 ls []) := by
  obtain ⟨hR, hI, hM⟩ := id h
  have hs := s_line h hB (sx xs (i + 1))
  have hk : kLine (sx xs (i + 1)) < 1000 := by unfold kLine; (repeat' split) <;> decide
  refine lv_aload_n S.1 S.2.1 dL_law_1142 rfl (lv_at hl 1 rfl) ?_
  refine l_arg S hx hS hl 0 4 rfl rfl (n := 1) (by omega) dL_law_1143 dL_law_1144 dL_law_1146 dL_law_1147 dL_law_1148 ?_
  refine lv_aload_n S.1 S.2.1 dL_law_1149 rfl (lv_at hl 3 rfl) ?_
  refine l_wrap (rest := []) (As := [.ref (a 0), .int (zI (sx xs (i + 1))), .ref o]) S hx (w_line l D g a o G c hI hst hx.2.2.1.1 hx.2.2.2.1 (sx xs (i + 1)) (sx_I xs (i + 1))) ml_L_125 sm_L_line cw_L_line ds_L_line ⟨Nat.le_of_ble_eq_true rfl, Nat.le_of_ble_eq_true rfl⟩ hP hS rfl hl.1 rfl (Nat.le_of_ble_eq_true rfl) hc dL_law_1150 (fun H locs hP hS => ?_)
  have hw : (if kLine (sx xs (i + 1)) = 0 then LW g a (sA c 9 (onL c 400)) o (oU G (lineT c (sx xs (i + 1)))) else LW g a c o G) = LW g a (if kLine (sx xs (i + 1)) = 0 then sA c 9 (onL c 400) else c) o (if kLine (sx xs (i + 1)) = 0 then oU G (lineT c (sx xs (i + 1))) else G) := by split <;> rfl
  rw [hw] at hP
  refine lv_istore (lv' := [(5, .int (zI (kLine (sx xs (i + 1)) : Nat))), (0, .ref sc), (1, .ref (a 0)), (2, .ref (b 0)), (3, .ref o), (4, .int (zI i))]) S.1 S.2.1 dL_law_1153 hl (by decide) rfl (fun ls hl => ?_)
  refine lv_aload_n S.1 S.2.1 dL_law_1155 rfl (lv_at hl 3 rfl) ?_
  refine l_arg S hx hS hl 1 5 rfl rfl (n := 1) (by omega) dL_law_1156 dL_law_1157 dL_law_1159 dL_law_1160 dL_law_1161 ?_
  refine l_ref (rest := []) (As := [.int (zI (sx xs (i + 1)))]) S hx (m_X5_line l D g b mm hM hx.2.2.1.2 (sx xs (i + 1)) (sx_I xs (i + 1))) ml_L_127 im_X5_line se_X5_line cd_X5_line ds_X5_line ⟨Nat.le_of_ble_eq_true rfl, Nat.le_of_ble_eq_true rfl⟩ hP hS rfl hl.1 rfl (Nat.le_of_ble_eq_true rfl) hc dL_law_1162 (fun H locs hP hS => ?_)
  refine lv_istore (lv' := [(6, .int (zI (mA (jLine (sx xs (i + 1))) (mLnT (sS mm 0 0) (sx xs (i + 1)))))), (5, .int (zI (kLine (sx xs (i + 1)) : Nat))), (0, .ref sc), (1, .ref (a 0)), (2, .ref (b 0)), (3, .ref o), (4, .int (zI i))]) S.1 S.2.1 dL_law_1165 hl (by decide) rfl (fun ls hl => ?_)
  refine l_tail S hx hs.2.1.2.2 (kd := kLine (sx xs (i + 1))) (jd := jLine (sx xs (i + 1))) (r := lineT c (sx xs (i + 1))) (r2 := mA (jLine (sx xs (i + 1))) (mLnT (sS mm 0 0) (sx xs (i + 1)))) hs.2.2.1 hs.1 hk (fun z => by rw [if_pos z]; exact pk_uLs) hs.2.2.2 hl 4 5 1 0 rfl rfl rfl rfl hP hS ⟨Nat.le_of_ble_eq_true rfl, Nat.le_of_ble_eq_true rfl⟩ hc dL_law_1167 dL_law_1168 dL_law_1171 dL_law_1173 dL_law_1178 dL_law_1180 dL_law_1183 dL_law_1184 dL_law_1185 dL_law_1186 dL_law_1188 dL_law_1189 dL_law_1190 ?_
  refine z_goto (tgt := 1430) S dL_law_1195 (by decide) ?_
  exact next _ _ _ _ _ _ hs.2.1 hP hS (lv_sub hl [2, 3, 4, 5, 6] rfl)
set_option maxHeartbeats 4000000 in
set_option maxRecDepth 100000 in
theorem lc_would (S : CallFix p m co cL_law 9 s args AW RL) (hx : LX D g a b o sc L xs s) (hst : l.stackTraces = false) (h : OK2 B c mm) (hB : 1000 ≤ B ∧ B ≤ 900000000) (hi : 0 ≤ i ∧ i + 6 < L) (hl : lv_has ls 9 [(0, .ref sc), (1, .ref (a 0)), (2, .ref (b 0)), (3, .ref o), (4, .int (zI i))]) (hP : va_P D vwCl (LW g a c o G ++ MW g b mm) H) (hS : va_S (fun q => s.heap.size ≤ q) s.heap H locs) (hc : cells + 1 ≤ 1086 ∧ slots + 6 ≤ 15587) (next : ∀ (c2 m2 : CS) (G2 : Nat → Int64) (H2 : Heap) (locs2 : List Loc) (ls2 : Array Slot), OK2 (B + 100000) c2 m2 → va_P D vwCl (LW g a c2 o G2 ++ MW g b m2) H2 → va_S (fun q => s.heap.size ≤ q) s.heap H2 locs2 → lv_has ls2 9 [(0, .ref sc), (1, .ref (a 0)), (2, .ref (b 0)), (3, .ref o), (4, .int (zI i))] → W p l e room_1 s m args below meth co H2 locs2 (cells + 1) (slots + 6) Q (F0 m 1430 ls2 [])) : W p l e room_1 s m args below meth co H locs cells slots Q (F0 m 1198 ls []) := by
  obtain ⟨hR, hI, hM⟩ := id h
  obtain ⟨fl9, hf9⟩ : ∃ f : Int, f = b01 (sx xs (i + 3) ≠ 0) := ⟨_, rfl⟩
  have hf : 0 ≤ fl9 ∧ fl9 ≤ 1 := by rw [hf9]; exact b01_01 _
  have hfI : I32 fl9 := by omega
  have hs := s_would h hB (sx xs (i + 1)) (sx xs (i + 2)) fl9 hf
  have hk : kWould c (sx xs (i + 1)) (sx xs (i + 2)) < 1000 := by unfold kWould; (repeat' split) <;> decide
  refine lv_aload_n S.1 S.2.1 dL_law_1198 rfl (lv_at hl 1 rfl) ?_
  refine l_arg S hx hS hl 0 4 rfl rfl (n := 1) (by omega) dL_law_1199 dL_law_1200 dL_law_1202 dL_law_1203 dL_law_1204 ?_
  refine l_arg S hx hS hl 0 4 rfl rfl (n := 2) (by omega) dL_law_1205 dL_law_1206 dL_law_1208 dL_law_1209 dL_law_1210 ?_
  refine l_arg S hx hS hl 0 4 rfl rfl (n := 3) (by omega) dL_law_1211 dL_law_1212 dL_law_1214 dL_law_1215 dL_law_1216 ?_
  refine l_flag S (sx_I xs (i + 3)) dL_law_1217 dL_law_1220 dL_law_1221 dL_law_1224 ?_
  rw [← hf9]
  refine lv_aload_n S.1 S.2.1 dL_law_1225 rfl (lv_at hl 3 rfl) ?_
  refine l_wrap (rest := []) (As := [.ref (a 0), .int (zI (sx xs (i + 1))), .int (zI (sx xs (i + 2))), .int (zI fl9), .ref o]) S hx (w_would l D g a o G c hI hst hx.2.2.1.1 hx.2.2.2.1 (sx xs (i + 1)) (sx xs (i + 2)) fl9 (sx_I xs (i + 1)) (sx_I xs (i + 2)) hfI hf) ml_L_128 sm_L_would cw_L_would ds_L_would ⟨Nat.le_of_ble_eq_true rfl, Nat.le_of_ble_eq_true rfl⟩ hP hS rfl hl.1 rfl (Nat.le_of_ble_eq_true rfl) hc dL_law_1226 (fun H locs hP hS => ?_)
  have hw : (if kWould c (sx xs (i + 1)) (sx xs (i + 2)) = 0 then LW g a (c) o (oU G (wouldT c (sx xs (i + 1)) (sx xs (i + 2)) fl9)) else LW g a c o G) = LW g a (if kWould c (sx xs (i + 1)) (sx xs (i + 2)) = 0 then c else c) o (if kWould c (sx xs (i + 1)) (sx xs (i + 2)) = 0 then oU G (wouldT c (sx xs (i + 1)) (sx xs (i + 2)) fl9) else G) := by split <;> rfl
  rw [hw] at hP
  refine lv_istore (lv' := [(5, .int (zI (kWould c (sx xs (i + 1)) (sx xs (i + 2)) : Nat))), (0, .ref sc), (1, .ref (a 0)), (2, .ref (b 0)), (3, .ref o), (4, .int (zI i))]) S.1 S.2.1 dL_law_1229 hl (by decide) rfl (fun ls hl => ?_)
  refine lv_aload_n S.1 S.2.1 dL_law_1231 rfl (lv_at hl 3 rfl) ?_
  refine l_arg S hx hS hl 1 5 rfl rfl (n := 1) (by omega) dL_law_1232 dL_law_1233 dL_law_1235 dL_law_1236 dL_law_1237 ?_
  refine l_arg S hx hS hl 1 5 rfl rfl (n := 2) (by omega) dL_law_1238 dL_law_1239 dL_law_1241 dL_law_1242 dL_law_1243 ?_
  refine l_arg S hx hS hl 1 5 rfl rfl (n := 3) (by omega) dL_law_1244 dL_law_1245 dL_law_1247 dL_law_1248 dL_law_1249 ?_
  refine l_flag S (sx_I xs (i + 3)) dL_law_1250 dL_law_1253 dL_law_1254 dL_law_1257 ?_
  rw [← hf9]
  refine l_ref (rest := []) (As := [.int (zI (sx xs (i + 1))), .int (zI (sx xs (i + 2))), .int (zI fl9)]) S hx (m_X5_would l D g b mm hM hx.2.2.1.2 (sx xs (i + 1)) (sx xs (i + 2)) fl9 (sx_I xs (i + 1)) (sx_I xs (i + 2)) hfI hf) ml_L_131 im_X5_would se_X5_would cd_X5_would ds_X5_would ⟨Nat.le_of_ble_eq_true rfl, Nat.le_of_ble_eq_true rfl⟩ hP hS rfl hl.1 rfl (Nat.le_of_ble_eq_true rfl) hc dL_law_1258 (fun H locs hP hS => ?_)
  refine lv_istore (lv' := [(6, .int (zI (mA (jWould mm (sx xs (i + 1)) (sx xs (i + 2))) (if mO mm (sx xs (i + 1)) then 0 else mSh (sS mm 0 0) (sx xs (i + 1)) (sx xs (i + 2)) fl9)))), (5, .int (zI (kWould c (sx xs (i + 1)) (sx xs (i + 2)) : Nat))), (0, .ref sc), (1, .ref (a 0)), (2, .ref (b 0)), (3, .ref o), (4, .int (zI i))]) S.1 S.2.1 dL_law_1261 hl (by decide) rfl (fun ls hl => ?_)
  refine l_tail S hx hs.2.1.2.2 (kd := kWould c (sx xs (i + 1)) (sx xs (i + 2))) (jd := jWould mm (sx xs (i + 1)) (sx xs (i + 2))) (r := wouldT c (sx xs (i + 1)) (sx xs (i + 2)) fl9) (r2 := mA (jWould mm (sx xs (i + 1)) (sx xs (i + 2))) (if mO mm (sx xs (i + 1)) then 0 else mSh (sS mm 0 0) (sx xs (i + 1)) (sx xs (i + 2)) fl9)) hs.2.2.1 hs.1 hk (fun z => by rw [if_pos z]; exact pk_uLs) hs.2.2.2 hl 4 5 1 0 rfl rfl rfl rfl hP hS ⟨Nat.le_of_ble_eq_true rfl, Nat.le_of_ble_eq_true rfl⟩ hc dL_law_1263 dL_law_1264 dL_law_1267 dL_law_1269 dL_law_1274 dL_law_1276 dL_law_1279 dL_law_1280 dL_law_1281 dL_law_1282 dL_law_1284 dL_law_1285 dL_law_1286 ?_
  refine z_goto (tgt := 1430) S dL_law_1291 (by decide) ?_
  exact next _ _ _ _ _ _ hs.2.1 hP hS (lv_sub hl [2, 3, 4, 5, 6] rfl)
set_option maxHeartbeats 4000000 in
set_option maxRecDepth 100000 in
theorem lc_best (S : CallFix p m co cL_law 9 s args AW RL) (hx : LX D g a b o sc L xs s) (hst : l.stackTraces = false) (h : OK2 B c mm) (hB : 1000 ≤ B ∧ B ≤ 900000000) (hi : 0 ≤ i ∧ i + 6 < L) (hl : lv_has ls 9 [(0, .ref sc), (1, .ref (a 0)), (2, .ref (b 0)), (3, .ref o), (4, .int (zI i))]) (hP : va_P D vwCl (LW g a c o G ++ MW g b mm) H) (hS : va_S (fun q => s.heap.size ≤ q) s.heap H locs) (hc : cells + 1 ≤ 1086 ∧ slots + 6 ≤ 15587) (next : ∀ (c2 m2 : CS) (G2 : Nat → Int64) (H2 : Heap) (locs2 : List Loc) (ls2 : Array Slot), OK2 (B + 100000) c2 m2 → va_P D vwCl (LW g a c2 o G2 ++ MW g b m2) H2 → va_S (fun q => s.heap.size ≤ q) s.heap H2 locs2 → lv_has ls2 9 [(0, .ref sc), (1, .ref (a 0)), (2, .ref (b 0)), (3, .ref o), (4, .int (zI i))] → W p l e room_1 s m args below meth co H2 locs2 (cells + 1) (slots + 6) Q (F0 m 1430 ls2 [])) : W p l e room_1 s m args below meth co H locs cells slots Q (F0 m 1294 ls []) := by
  obtain ⟨hR, hI, hM⟩ := id h
  have hs := s_best h hB (sx xs (i + 1)) (sx xs (i + 2))
  have hk : kBest c (sx xs (i + 1)) (sx xs (i + 2)) < 1000 := by unfold kBest; (repeat' split) <;> decide
  refine lv_aload_n S.1 S.2.1 dL_law_1294 rfl (lv_at hl 1 rfl) ?_
  refine l_arg S hx hS hl 0 4 rfl rfl (n := 1) (by omega) dL_law_1295 dL_law_1296 dL_law_1298 dL_law_1299 dL_law_1300 ?_
  refine l_arg S hx hS hl 0 4 rfl rfl (n := 2) (by omega) dL_law_1301 dL_law_1302 dL_law_1304 dL_law_1305 dL_law_1306 ?_
  refine lv_aload_n S.1 S.2.1 dL_law_1307 rfl (lv_at hl 3 rfl) ?_
  refine l_wrap (rest := []) (As := [.ref (a 0), .int (zI (sx xs (i + 1))), .int (zI (sx xs (i + 2))), .ref o]) S hx (w_best l D g a o G c hI hst hx.2.2.1.1 hx.2.2.2.1 (sx xs (i + 1)) (sx xs (i + 2)) (sx_I xs (i + 1)) (sx_I xs (i + 2))) ml_L_132 sm_L_best cw_L_best ds_L_best ⟨Nat.le_of_ble_eq_true rfl, Nat.le_of_ble_eq_true rfl⟩ hP hS rfl hl.1 rfl (Nat.le_of_ble_eq_true rfl) hc dL_law_1308 (fun H locs hP hS => ?_)
  have hw : (if kBest c (sx xs (i + 1)) (sx xs (i + 2)) = 0 then LW g a (c) o (oU G (bestT c (sx xs (i + 1)) (sx xs (i + 2)))) else LW g a c o G) = LW g a (if kBest c (sx xs (i + 1)) (sx xs (i + 2)) = 0 then c else c) o (if kBest c (sx xs (i + 1)) (sx xs (i + 2)) = 0 then oU G (bestT c (sx xs (i + 1)) (sx xs (i + 2))) else G) := by split <;> rfl
  rw [hw] at hP
  refine lv_istore (lv' := [(5, .int (zI (kBest c (sx xs (i + 1)) (sx xs (i + 2)) : Nat))), (0, .ref sc), (1, .ref (a 0)), (2, .ref (b 0)), (3, .ref o), (4, .int (zI i))]) S.1 S.2.1 dL_law_1311 hl (by decide) rfl (fun ls hl => ?_)
  refine lv_aload_n S.1 S.2.1 dL_law_1313 rfl (lv_at hl 3 rfl) ?_
  refine l_arg S hx hS hl 1 5 rfl rfl (n := 1) (by omega) dL_law_1314 dL_law_1315 dL_law_1317 dL_law_1318 dL_law_1319 ?_
  refine l_arg S hx hS hl 1 5 rfl rfl (n := 2) (by omega) dL_law_1320 dL_law_1321 dL_law_1323 dL_law_1324 dL_law_1325 ?_
  refine l_ref (rest := []) (As := [.int (zI (sx xs (i + 1))), .int (zI (sx xs (i + 2)))]) S hx (m_X5_best l D g b mm hM hx.2.2.1.2 (sx xs (i + 1)) (sx xs (i + 2)) (sx_I xs (i + 1)) (sx_I xs (i + 2))) ml_L_134 im_X5_best se_X5_best cd_X5_best ds_X5_best ⟨Nat.le_of_ble_eq_true rfl, Nat.le_of_ble_eq_true rfl⟩ hP hS rfl hl.1 rfl (Nat.le_of_ble_eq_true rfl) hc dL_law_1326 (fun H locs hP hS => ?_)
  refine lv_istore (lv' := [(6, .int (zI (mA (jBest mm (sx xs (i + 1)) (sx xs (i + 2))) (mBsT (sS mm 0 0) (sx xs (i + 1)) (sx xs (i + 2)))))), (5, .int (zI (kBest c (sx xs (i + 1)) (sx xs (i + 2)) : Nat))), (0, .ref sc), (1, .ref (a 0)), (2, .ref (b 0)), (3, .ref o), (4, .int (zI i))]) S.1 S.2.1 dL_law_1329 hl (by decide) rfl (fun ls hl => ?_)
  refine l_tail S hx hs.2.1.2.2 (kd := kBest c (sx xs (i + 1)) (sx xs (i + 2))) (jd := jBest mm (sx xs (i + 1)) (sx xs (i + 2))) (r := bestT c (sx xs (i + 1)) (sx xs (i + 2))) (r2 := mA (jBest mm (sx xs (i + 1)) (sx xs (i + 2))) (mBsT (sS mm 0 0) (sx xs (i + 1)) (sx xs (i + 2)))) hs.2.2.1 hs.1 hk (fun z => by rw [if_pos z]; exact pk_uLs) hs.2.2.2 hl 4 5 1 0 rfl rfl rfl rfl hP hS ⟨Nat.le_of_ble_eq_true rfl, Nat.le_of_ble_eq_true rfl⟩ hc dL_law_1331 dL_law_1332 dL_law_1335 dL_law_1337 dL_law_1342 dL_law_1344 dL_law_1347 dL_law_1348 dL_law_1349 dL_law_1350 dL_law_1352 dL_law_1353 dL_law_1354 ?_
  refine z_goto (tgt := 1430) S dL_law_1359 (by decide) ?_
  exact next _ _ _ _ _ _ hs.2.1 hP hS (lv_sub hl [2, 3, 4, 5, 6] rfl)
end LCS
