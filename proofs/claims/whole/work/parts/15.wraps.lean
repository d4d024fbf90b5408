/-! THE LAW'S WRAPPERS, ONE BY ONE -/
set_option maxHeartbeats 4000000 in
set_option maxRecDepth 100000 in
theorem w_vein (l : Launch) (D : va_G) (g : ClassId × ClassId × ClassId) (a : Nat → Nat) (o : Nat) (G : Nat → Int64) {B : Int} (c : CS) (hI : IC B c) (hst : l.stackTraces = false) (hda : CD 21 a) (ho : ∀ k : Nat, k < 21 → o ≠ a k) (x : Int) (y : Int) (tx : Int) (ty : Int) (dp : Int) (fl : Int) (i0 : I32 x) (i1 : I32 y) (i2 : I32 tx) (i3 : I32 ty) (i4 : I32 dp) (i5 : I32 fl) (hB : B ≤ 900000000) : LM l yL_vein cL_vein 9 [(0, 18, 21, 13), (0, 18, 25, 15), (0, 18, 29, 17)] 7 149 D g (LA a o) (LW g a c o G) [.ref (a 0), .int (zI x), .int (zI y), .int (zI tx), .int (zI ty), .int (zI dp), .int (zI fl), .ref o] (if kVein c x y tx ty dp fl = 0 then LW g a (veinC c x y tx ty dp fl) o (oU G (c.1 2)) else LW g a c o G) (kVein c x y tx ty dp fl) := by
  refine l_enter RL (by decide) rfl (Nat.le_of_ble_eq_true rfl) ?_
  intro p e s m args below meth co S hr hlk hX hZ htab hP ls hl
  have hl : lv_has ls 9 [(0, .ref (a 0)), (1, .int (zI x)), (2, .int (zI y)), (3, .int (zI tx)), (4, .int (zI ty)), (5, .int (zI dp)), (6, .int (zI fl)), (7, .ref o)] := hl
  have hP : va_P D vwCl (CW g a c ++ [(o, .inl (g.2.2, 1, .inr (.inl G)))]) s.heap := hP
  refine lv_aload S.1 S.2.1 dL_vein_0 (lv_at hl 7 rfl) ?_
  refine z_iconst S dL_vein_2 ?_
  refine lv_aload_n S.1 S.2.1 dL_vein_3 rfl (lv_at hl 0 rfl) ?_
  refine lv_iload_n S.1 S.2.1 dL_vein_4 rfl (lv_at hl 1 rfl) ?_
  refine lv_iload_n S.1 S.2.1 dL_vein_5 rfl (lv_at hl 2 rfl) ?_
  refine lv_iload_n S.1 S.2.1 dL_vein_6 rfl (lv_at hl 3 rfl) ?_
  refine lv_iload S.1 S.2.1 dL_vein_7 (lv_at hl 4 rfl) ?_
  refine lv_iload S.1 S.2.1 dL_vein_9 (lv_at hl 5 rfl) ?_
  refine lv_iload S.1 S.2.1 dL_vein_11 (lv_at hl 6 rfl) ?_
  refine l_call (c0 := c) (As := [.int (zI x), .int (zI y), .int (zI tx), .int (zI ty), .int (zI dp), .int (zI fl)]) (rest := [.int (zI 0), .ref o]) S (m_X4_vein l D g a c hI hst hda x y tx ty dp fl i0 i1 i2 i3 i4 i5 hB) ml_L_7 im_X4_vein se_X4_vein ini_X4 cd_X4_vein ds_X4_vein ⟨Nat.le_of_ble_eq_true rfl, Nat.le_of_ble_eq_true rfl⟩ hX hZ hP ho (va_recv hX.1.1 hP (ci := 4) (q0 := 0) rfl rfl) rfl hl.1 rfl (Nat.le_of_ble_eq_true rfl) ⟨Nat.le_of_ble_eq_true rfl, Nat.le_of_ble_eq_true rfl⟩ dL_vein_13 (fun E ce q9 H locs hx hP hS hc1 hc2 hc3 => ?_) (fun hok H locs hP hS => ?_)
  · rcases hx with ⟨hk, rfl⟩ | ⟨hk, rfl⟩ | ⟨hk, rfl⟩
    · refine vx_catch (name := eI) (E := eI) S.2.2.2.1 [] ⟨0, 18, 21, 13⟩ [⟨0, 18, 25, 15⟩, ⟨0, 18, 29, 17⟩] (by rw [htab]; rfl) (fun z hz => absurd hz List.not_mem_nil) (by decide) (by decide) (S.2.2.2.2 _ cl_L_13) (xw_use (XWl_x _ cx_I) (hX.2.1 _ cx_I)) hc1 hc2 hc3 ?_
      refine lv_astore (lv' := [(8, .ref q9), (0, .ref (a 0)), (1, .int (zI x)), (2, .int (zI y)), (3, .int (zI tx)), (4, .int (zI ty)), (5, .int (zI dp)), (6, .int (zI fl)), (7, .ref o)]) S.1 S.2.1 dL_vein_21 hl (by decide) rfl (fun ls hl => ?_)
      refine z_iconst S dL_vein_23 ?_
      have hw : CW g a c ++ [(o, .inl (g.2.2, 1, .inr (.inl G)))] = (if kVein c x y tx ty dp fl = 0 then LW g a (veinC c x y tx ty dp fl) o (oU G (c.1 2)) else LW g a c o G) := by rw [if_neg (by omega)]; rfl
      rw [hw] at hP
      exact l_ret S hr hlk (by rw [hk]; rfl) hP hS dL_vein_24
    · refine vx_catch (name := eA) (E := eA) S.2.2.2.1 [⟨0, 18, 21, 13⟩] ⟨0, 18, 25, 15⟩ [⟨0, 18, 29, 17⟩] (by rw [htab]; rfl) (fun z hz => (List.mem_cons.mp hz).elim (fun h => by subst h; exact Or.inr ⟨by decide, eI, S.2.2.2.2 _ cl_L_13, hX.2.2.2 (eA, eI) (by decide +kernel)⟩) (fun hz => (fun z hz => absurd hz List.not_mem_nil) z hz)) (by decide) (by decide) (S.2.2.2.2 _ cl_L_15) (xw_use (XWl_x _ cx_A) (hX.2.1 _ cx_A)) hc1 hc2 hc3 ?_
      refine lv_astore (lv' := [(8, .ref q9), (0, .ref (a 0)), (1, .int (zI x)), (2, .int (zI y)), (3, .int (zI tx)), (4, .int (zI ty)), (5, .int (zI dp)), (6, .int (zI fl)), (7, .ref o)]) S.1 S.2.1 dL_vein_25 hl (by decide) rfl (fun ls hl => ?_)
      refine z_iconst S dL_vein_27 ?_
      have hw : CW g a c ++ [(o, .inl (g.2.2, 1, .inr (.inl G)))] = (if kVein c x y tx ty dp fl = 0 then LW g a (veinC c x y tx ty dp fl) o (oU G (c.1 2)) else LW g a c o G) := by rw [if_neg (by omega)]; rfl
      rw [hw] at hP
      exact l_ret S hr hlk (by rw [hk]; rfl) hP hS dL_vein_28
    · refine vx_catch (name := eS) (E := eS) S.2.2.2.1 [⟨0, 18, 21, 13⟩, ⟨0, 18, 25, 15⟩] ⟨0, 18, 29, 17⟩ [] (by rw [htab]; rfl) (fun z hz => (List.mem_cons.mp hz).elim (fun h => by subst h; exact Or.inr ⟨by decide, eI, S.2.2.2.2 _ cl_L_13, hX.2.2.2 (eS, eI) (by decide +kernel)⟩) (fun hz => (fun z hz => (List.mem_cons.mp hz).elim (fun h => by subst h; exact Or.inr ⟨by decide, eA, S.2.2.2.2 _ cl_L_15, hX.2.2.2 (eS, eA) (by decide +kernel)⟩) (fun hz => (fun z hz => absurd hz List.not_mem_nil) z hz)) z hz)) (by decide) (by decide) (S.2.2.2.2 _ cl_L_17) (xw_use (XWl_x _ cx_S) (hX.2.1 _ cx_S)) hc1 hc2 hc3 ?_
      refine lv_astore (lv' := [(8, .ref q9), (0, .ref (a 0)), (1, .int (zI x)), (2, .int (zI y)), (3, .int (zI tx)), (4, .int (zI ty)), (5, .int (zI dp)), (6, .int (zI fl)), (7, .ref o)]) S.1 S.2.1 dL_vein_29 hl (by decide) rfl (fun ls hl => ?_)
      refine z_iconst S dL_vein_31 ?_
      have hw : CW g a c ++ [(o, .inl (g.2.2, 1, .inr (.inl G)))] = (if kVein c x y tx ty dp fl = 0 then LW g a (veinC c x y tx ty dp fl) o (oU G (c.1 2)) else LW g a c o G) := by rw [if_neg (by omega)]; rfl
      rw [hw] at hP
      exact l_ret S hr hlk (by rw [hk]; rfl) hP hS dL_vein_32
  · refine lv_i2l (v := (zI (c.1 2)).toInt64) S.1 S.2.1 dL_vein_16 rfl ?_
    refine l_set S hX hP hda ho hS dL_vein_17 (fun H locs hP hS => ?_)
    refine z_goto (tgt := 33) S dL_vein_18 (by decide) ?_
    refine z_iconst S dL_vein_33 ?_
    have hw : LW g a (veinC c x y tx ty dp fl) o (oU G (c.1 2)) = (if kVein c x y tx ty dp fl = 0 then LW g a (veinC c x y tx ty dp fl) o (oU G (c.1 2)) else LW g a c o G) := by rw [if_pos hok]
    rw [hw] at hP
    exact l_ret S hr hlk (by rw [hok]; rfl) hP hS dL_vein_34
set_option maxHeartbeats 4000000 in
set_option maxRecDepth 100000 in
theorem w_dowser (l : Launch) (D : va_G) (g : ClassId × ClassId × ClassId) (a : Nat → Nat) (o : Nat) (G : Nat → Int64) {B : Int} (c : CS) (hI : IC B c) (hst : l.stackTraces = false) (hda : CD 21 a) (ho : ∀ k : Nat, k < 21 → o ≠ a k) (fl : Int) (ln : Int) (i0 : I32 fl) (i1 : I32 ln) : LM l yL_dowser cL_dowser 5 [(0, 10, 13, 15), (0, 10, 17, 17)] 7 112 D g (LA a o) (LW g a c o G) [.ref (a 0), .int (zI fl), .int (zI ln), .ref o] (if kDow c fl ln = 0 then LW g a (dowC c fl ln) o (oU G (c.1 3)) else LW g a c o G) (kDow c fl ln) := by
  refine l_enter RL (by decide) rfl (Nat.le_of_ble_eq_true rfl) ?_
  intro p e s m args below meth co S hr hlk hX hZ htab hP ls hl
  have hl : lv_has ls 5 [(0, .ref (a 0)), (1, .int (zI fl)), (2, .int (zI ln)), (3, .ref o)] := hl
  have hP : va_P D vwCl (CW g a c ++ [(o, .inl (g.2.2, 1, .inr (.inl G)))]) s.heap := hP
  refine lv_aload_n S.1 S.2.1 dL_dowser_0 rfl (lv_at hl 3 rfl) ?_
  refine z_iconst S dL_dowser_1 ?_
  refine lv_aload_n S.1 S.2.1 dL_dowser_2 rfl (lv_at hl 0 rfl) ?_
  refine lv_iload_n S.1 S.2.1 dL_dowser_3 rfl (lv_at hl 1 rfl) ?_
  refine lv_iload_n S.1 S.2.1 dL_dowser_4 rfl (lv_at hl 2 rfl) ?_
  refine l_call (c0 := c) (As := [.int (zI fl), .int (zI ln)]) (rest := [.int (zI 0), .ref o]) S (m_X4_dowser l D g a c hI hst hda fl ln i0 i1) ml_L_19 im_X4_dowser se_X4_dowser ini_X4 cd_X4_dowser ds_X4_dowser ⟨Nat.le_of_ble_eq_true rfl, Nat.le_of_ble_eq_true rfl⟩ hX hZ hP ho (va_recv hX.1.1 hP (ci := 4) (q0 := 0) rfl rfl) rfl hl.1 rfl (Nat.le_of_ble_eq_true rfl) ⟨Nat.le_of_ble_eq_true rfl, Nat.le_of_ble_eq_true rfl⟩ dL_dowser_5 (fun E ce q9 H locs hx hP hS hc1 hc2 hc3 => ?_) (fun hok H locs hP hS => ?_)
  · rcases hx with ⟨hk, rfl⟩ | ⟨hk, rfl⟩
    · refine vx_catch (name := eA) (E := eA) S.2.2.2.1 [] ⟨0, 10, 13, 15⟩ [⟨0, 10, 17, 17⟩] (by rw [htab]; rfl) (fun z hz => absurd hz List.not_mem_nil) (by decide) (by decide) (S.2.2.2.2 _ cl_L_15) (xw_use (XWl_x _ cx_A) (hX.2.1 _ cx_A)) hc1 hc2 hc3 ?_
      refine lv_astore (lv' := [(4, .ref q9), (0, .ref (a 0)), (1, .int (zI fl)), (2, .int (zI ln)), (3, .ref o)]) S.1 S.2.1 dL_dowser_13 hl (by decide) rfl (fun ls hl => ?_)
      refine z_iconst S dL_dowser_15 ?_
      have hw : CW g a c ++ [(o, .inl (g.2.2, 1, .inr (.inl G)))] = (if kDow c fl ln = 0 then LW g a (dowC c fl ln) o (oU G (c.1 3)) else LW g a c o G) := by rw [if_neg (by omega)]; rfl
      rw [hw] at hP
      exact l_ret S hr hlk (by rw [hk]; rfl) hP hS dL_dowser_16
    · refine vx_catch (name := eS) (E := eS) S.2.2.2.1 [⟨0, 10, 13, 15⟩] ⟨0, 10, 17, 17⟩ [] (by rw [htab]; rfl) (fun z hz => (List.mem_cons.mp hz).elim (fun h => by subst h; exact Or.inr ⟨by decide, eA, S.2.2.2.2 _ cl_L_15, hX.2.2.2 (eS, eA) (by decide +kernel)⟩) (fun hz => (fun z hz => absurd hz List.not_mem_nil) z hz)) (by decide) (by decide) (S.2.2.2.2 _ cl_L_17) (xw_use (XWl_x _ cx_S) (hX.2.1 _ cx_S)) hc1 hc2 hc3 ?_
      refine lv_astore (lv' := [(4, .ref q9), (0, .ref (a 0)), (1, .int (zI fl)), (2, .int (zI ln)), (3, .ref o)]) S.1 S.2.1 dL_dowser_17 hl (by decide) rfl (fun ls hl => ?_)
      refine z_iconst S dL_dowser_19 ?_
      have hw : CW g a c ++ [(o, .inl (g.2.2, 1, .inr (.inl G)))] = (if kDow c fl ln = 0 then LW g a (dowC c fl ln) o (oU G (c.1 3)) else LW g a c o G) := by rw [if_neg (by omega)]; rfl
      rw [hw] at hP
      exact l_ret S hr hlk (by rw [hk]; rfl) hP hS dL_dowser_20
  · refine lv_i2l (v := (zI (c.1 3)).toInt64) S.1 S.2.1 dL_dowser_8 rfl ?_
    refine l_set S hX hP hda ho hS dL_dowser_9 (fun H locs hP hS => ?_)
    refine z_goto (tgt := 21) S dL_dowser_10 (by decide) ?_
    refine z_iconst S dL_dowser_21 ?_
    have hw : LW g a (dowC c fl ln) o (oU G (c.1 3)) = (if kDow c fl ln = 0 then LW g a (dowC c fl ln) o (oU G (c.1 3)) else LW g a c o G) := by rw [if_pos hok]
    rw [hw] at hP
    exact l_ret S hr hlk (by rw [hok]; rfl) hP hS dL_dowser_22
set_option maxHeartbeats 4000000 in
set_option maxRecDepth 100000 in
theorem w_setMark (l : Launch) (D : va_G) (g : ClassId × ClassId × ClassId) (a : Nat → Nat) (o : Nat) (G : Nat → Int64) {B : Int} (c : CS) (hI : IC B c) (hst : l.stackTraces = false) (hda : CD 21 a) (ho : ∀ k : Nat, k < 21 → o ≠ a k) (mk : Int) (i0 : I32 mk) : LM l yL_setMark cL_setMark 4 [(0, 9, 12, 15)] 7 112 D g (LA a o) (LW g a c o G) [.ref (a 0), .int (zI mk), .ref o] (if kMark mk = 0 then LW g a (sS c 0 mk) o (oU G (c.1 0)) else LW g a c o G) (kMark mk) := by
  refine l_enter RL (by decide) rfl (Nat.le_of_ble_eq_true rfl) ?_
  intro p e s m args below meth co S hr hlk hX hZ htab hP ls hl
  have hl : lv_has ls 4 [(0, .ref (a 0)), (1, .int (zI mk)), (2, .ref o)] := hl
  have hP : va_P D vwCl (CW g a c ++ [(o, .inl (g.2.2, 1, .inr (.inl G)))]) s.heap := hP
  refine lv_aload_n S.1 S.2.1 dL_setMark_0 rfl (lv_at hl 2 rfl) ?_
  refine z_iconst S dL_setMark_1 ?_
  refine lv_aload_n S.1 S.2.1 dL_setMark_2 rfl (lv_at hl 0 rfl) ?_
  refine lv_iload_n S.1 S.2.1 dL_setMark_3 rfl (lv_at hl 1 rfl) ?_
  refine l_call (c0 := c) (As := [.int (zI mk)]) (rest := [.int (zI 0), .ref o]) S (m_X4_setMark l D g a c hI hst hda mk i0) ml_L_23 im_X4_setMark se_X4_setMark ini_X4 cd_X4_setMark ds_X4_setMark ⟨Nat.le_of_ble_eq_true rfl, Nat.le_of_ble_eq_true rfl⟩ hX hZ hP ho (va_recv hX.1.1 hP (ci := 4) (q0 := 0) rfl rfl) rfl hl.1 rfl (Nat.le_of_ble_eq_true rfl) ⟨Nat.le_of_ble_eq_true rfl, Nat.le_of_ble_eq_true rfl⟩ dL_setMark_4 (fun E ce q9 H locs hx hP hS hc1 hc2 hc3 => ?_) (fun hok H locs hP hS => ?_)
  · rcases hx with ⟨hk, rfl⟩
    · refine vx_catch (name := eA) (E := eA) S.2.2.2.1 [] ⟨0, 9, 12, 15⟩ [] (by rw [htab]; rfl) (fun z hz => absurd hz List.not_mem_nil) (by decide) (by decide) (S.2.2.2.2 _ cl_L_15) (xw_use (XWl_x _ cx_A) (hX.2.1 _ cx_A)) hc1 hc2 hc3 ?_
      refine lv_astore_n (lv' := [(3, .ref q9), (0, .ref (a 0)), (1, .int (zI mk)), (2, .ref o)]) S.1 S.2.1 dL_setMark_12 rfl hl (by decide) rfl (fun ls hl => ?_)
      refine z_iconst S dL_setMark_13 ?_
      have hw : CW g a c ++ [(o, .inl (g.2.2, 1, .inr (.inl G)))] = (if kMark mk = 0 then LW g a (sS c 0 mk) o (oU G (c.1 0)) else LW g a c o G) := by rw [if_neg (by omega)]; rfl
      rw [hw] at hP
      exact l_ret S hr hlk (by rw [hk]; rfl) hP hS dL_setMark_14
  · refine lv_i2l (v := (zI (c.1 0)).toInt64) S.1 S.2.1 dL_setMark_7 rfl ?_
    refine l_set S hX hP hda ho hS dL_setMark_8 (fun H locs hP hS => ?_)
    refine z_goto (tgt := 15) S dL_setMark_9 (by decide) ?_
    refine z_iconst S dL_setMark_15 ?_
    have hw : LW g a (sS c 0 mk) o (oU G (c.1 0)) = (if kMark mk = 0 then LW g a (sS c 0 mk) o (oU G (c.1 0)) else LW g a c o G) := by rw [if_pos hok]
    rw [hw] at hP
    exact l_ret S hr hlk (by rw [hok]; rfl) hP hS dL_setMark_16
set_option maxHeartbeats 4000000 in
set_option maxRecDepth 100000 in
theorem w_walk (l : Launch) (D : va_G) (g : ClassId × ClassId × ClassId) (a : Nat → Nat) (o : Nat) (G : Nat → Int64) {B : Int} (c : CS) (hI : IC B c) (hst : l.stackTraces = false) (hda : CD 21 a) (ho : ∀ k : Nat, k < 21 → o ≠ a k) (d : Int) (x : Int) (y : Int) (tx : Int) (ty : Int) (i0 : I32 d) (i1 : I32 x) (i2 : I32 y) (i3 : I32 tx) (i4 : I32 ty) : LM l yL_walk cL_walk 8 [(0, 16, 19, 13)] 7 122 D g (LA a o) (LW g a c o G) [.ref (a 0), .int (zI d), .int (zI x), .int (zI y), .int (zI tx), .int (zI ty), .ref o] (if kWalk c d x y tx ty = 0 then LW g a (walkC c d x y tx ty) o (oU G (walkR c d x y tx ty)) else LW g a c o G) (kWalk c d x y tx ty) := by
  refine l_enter RL (by decide) rfl (Nat.le_of_ble_eq_true rfl) ?_
  intro p e s m args below meth co S hr hlk hX hZ htab hP ls hl
  have hl : lv_has ls 8 [(0, .ref (a 0)), (1, .int (zI d)), (2, .int (zI x)), (3, .int (zI y)), (4, .int (zI tx)), (5, .int (zI ty)), (6, .ref o)] := hl
  have hP : va_P D vwCl (CW g a c ++ [(o, .inl (g.2.2, 1, .inr (.inl G)))]) s.heap := hP
  refine lv_aload S.1 S.2.1 dL_walk_0 (lv_at hl 6 rfl) ?_
  refine z_iconst S dL_walk_2 ?_
  refine lv_aload_n S.1 S.2.1 dL_walk_3 rfl (lv_at hl 0 rfl) ?_
  refine lv_iload_n S.1 S.2.1 dL_walk_4 rfl (lv_at hl 1 rfl) ?_
  refine lv_iload_n S.1 S.2.1 dL_walk_5 rfl (lv_at hl 2 rfl) ?_
  refine lv_iload_n S.1 S.2.1 dL_walk_6 rfl (lv_at hl 3 rfl) ?_
  refine lv_iload S.1 S.2.1 dL_walk_7 (lv_at hl 4 rfl) ?_
  refine lv_iload S.1 S.2.1 dL_walk_9 (lv_at hl 5 rfl) ?_
  refine l_call (c0 := c) (As := [.int (zI d), .int (zI x), .int (zI y), .int (zI tx), .int (zI ty)]) (rest := [.int (zI 0), .ref o]) S (m_X4_walk l D g a c hI hst hda d x y tx ty i0 i1 i2 i3 i4) ml_L_27 im_X4_walk se_X4_walk ini_X4 cd_X4_walk ds_X4_walk ⟨Nat.le_of_ble_eq_true rfl, Nat.le_of_ble_eq_true rfl⟩ hX hZ hP ho (va_recv hX.1.1 hP (ci := 4) (q0 := 0) rfl rfl) rfl hl.1 rfl (Nat.le_of_ble_eq_true rfl) ⟨Nat.le_of_ble_eq_true rfl, Nat.le_of_ble_eq_true rfl⟩ dL_walk_11 (fun E ce q9 H locs hx hP hS hc1 hc2 hc3 => ?_) (fun hok H locs hP hS => ?_)
  · rcases hx with ⟨hk, rfl⟩
    · refine vx_catch (name := eI) (E := eI) S.2.2.2.1 [] ⟨0, 16, 19, 13⟩ [] (by rw [htab]; rfl) (fun z hz => absurd hz List.not_mem_nil) (by decide) (by decide) (S.2.2.2.2 _ cl_L_13) (xw_use (XWl_x _ cx_I) (hX.2.1 _ cx_I)) hc1 hc2 hc3 ?_
      refine lv_astore (lv' := [(7, .ref q9), (0, .ref (a 0)), (1, .int (zI d)), (2, .int (zI x)), (3, .int (zI y)), (4, .int (zI tx)), (5, .int (zI ty)), (6, .ref o)]) S.1 S.2.1 dL_walk_19 hl (by decide) rfl (fun ls hl => ?_)
      refine z_iconst S dL_walk_21 ?_
      have hw : CW g a c ++ [(o, .inl (g.2.2, 1, .inr (.inl G)))] = (if kWalk c d x y tx ty = 0 then LW g a (walkC c d x y tx ty) o (oU G (walkR c d x y tx ty)) else LW g a c o G) := by rw [if_neg (by omega)]; rfl
      rw [hw] at hP
      exact l_ret S hr hlk (by rw [hk]; rfl) hP hS dL_walk_22
  · refine lv_i2l (v := (zI (walkR c d x y tx ty)).toInt64) S.1 S.2.1 dL_walk_14 rfl ?_
    refine l_set S hX hP hda ho hS dL_walk_15 (fun H locs hP hS => ?_)
    refine z_goto (tgt := 23) S dL_walk_16 (by decide) ?_
    refine z_iconst S dL_walk_23 ?_
    have hw : LW g a (walkC c d x y tx ty) o (oU G (walkR c d x y tx ty)) = (if kWalk c d x y tx ty = 0 then LW g a (walkC c d x y tx ty) o (oU G (walkR c d x y tx ty)) else LW g a c o G) := by rw [if_pos hok]
    rw [hw] at hP
    exact l_ret S hr hlk (by rw [hok]; rfl) hP hS dL_walk_24
set_option maxHeartbeats 4000000 in
set_option maxRecDepth 100000 in
theorem w_pull (l : Launch) (D : va_G) (g : ClassId × ClassId × ClassId) (a : Nat → Nat) (o : Nat) (G : Nat → Int64) {B : Int} (c : CS) (hI : IC B c) (hst : l.stackTraces = false) (hda : CD 21 a) (ho : ∀ k : Nat, k < 21 → o ≠ a k) (x : Int) (y : Int) (i0 : I32 x) (i1 : I32 y) : LM l yL_pull cL_pull 5 [(0, 10, 13, 13), (0, 10, 17, 17)] 7 113 D g (LA a o) (LW g a c o G) [.ref (a 0), .int (zI x), .int (zI y), .ref o] (if kPull c x y = 0 then LW g a (pullC c x y) o (oU G (c.2 8 (y * 20 + x))) else LW g a c o G) (kPull c x y) := by
  refine l_enter RL (by decide) rfl (Nat.le_of_ble_eq_true rfl) ?_
  intro p e s m args below meth co S hr hlk hX hZ htab hP ls hl
  have hl : lv_has ls 5 [(0, .ref (a 0)), (1, .int (zI x)), (2, .int (zI y)), (3, .ref o)] := hl
  have hP : va_P D vwCl (CW g a c ++ [(o, .inl (g.2.2, 1, .inr (.inl G)))]) s.heap := hP
  refine lv_aload_n S.1 S.2.1 dL_pull_0 rfl (lv_at hl 3 rfl) ?_
  refine z_iconst S dL_pull_1 ?_
  refine lv_aload_n S.1 S.2.1 dL_pull_2 rfl (lv_at hl 0 rfl) ?_
  refine lv_iload_n S.1 S.2.1 dL_pull_3 rfl (lv_at hl 1 rfl) ?_
  refine lv_iload_n S.1 S.2.1 dL_pull_4 rfl (lv_at hl 2 rfl) ?_
  refine l_call (c0 := c) (As := [.int (zI x), .int (zI y)]) (rest := [.int (zI 0), .ref o]) S (m_X4_pull l D g a c hI hst hda x y i0 i1) ml_L_31 im_X4_pull se_X4_pull ini_X4 cd_X4_pull ds_X4_pull ⟨Nat.le_of_ble_eq_true rfl, Nat.le_of_ble_eq_true rfl⟩ hX hZ hP ho (va_recv hX.1.1 hP (ci := 4) (q0 := 0) rfl rfl) rfl hl.1 rfl (Nat.le_of_ble_eq_true rfl) ⟨Nat.le_of_ble_eq_true rfl, Nat.le_of_ble_eq_true rfl⟩ dL_pull_5 (fun E ce q9 H locs hx hP hS hc1 hc2 hc3 => ?_) (fun hok H locs hP hS => ?_)
  · rcases hx with ⟨hk, rfl⟩ | ⟨hk, rfl⟩
    · refine vx_catch (name := eI) (E := eI) S.2.2.2.1 [] ⟨0, 10, 13, 13⟩ [⟨0, 10, 17, 17⟩] (by rw [htab]; rfl) (fun z hz => absurd hz List.not_mem_nil) (by decide) (by decide) (S.2.2.2.2 _ cl_L_13) (xw_use (XWl_x _ cx_I) (hX.2.1 _ cx_I)) hc1 hc2 hc3 ?_
      refine lv_astore (lv' := [(4, .ref q9), (0, .ref (a 0)), (1, .int (zI x)), (2, .int (zI y)), (3, .ref o)]) S.1 S.2.1 dL_pull_13 hl (by decide) rfl (fun ls hl => ?_)
      refine z_iconst S dL_pull_15 ?_
      have hw : CW g a c ++ [(o, .inl (g.2.2, 1, .inr (.inl G)))] = (if kPull c x y = 0 then LW g a (pullC c x y) o (oU G (c.2 8 (y * 20 + x))) else LW g a c o G) := by rw [if_neg (by omega)]; rfl
      rw [hw] at hP
      exact l_ret S hr hlk (by rw [hk]; rfl) hP hS dL_pull_16
    · refine vx_catch (name := eS) (E := eS) S.2.2.2.1 [⟨0, 10, 13, 13⟩] ⟨0, 10, 17, 17⟩ [] (by rw [htab]; rfl) (fun z hz => (List.mem_cons.mp hz).elim (fun h => by subst h; exact Or.inr ⟨by decide, eI, S.2.2.2.2 _ cl_L_13, hX.2.2.2 (eS, eI) (by decide +kernel)⟩) (fun hz => (fun z hz => absurd hz List.not_mem_nil) z hz)) (by decide) (by decide) (S.2.2.2.2 _ cl_L_17) (xw_use (XWl_x _ cx_S) (hX.2.1 _ cx_S)) hc1 hc2 hc3 ?_
      refine lv_astore (lv' := [(4, .ref q9), (0, .ref (a 0)), (1, .int (zI x)), (2, .int (zI y)), (3, .ref o)]) S.1 S.2.1 dL_pull_17 hl (by decide) rfl (fun ls hl => ?_)
      refine z_iconst S dL_pull_19 ?_
      have hw : CW g a c ++ [(o, .inl (g.2.2, 1, .inr (.inl G)))] = (if kPull c x y = 0 then LW g a (pullC c x y) o (oU G (c.2 8 (y * 20 + x))) else LW g a c o G) := by rw [if_neg (by omega)]; rfl
      rw [hw] at hP
      exact l_ret S hr hlk (by rw [hk]; rfl) hP hS dL_pull_20
  · refine lv_i2l (v := (zI (c.2 8 (y * 20 + x))).toInt64) S.1 S.2.1 dL_pull_8 rfl ?_
    refine l_set S hX hP hda ho hS dL_pull_9 (fun H locs hP hS => ?_)
    refine z_goto (tgt := 21) S dL_pull_10 (by decide) ?_
    refine z_iconst S dL_pull_21 ?_
    have hw : LW g a (pullC c x y) o (oU G (c.2 8 (y * 20 + x))) = (if kPull c x y = 0 then LW g a (pullC c x y) o (oU G (c.2 8 (y * 20 + x))) else LW g a c o G) := by rw [if_pos hok]
    rw [hw] at hP
    exact l_ret S hr hlk (by rw [hok]; rfl) hP hS dL_pull_22
set_option maxHeartbeats 4000000 in
set_option maxRecDepth 100000 in
theorem w_pit (l : Launch) (D : va_G) (g : ClassId × ClassId × ClassId) (a : Nat → Nat) (o : Nat) (G : Nat → Int64) {B : Int} (c : CS) (hI : IC B c) (hst : l.stackTraces = false) (hda : CD 21 a) (ho : ∀ k : Nat, k < 21 → o ≠ a k) (x : Int) (y : Int) (i0 : I32 x) (i1 : I32 y) : LM l yL_pit cL_pit 5 [(0, 10, 13, 13), (0, 10, 17, 17)] 7 113 D g (LA a o) (LW g a c o G) [.ref (a 0), .int (zI x), .int (zI y), .ref o] (if kPit c x y = 0 then LW g a (pitC c x y) o (oU G (c.1 5)) else LW g a c o G) (kPit c x y) := by
  refine l_enter RL (by decide) rfl (Nat.le_of_ble_eq_true rfl) ?_
  intro p e s m args below meth co S hr hlk hX hZ htab hP ls hl
  have hl : lv_has ls 5 [(0, .ref (a 0)), (1, .int (zI x)), (2, .int (zI y)), (3, .ref o)] := hl
  have hP : va_P D vwCl (CW g a c ++ [(o, .inl (g.2.2, 1, .inr (.inl G)))]) s.heap := hP
  refine lv_aload_n S.1 S.2.1 dL_pit_0 rfl (lv_at hl 3 rfl) ?_
  refine z_iconst S dL_pit_1 ?_
  refine lv_aload_n S.1 S.2.1 dL_pit_2 rfl (lv_at hl 0 rfl) ?_
  refine lv_iload_n S.1 S.2.1 dL_pit_3 rfl (lv_at hl 1 rfl) ?_
  refine lv_iload_n S.1 S.2.1 dL_pit_4 rfl (lv_at hl 2 rfl) ?_
  refine l_call (c0 := c) (As := [.int (zI x), .int (zI y)]) (rest := [.int (zI 0), .ref o]) S (m_X4_pit l D g a c hI hst hda x y i0 i1) ml_L_34 im_X4_pit se_X4_pit ini_X4 cd_X4_pit ds_X4_pit ⟨Nat.le_of_ble_eq_true rfl, Nat.le_of_ble_eq_true rfl⟩ hX hZ hP ho (va_recv hX.1.1 hP (ci := 4) (q0 := 0) rfl rfl) rfl hl.1 rfl (Nat.le_of_ble_eq_true rfl) ⟨Nat.le_of_ble_eq_true rfl, Nat.le_of_ble_eq_true rfl⟩ dL_pit_5 (fun E ce q9 H locs hx hP hS hc1 hc2 hc3 => ?_) (fun hok H locs hP hS => ?_)
  · rcases hx with ⟨hk, rfl⟩ | ⟨hk, rfl⟩
    · refine vx_catch (name := eI) (E := eI) S.2.2.2.1 [] ⟨0, 10, 13, 13⟩ [⟨0, 10, 17, 17⟩] (by rw [htab]; rfl) (fun z hz => absurd hz List.not_mem_nil) (by decide) (by decide) (S.2.2.2.2 _ cl_L_13) (xw_use (XWl_x _ cx_I) (hX.2.1 _ cx_I)) hc1 hc2 hc3 ?_
      refine lv_astore (lv' := [(4, .ref q9), (0, .ref (a 0)), (1, .int (zI x)), (2, .int (zI y)), (3, .ref o)]) S.1 S.2.1 dL_pit_13 hl (by decide) rfl (fun ls hl => ?_)
      refine z_iconst S dL_pit_15 ?_
      have hw : CW g a c ++ [(o, .inl (g.2.2, 1, .inr (.inl G)))] = (if kPit c x y = 0 then LW g a (pitC c x y) o (oU G (c.1 5)) else LW g a c o G) := by rw [if_neg (by omega)]; rfl
      rw [hw] at hP
      exact l_ret S hr hlk (by rw [hk]; rfl) hP hS dL_pit_16
    · refine vx_catch (name := eS) (E := eS) S.2.2.2.1 [⟨0, 10, 13, 13⟩] ⟨0, 10, 17, 17⟩ [] (by rw [htab]; rfl) (fun z hz => (List.mem_cons.mp hz).elim (fun h => by subst h; exact Or.inr ⟨by decide, eI, S.2.2.2.2 _ cl_L_13, hX.2.2.2 (eS, eI) (by decide +kernel)⟩) (fun hz => (fun z hz => absurd hz List.not_mem_nil) z hz)) (by decide) (by decide) (S.2.2.2.2 _ cl_L_17) (xw_use (XWl_x _ cx_S) (hX.2.1 _ cx_S)) hc1 hc2 hc3 ?_
      refine lv_astore (lv' := [(4, .ref q9), (0, .ref (a 0)), (1, .int (zI x)), (2, .int (zI y)), (3, .ref o)]) S.1 S.2.1 dL_pit_17 hl (by decide) rfl (fun ls hl => ?_)
      refine z_iconst S dL_pit_19 ?_
      have hw : CW g a c ++ [(o, .inl (g.2.2, 1, .inr (.inl G)))] = (if kPit c x y = 0 then LW g a (pitC c x y) o (oU G (c.1 5)) else LW g a c o G) := by rw [if_neg (by omega)]; rfl
      rw [hw] at hP
      exact l_ret S hr hlk (by rw [hk]; rfl) hP hS dL_pit_20
  · refine lv_i2l (v := (zI (c.1 5)).toInt64) S.1 S.2.1 dL_pit_8 rfl ?_
    refine l_set S hX hP hda ho hS dL_pit_9 (fun H locs hP hS => ?_)
    refine z_goto (tgt := 21) S dL_pit_10 (by decide) ?_
    refine z_iconst S dL_pit_21 ?_
    have hw : LW g a (pitC c x y) o (oU G (c.1 5)) = (if kPit c x y = 0 then LW g a (pitC c x y) o (oU G (c.1 5)) else LW g a c o G) := by rw [if_pos hok]
    rw [hw] at hP
    exact l_ret S hr hlk (by rw [hok]; rfl) hP hS dL_pit_22
set_option maxHeartbeats 4000000 in
set_option maxRecDepth 100000 in
theorem w_bet (l : Launch) (D : va_G) (g : ClassId × ClassId × ClassId) (a : Nat → Nat) (o : Nat) (G : Nat → Int64) {B : Int} (c : CS) (hI : IC B c) (hst : l.stackTraces = false) (hda : CD 21 a) (ho : ∀ k : Nat, k < 21 → o ≠ a k) (d : Int) (q : Int) (co9 : Int) (f : Int) (i0 : I32 d) (i1 : I32 q) (i2 : I32 co9) (i3 : I32 f) (hf : 0 ≤ f ∧ f ≤ 1) : LM l yL_bet cL_bet 7 [(0, 14, 17, 13), (0, 14, 21, 15), (0, 14, 25, 17)] 7 114 D g (LA a o) (LW g a c o G) [.ref (a 0), .int (zI d), .int (zI q), .int (zI co9), .int (zI f), .ref o] (if kBet c d q co9 = 0 then LW g a (betC c d q co9 f) o (oU G (c.2 7 d - co9)) else LW g a c o G) (kBet c d q co9) := by
  refine l_enter RL (by decide) rfl (Nat.le_of_ble_eq_true rfl) ?_
  intro p e s m args below meth co S hr hlk hX hZ htab hP ls hl
  have hl : lv_has ls 7 [(0, .ref (a 0)), (1, .int (zI d)), (2, .int (zI q)), (3, .int (zI co9)), (4, .int (zI f)), (5, .ref o)] := hl
  have hP : va_P D vwCl (CW g a c ++ [(o, .inl (g.2.2, 1, .inr (.inl G)))]) s.heap := hP
  refine lv_aload S.1 S.2.1 dL_bet_0 (lv_at hl 5 rfl) ?_
  refine z_iconst S dL_bet_2 ?_
  refine lv_aload_n S.1 S.2.1 dL_bet_3 rfl (lv_at hl 0 rfl) ?_
  refine lv_iload_n S.1 S.2.1 dL_bet_4 rfl (lv_at hl 1 rfl) ?_
  refine lv_iload_n S.1 S.2.1 dL_bet_5 rfl (lv_at hl 2 rfl) ?_
  refine lv_iload_n S.1 S.2.1 dL_bet_6 rfl (lv_at hl 3 rfl) ?_
  refine lv_iload S.1 S.2.1 dL_bet_7 (lv_at hl 4 rfl) ?_
  refine l_call (c0 := c) (As := [.int (zI d), .int (zI q), .int (zI co9), .int (zI f)]) (rest := [.int (zI 0), .ref o]) S (m_X4_bet l D g a c hI hst hda d q co9 f i0 i1 i2 i3 hf) ml_L_37 im_X4_bet se_X4_bet ini_X4 cd_X4_bet ds_X4_bet ⟨Nat.le_of_ble_eq_true rfl, Nat.le_of_ble_eq_true rfl⟩ hX hZ hP ho (va_recv hX.1.1 hP (ci := 4) (q0 := 0) rfl rfl) rfl hl.1 rfl (Nat.le_of_ble_eq_true rfl) ⟨Nat.le_of_ble_eq_true rfl, Nat.le_of_ble_eq_true rfl⟩ dL_bet_9 (fun E ce q9 H locs hx hP hS hc1 hc2 hc3 => ?_) (fun hok H locs hP hS => ?_)
  · rcases hx with ⟨hk, rfl⟩ | ⟨hk, rfl⟩ | ⟨hk, rfl⟩
    · refine vx_catch (name := eI) (E := eI) S.2.2.2.1 [] ⟨0, 14, 17, 13⟩ [⟨0, 14, 21, 15⟩, ⟨0, 14, 25, 17⟩] (by rw [htab]; rfl) (fun z hz => absurd hz List.not_mem_nil) (by decide) (by decide) (S.2.2.2.2 _ cl_L_13) (xw_use (XWl_x _ cx_I) (hX.2.1 _ cx_I)) hc1 hc2 hc3 ?_
      refine lv_astore (lv' := [(6, .ref q9), (0, .ref (a 0)), (1, .int (zI d)), (2, .int (zI q)), (3, .int (zI co9)), (4, .int (zI f)), (5, .ref o)]) S.1 S.2.1 dL_bet_17 hl (by decide) rfl (fun ls hl => ?_)
      refine z_iconst S dL_bet_19 ?_
      have hw : CW g a c ++ [(o, .inl (g.2.2, 1, .inr (.inl G)))] = (if kBet c d q co9 = 0 then LW g a (betC c d q co9 f) o (oU G (c.2 7 d - co9)) else LW g a c o G) := by rw [if_neg (by omega)]; rfl
      rw [hw] at hP
      exact l_ret S hr hlk (by rw [hk]; rfl) hP hS dL_bet_20
    · refine vx_catch (name := eA) (E := eA) S.2.2.2.1 [⟨0, 14, 17, 13⟩] ⟨0, 14, 21, 15⟩ [⟨0, 14, 25, 17⟩] (by rw [htab]; rfl) (fun z hz => (List.mem_cons.mp hz).elim (fun h => by subst h; exact Or.inr ⟨by decide, eI, S.2.2.2.2 _ cl_L_13, hX.2.2.2 (eA, eI) (by decide +kernel)⟩) (fun hz => (fun z hz => absurd hz List.not_mem_nil) z hz)) (by decide) (by decide) (S.2.2.2.2 _ cl_L_15) (xw_use (XWl_x _ cx_A) (hX.2.1 _ cx_A)) hc1 hc2 hc3 ?_
      refine lv_astore (lv' := [(6, .ref q9), (0, .ref (a 0)), (1, .int (zI d)), (2, .int (zI q)), (3, .int (zI co9)), (4, .int (zI f)), (5, .ref o)]) S.1 S.2.1 dL_bet_21 hl (by decide) rfl (fun ls hl => ?_)
      refine z_iconst S dL_bet_23 ?_
      have hw : CW g a c ++ [(o, .inl (g.2.2, 1, .inr (.inl G)))] = (if kBet c d q co9 = 0 then LW g a (betC c d q co9 f) o (oU G (c.2 7 d - co9)) else LW g a c o G) := by rw [if_neg (by omega)]; rfl
      rw [hw] at hP
      exact l_ret S hr hlk (by rw [hk]; rfl) hP hS dL_bet_24
    · refine vx_catch (name := eS) (E := eS) S.2.2.2.1 [⟨0, 14, 17, 13⟩, ⟨0, 14, 21, 15⟩] ⟨0, 14, 25, 17⟩ [] (by rw [htab]; rfl) (fun z hz => (List.mem_cons.mp hz).elim (fun h => by subst h; exact Or.inr ⟨by decide, eI, S.2.2.2.2 _ cl_L_13, hX.2.2.2 (eS, eI) (by decide +kernel)⟩) (fun hz => (fun z hz => (List.mem_cons.mp hz).elim (fun h => by subst h; exact Or.inr ⟨by decide, eA, S.2.2.2.2 _ cl_L_15, hX.2.2.2 (eS, eA) (by decide +kernel)⟩) (fun hz => (fun z hz => absurd hz List.not_mem_nil) z hz)) z hz)) (by decide) (by decide) (S.2.2.2.2 _ cl_L_17) (xw_use (XWl_x _ cx_S) (hX.2.1 _ cx_S)) hc1 hc2 hc3 ?_
      refine lv_astore (lv' := [(6, .ref q9), (0, .ref (a 0)), (1, .int (zI d)), (2, .int (zI q)), (3, .int (zI co9)), (4, .int (zI f)), (5, .ref o)]) S.1 S.2.1 dL_bet_25 hl (by decide) rfl (fun ls hl => ?_)
      refine z_iconst S dL_bet_27 ?_
      have hw : CW g a c ++ [(o, .inl (g.2.2, 1, .inr (.inl G)))] = (if kBet c d q co9 = 0 then LW g a (betC c d q co9 f) o (oU G (c.2 7 d - co9)) else LW g a c o G) := by rw [if_neg (by omega)]; rfl
      rw [hw] at hP
      exact l_ret S hr hlk (by rw [hk]; rfl) hP hS dL_bet_28
  · refine lv_i2l (v := (zI (c.2 7 d - co9)).toInt64) S.1 S.2.1 dL_bet_12 rfl ?_
    refine l_set S hX hP hda ho hS dL_bet_13 (fun H locs hP hS => ?_)
    refine z_goto (tgt := 29) S dL_bet_14 (by decide) ?_
    refine z_iconst S dL_bet_29 ?_
    have hw : LW g a (betC c d q co9 f) o (oU G (c.2 7 d - co9)) = (if kBet c d q co9 = 0 then LW g a (betC c d q co9 f) o (oU G (c.2 7 d - co9)) else LW g a c o G) := by rw [if_pos hok]
    rw [hw] at hP
    exact l_ret S hr hlk (by rw [hok]; rfl) hP hS dL_bet_30
set_option maxHeartbeats 4000000 in
set_option maxRecDepth 100000 in
theorem w_dig (l : Launch) (D : va_G) (g : ClassId × ClassId × ClassId) (a : Nat → Nat) (o : Nat) (G : Nat → Int64) {B : Int} (c : CS) (hI : IC B c) (hst : l.stackTraces = false) (hda : CD 21 a) (ho : ∀ k : Nat, k < 21 → o ≠ a k) (q : Int) (by9 : Int) (i0 : I32 q) (i1 : I32 by9) (hB : B ≤ 900000000) : LM l yL_dig cL_dig 5 [(0, 10, 13, 13), (0, 10, 17, 15), (0, 10, 21, 17)] 7 160 D g (LA a o) (LW g a c o G) [.ref (a 0), .int (zI q), .int (zI by9), .ref o] (if kDig c q by9 = 0 then LW g a (digC1 c q by9) o (oU G (dpn c q by9)) else LW g a c o G) (kDig c q by9) := by
  refine l_enter RL (by decide) rfl (Nat.le_of_ble_eq_true rfl) ?_
  intro p e s m args below meth co S hr hlk hX hZ htab hP ls hl
  have hl : lv_has ls 5 [(0, .ref (a 0)), (1, .int (zI q)), (2, .int (zI by9)), (3, .ref o)] := hl
  have hP : va_P D vwCl (CW g a c ++ [(o, .inl (g.2.2, 1, .inr (.inl G)))]) s.heap := hP
  refine lv_aload_n S.1 S.2.1 dL_dig_0 rfl (lv_at hl 3 rfl) ?_
  refine z_iconst S dL_dig_1 ?_
  refine lv_aload_n S.1 S.2.1 dL_dig_2 rfl (lv_at hl 0 rfl) ?_
  refine lv_iload_n S.1 S.2.1 dL_dig_3 rfl (lv_at hl 1 rfl) ?_
  refine lv_iload_n S.1 S.2.1 dL_dig_4 rfl (lv_at hl 2 rfl) ?_
  refine l_call (c0 := c) (As := [.int (zI q), .int (zI by9)]) (rest := [.int (zI 0), .ref o]) S (m_X4_dig l D g a c hI hst hda q by9 i0 i1 hB) ml_L_41 im_X4_dig se_X4_dig ini_X4 cd_X4_dig ds_X4_dig ⟨Nat.le_of_ble_eq_true rfl, Nat.le_of_ble_eq_true rfl⟩ hX hZ hP ho (va_recv hX.1.1 hP (ci := 4) (q0 := 0) rfl rfl) rfl hl.1 rfl (Nat.le_of_ble_eq_true rfl) ⟨Nat.le_of_ble_eq_true rfl, Nat.le_of_ble_eq_true rfl⟩ dL_dig_5 (fun E ce q9 H locs hx hP hS hc1 hc2 hc3 => ?_) (fun hok H locs hP hS => ?_)
  · rcases hx with ⟨hk, rfl⟩ | ⟨hk, rfl⟩ | ⟨hk, rfl⟩
    · refine vx_catch (name := eI) (E := eI) S.2.2.2.1 [] ⟨0, 10, 13, 13⟩ [⟨0, 10, 17, 15⟩, ⟨0, 10, 21, 17⟩] (by rw [htab]; rfl) (fun z hz => absurd hz List.not_mem_nil) (by decide) (by decide) (S.2.2.2.2 _ cl_L_13) (xw_use (XWl_x _ cx_I) (hX.2.1 _ cx_I)) hc1 hc2 hc3 ?_
      refine lv_astore (lv' := [(4, .ref q9), (0, .ref (a 0)), (1, .int (zI q)), (2, .int (zI by9)), (3, .ref o)]) S.1 S.2.1 dL_dig_13 hl (by decide) rfl (fun ls hl => ?_)
      refine z_iconst S dL_dig_15 ?_
      have hw : CW g a c ++ [(o, .inl (g.2.2, 1, .inr (.inl G)))] = (if kDig c q by9 = 0 then LW g a (digC1 c q by9) o (oU G (dpn c q by9)) else LW g a c o G) := by rw [if_neg (by omega)]; rfl
      rw [hw] at hP
      exact l_ret S hr hlk (by rw [hk]; rfl) hP hS dL_dig_16
    · refine vx_catch (name := eA) (E := eA) S.2.2.2.1 [⟨0, 10, 13, 13⟩] ⟨0, 10, 17, 15⟩ [⟨0, 10, 21, 17⟩] (by rw [htab]; rfl) (fun z hz => (List.mem_cons.mp hz).elim (fun h => by subst h; exact Or.inr ⟨by decide, eI, S.2.2.2.2 _ cl_L_13, hX.2.2.2 (eA, eI) (by decide +kernel)⟩) (fun hz => (fun z hz => absurd hz List.not_mem_nil) z hz)) (by decide) (by decide) (S.2.2.2.2 _ cl_L_15) (xw_use (XWl_x _ cx_A) (hX.2.1 _ cx_A)) hc1 hc2 hc3 ?_
      refine lv_astore (lv' := [(4, .ref q9), (0, .ref (a 0)), (1, .int (zI q)), (2, .int (zI by9)), (3, .ref o)]) S.1 S.2.1 dL_dig_17 hl (by decide) rfl (fun ls hl => ?_)
      refine z_iconst S dL_dig_19 ?_
      have hw : CW g a c ++ [(o, .inl (g.2.2, 1, .inr (.inl G)))] = (if kDig c q by9 = 0 then LW g a (digC1 c q by9) o (oU G (dpn c q by9)) else LW g a c o G) := by rw [if_neg (by omega)]; rfl
      rw [hw] at hP
      exact l_ret S hr hlk (by rw [hk]; rfl) hP hS dL_dig_20
    · refine vx_catch (name := eS) (E := eS) S.2.2.2.1 [⟨0, 10, 13, 13⟩, ⟨0, 10, 17, 15⟩] ⟨0, 10, 21, 17⟩ [] (by rw [htab]; rfl) (fun z hz => (List.mem_cons.mp hz).elim (fun h => by subst h; exact Or.inr ⟨by decide, eI, S.2.2.2.2 _ cl_L_13, hX.2.2.2 (eS, eI) (by decide +kernel)⟩) (fun hz => (fun z hz => (List.mem_cons.mp hz).elim (fun h => by subst h; exact Or.inr ⟨by decide, eA, S.2.2.2.2 _ cl_L_15, hX.2.2.2 (eS, eA) (by decide +kernel)⟩) (fun hz => (fun z hz => absurd hz List.not_mem_nil) z hz)) z hz)) (by decide) (by decide) (S.2.2.2.2 _ cl_L_17) (xw_use (XWl_x _ cx_S) (hX.2.1 _ cx_S)) hc1 hc2 hc3 ?_
      refine lv_astore (lv' := [(4, .ref q9), (0, .ref (a 0)), (1, .int (zI q)), (2, .int (zI by9)), (3, .ref o)]) S.1 S.2.1 dL_dig_21 hl (by decide) rfl (fun ls hl => ?_)
      refine z_iconst S dL_dig_23 ?_
      have hw : CW g a c ++ [(o, .inl (g.2.2, 1, .inr (.inl G)))] = (if kDig c q by9 = 0 then LW g a (digC1 c q by9) o (oU G (dpn c q by9)) else LW g a c o G) := by rw [if_neg (by omega)]; rfl
      rw [hw] at hP
      exact l_ret S hr hlk (by rw [hk]; rfl) hP hS dL_dig_24
  · refine lv_i2l (v := (zI (dpn c q by9)).toInt64) S.1 S.2.1 dL_dig_8 rfl ?_
    refine l_set S hX hP hda ho hS dL_dig_9 (fun H locs hP hS => ?_)
    refine z_goto (tgt := 25) S dL_dig_10 (by decide) ?_
    refine z_iconst S dL_dig_25 ?_
    have hw : LW g a (digC1 c q by9) o (oU G (dpn c q by9)) = (if kDig c q by9 = 0 then LW g a (digC1 c q by9) o (oU G (dpn c q by9)) else LW g a c o G) := by rw [if_pos hok]
    rw [hw] at hP
    exact l_ret S hr hlk (by rw [hok]; rfl) hP hS dL_dig_26
set_option maxHeartbeats 4000000 in
set_option maxRecDepth 100000 in
theorem w_spot (l : Launch) (D : va_G) (g : ClassId × ClassId × ClassId) (a : Nat → Nat) (o : Nat) (G : Nat → Int64) {B : Int} (c : CS) (hI : IC B c) (hst : l.stackTraces = false) (hda : CD 21 a) (ho : ∀ k : Nat, k < 21 → o ≠ a k) (x : Int) (y : Int) (w : Int) (i0 : I32 x) (i1 : I32 y) (i2 : I32 w) : LM l yL_spot cL_spot 6 [(0, 12, 15, 13)] 7 133 D g (LA a o) (LW g a c o G) [.ref (a 0), .int (zI x), .int (zI y), .int (zI w), .ref o] (if kSpot x y w = 0 then LW g a (c) o (oU G (spotT c (y * 20 + x) w)) else LW g a c o G) (kSpot x y w) := by
  refine l_enter RL (by decide) rfl (Nat.le_of_ble_eq_true rfl) ?_
  intro p e s m args below meth co S hr hlk hX hZ htab hP ls hl
  have hl : lv_has ls 6 [(0, .ref (a 0)), (1, .int (zI x)), (2, .int (zI y)), (3, .int (zI w)), (4, .ref o)] := hl
  have hP : va_P D vwCl (CW g a c ++ [(o, .inl (g.2.2, 1, .inr (.inl G)))]) s.heap := hP
  refine lv_aload S.1 S.2.1 dL_spot_0 (lv_at hl 4 rfl) ?_
  refine z_iconst S dL_spot_2 ?_
  refine lv_aload_n S.1 S.2.1 dL_spot_3 rfl (lv_at hl 0 rfl) ?_
  refine lv_iload_n S.1 S.2.1 dL_spot_4 rfl (lv_at hl 1 rfl) ?_
  refine lv_iload_n S.1 S.2.1 dL_spot_5 rfl (lv_at hl 2 rfl) ?_
  refine lv_iload_n S.1 S.2.1 dL_spot_6 rfl (lv_at hl 3 rfl) ?_
  refine l_call (c0 := c) (As := [.int (zI x), .int (zI y), .int (zI w)]) (rest := [.int (zI 0), .ref o]) S (m_X4_spot l D g a c hI hst hda x y w i0 i1 i2) ml_L_44 im_X4_spot se_X4_spot ini_X4 cd_X4_spot ds_X4_spot ⟨Nat.le_of_ble_eq_true rfl, Nat.le_of_ble_eq_true rfl⟩ hX hZ hP ho (va_recv hX.1.1 hP (ci := 4) (q0 := 0) rfl rfl) rfl hl.1 rfl (Nat.le_of_ble_eq_true rfl) ⟨Nat.le_of_ble_eq_true rfl, Nat.le_of_ble_eq_true rfl⟩ dL_spot_7 (fun E ce q9 H locs hx hP hS hc1 hc2 hc3 => ?_) (fun hok H locs hP hS => ?_)
  · rcases hx with ⟨hk, rfl⟩
    · refine vx_catch (name := eI) (E := eI) S.2.2.2.1 [] ⟨0, 12, 15, 13⟩ [] (by rw [htab]; rfl) (fun z hz => absurd hz List.not_mem_nil) (by decide) (by decide) (S.2.2.2.2 _ cl_L_13) (xw_use (XWl_x _ cx_I) (hX.2.1 _ cx_I)) hc1 hc2 hc3 ?_
      refine lv_astore (lv' := [(5, .ref q9), (0, .ref (a 0)), (1, .int (zI x)), (2, .int (zI y)), (3, .int (zI w)), (4, .ref o)]) S.1 S.2.1 dL_spot_15 hl (by decide) rfl (fun ls hl => ?_)
      refine z_iconst S dL_spot_17 ?_
      have hw : CW g a c ++ [(o, .inl (g.2.2, 1, .inr (.inl G)))] = (if kSpot x y w = 0 then LW g a (c) o (oU G (spotT c (y * 20 + x) w)) else LW g a c o G) := by rw [if_neg (by omega)]; rfl
      rw [hw] at hP
      exact l_ret S hr hlk (by rw [hk]; rfl) hP hS dL_spot_18
  · refine lv_i2l (v := (zI (spotT c (y * 20 + x) w)).toInt64) S.1 S.2.1 dL_spot_10 rfl ?_
    refine l_set S hX hP hda ho hS dL_spot_11 (fun H locs hP hS => ?_)
    refine z_goto (tgt := 19) S dL_spot_12 (by decide) ?_
    refine z_iconst S dL_spot_19 ?_
    have hw : LW g a (c) o (oU G (spotT c (y * 20 + x) w)) = (if kSpot x y w = 0 then LW g a (c) o (oU G (spotT c (y * 20 + x) w)) else LW g a c o G) := by rw [if_pos hok]
    rw [hw] at hP
    exact l_ret S hr hlk (by rw [hok]; rfl) hP hS dL_spot_20
set_option maxHeartbeats 4000000 in
set_option maxRecDepth 100000 in
theorem w_rod (l : Launch) (D : va_G) (g : ClassId × ClassId × ClassId) (a : Nat → Nat) (o : Nat) (G : Nat → Int64) {B : Int} (c : CS) (hI : IC B c) (hst : l.stackTraces = false) (hda : CD 21 a) (ho : ∀ k : Nat, k < 21 → o ≠ a k) (d : Int) (x : Int) (y : Int) (i0 : I32 d) (i1 : I32 x) (i2 : I32 y) : LM l yL_rod cL_rod 6 [(0, 12, 15, 13)] 7 113 D g (LA a o) (LW g a c o G) [.ref (a 0), .int (zI d), .int (zI x), .int (zI y), .ref o] (if kRod c d x y = 0 then LW g a (c) o (oU G (bendC c d (y * 20 + x))) else LW g a c o G) (kRod c d x y) := by
  refine l_enter RL (by decide) rfl (Nat.le_of_ble_eq_true rfl) ?_
  intro p e s m args below meth co S hr hlk hX hZ htab hP ls hl
  have hl : lv_has ls 6 [(0, .ref (a 0)), (1, .int (zI d)), (2, .int (zI x)), (3, .int (zI y)), (4, .ref o)] := hl
  have hP : va_P D vwCl (CW g a c ++ [(o, .inl (g.2.2, 1, .inr (.inl G)))]) s.heap := hP
  refine lv_aload S.1 S.2.1 dL_rod_0 (lv_at hl 4 rfl) ?_
  refine z_iconst S dL_rod_2 ?_
  refine lv_aload_n S.1 S.2.1 dL_rod_3 rfl (lv_at hl 0 rfl) ?_
  refine lv_iload_n S.1 S.2.1 dL_rod_4 rfl (lv_at hl 1 rfl) ?_
  refine lv_iload_n S.1 S.2.1 dL_rod_5 rfl (lv_at hl 2 rfl) ?_
  refine lv_iload_n S.1 S.2.1 dL_rod_6 rfl (lv_at hl 3 rfl) ?_
  refine l_call (c0 := c) (As := [.int (zI d), .int (zI x), .int (zI y)]) (rest := [.int (zI 0), .ref o]) S (m_X4_rod l D g a c hI hst hda d x y i0 i1 i2) ml_L_48 im_X4_rod se_X4_rod ini_X4 cd_X4_rod ds_X4_rod ⟨Nat.le_of_ble_eq_true rfl, Nat.le_of_ble_eq_true rfl⟩ hX hZ hP ho (va_recv hX.1.1 hP (ci := 4) (q0 := 0) rfl rfl) rfl hl.1 rfl (Nat.le_of_ble_eq_true rfl) ⟨Nat.le_of_ble_eq_true rfl, Nat.le_of_ble_eq_true rfl⟩ dL_rod_7 (fun E ce q9 H locs hx hP hS hc1 hc2 hc3 => ?_) (fun hok H locs hP hS => ?_)
  · rcases hx with ⟨hk, rfl⟩
    · refine vx_catch (name := eI) (E := eI) S.2.2.2.1 [] ⟨0, 12, 15, 13⟩ [] (by rw [htab]; rfl) (fun z hz => absurd hz List.not_mem_nil) (by decide) (by decide) (S.2.2.2.2 _ cl_L_13) (xw_use (XWl_x _ cx_I) (hX.2.1 _ cx_I)) hc1 hc2 hc3 ?_
      refine lv_astore (lv' := [(5, .ref q9), (0, .ref (a 0)), (1, .int (zI d)), (2, .int (zI x)), (3, .int (zI y)), (4, .ref o)]) S.1 S.2.1 dL_rod_15 hl (by decide) rfl (fun ls hl => ?_)
      refine z_iconst S dL_rod_17 ?_
      have hw : CW g a c ++ [(o, .inl (g.2.2, 1, .inr (.inl G)))] = (if kRod c d x y = 0 then LW g a (c) o (oU G (bendC c d (y * 20 + x))) else LW g a c o G) := by rw [if_neg (by omega)]; rfl
      rw [hw] at hP
      exact l_ret S hr hlk (by rw [hk]; rfl) hP hS dL_rod_18
  · refine lv_i2l (v := (zI (bendC c d (y * 20 + x))).toInt64) S.1 S.2.1 dL_rod_10 rfl ?_
    refine l_set S hX hP hda ho hS dL_rod_11 (fun H locs hP hS => ?_)
    refine z_goto (tgt := 19) S dL_rod_12 (by decide) ?_
    refine z_iconst S dL_rod_19 ?_
    have hw : LW g a (c) o (oU G (bendC c d (y * 20 + x))) = (if kRod c d x y = 0 then LW g a (c) o (oU G (bendC c d (y * 20 + x))) else LW g a c o G) := by rw [if_pos hok]
    rw [hw] at hP
    exact l_ret S hr hlk (by rw [hok]; rfl) hP hS dL_rod_20
set_option maxHeartbeats 4000000 in
set_option maxRecDepth 100000 in
theorem w_told (l : Launch) (D : va_G) (g : ClassId × ClassId × ClassId) (a : Nat → Nat) (o : Nat) (G : Nat → Int64) {B : Int} (c : CS) (hI : IC B c) (hst : l.stackTraces = false) (hda : CD 21 a) (ho : ∀ k : Nat, k < 21 → o ≠ a k) (d : Int) (w : Int) (i0 : I32 d) (i1 : I32 w) : LM l yL_told cL_told 5 [(0, 10, 13, 13)] 7 112 D g (LA a o) (LW g a c o G) [.ref (a 0), .int (zI d), .int (zI w), .ref o] (if kTold c d w = 0 then LW g a (c) o (oU G (dowT c d w)) else LW g a c o G) (kTold c d w) := by
  refine l_enter RL (by decide) rfl (Nat.le_of_ble_eq_true rfl) ?_
  intro p e s m args below meth co S hr hlk hX hZ htab hP ls hl
  have hl : lv_has ls 5 [(0, .ref (a 0)), (1, .int (zI d)), (2, .int (zI w)), (3, .ref o)] := hl
  have hP : va_P D vwCl (CW g a c ++ [(o, .inl (g.2.2, 1, .inr (.inl G)))]) s.heap := hP
  refine lv_aload_n S.1 S.2.1 dL_told_0 rfl (lv_at hl 3 rfl) ?_
  refine z_iconst S dL_told_1 ?_
  refine lv_aload_n S.1 S.2.1 dL_told_2 rfl (lv_at hl 0 rfl) ?_
  refine lv_iload_n S.1 S.2.1 dL_told_3 rfl (lv_at hl 1 rfl) ?_
  refine lv_iload_n S.1 S.2.1 dL_told_4 rfl (lv_at hl 2 rfl) ?_
  refine l_call (c0 := c) (As := [.int (zI d), .int (zI w)]) (rest := [.int (zI 0), .ref o]) S (m_X4_told l D g a c hI hst hda d w i0 i1) ml_L_51 im_X4_told se_X4_told ini_X4 cd_X4_told ds_X4_told ⟨Nat.le_of_ble_eq_true rfl, Nat.le_of_ble_eq_true rfl⟩ hX hZ hP ho (va_recv hX.1.1 hP (ci := 4) (q0 := 0) rfl rfl) rfl hl.1 rfl (Nat.le_of_ble_eq_true rfl) ⟨Nat.le_of_ble_eq_true rfl, Nat.le_of_ble_eq_true rfl⟩ dL_told_5 (fun E ce q9 H locs hx hP hS hc1 hc2 hc3 => ?_) (fun hok H locs hP hS => ?_)
  · rcases hx with ⟨hk, rfl⟩
    · refine vx_catch (name := eI) (E := eI) S.2.2.2.1 [] ⟨0, 10, 13, 13⟩ [] (by rw [htab]; rfl) (fun z hz => absurd hz List.not_mem_nil) (by decide) (by decide) (S.2.2.2.2 _ cl_L_13) (xw_use (XWl_x _ cx_I) (hX.2.1 _ cx_I)) hc1 hc2 hc3 ?_
      refine lv_astore (lv' := [(4, .ref q9), (0, .ref (a 0)), (1, .int (zI d)), (2, .int (zI w)), (3, .ref o)]) S.1 S.2.1 dL_told_13 hl (by decide) rfl (fun ls hl => ?_)
      refine z_iconst S dL_told_15 ?_
      have hw : CW g a c ++ [(o, .inl (g.2.2, 1, .inr (.inl G)))] = (if kTold c d w = 0 then LW g a (c) o (oU G (dowT c d w)) else LW g a c o G) := by rw [if_neg (by omega)]; rfl
      rw [hw] at hP
      exact l_ret S hr hlk (by rw [hk]; rfl) hP hS dL_told_16
  · refine lv_i2l (v := (zI (dowT c d w)).toInt64) S.1 S.2.1 dL_told_8 rfl ?_
    refine l_set S hX hP hda ho hS dL_told_9 (fun H locs hP hS => ?_)
    refine z_goto (tgt := 17) S dL_told_10 (by decide) ?_
    refine z_iconst S dL_told_17 ?_
    have hw : LW g a (c) o (oU G (dowT c d w)) = (if kTold c d w = 0 then LW g a (c) o (oU G (dowT c d w)) else LW g a c o G) := by rw [if_pos hok]
    rw [hw] at hP
    exact l_ret S hr hlk (by rw [hok]; rfl) hP hS dL_told_18
set_option maxHeartbeats 4000000 in
set_option maxRecDepth 100000 in
theorem w_about (l : Launch) (D : va_G) (g : ClassId × ClassId × ClassId) (a : Nat → Nat) (o : Nat) (G : Nat → Int64) {B : Int} (c : CS) (hI : IC B c) (hst : l.stackTraces = false) (hda : CD 21 a) (ho : ∀ k : Nat, k < 21 → o ≠ a k) (q : Int) (w : Int) (i0 : I32 q) (i1 : I32 w) : LM l yL_about cL_about 5 [(0, 10, 13, 13)] 7 113 D g (LA a o) (LW g a c o G) [.ref (a 0), .int (zI q), .int (zI w), .ref o] (if kAbout c q w = 0 then LW g a (c) o (oU G (pitT c q w)) else LW g a c o G) (kAbout c q w) := by
  refine l_enter RL (by decide) rfl (Nat.le_of_ble_eq_true rfl) ?_
  intro p e s m args below meth co S hr hlk hX hZ htab hP ls hl
  have hl : lv_has ls 5 [(0, .ref (a 0)), (1, .int (zI q)), (2, .int (zI w)), (3, .ref o)] := hl
  have hP : va_P D vwCl (CW g a c ++ [(o, .inl (g.2.2, 1, .inr (.inl G)))]) s.heap := hP
  refine lv_aload_n S.1 S.2.1 dL_about_0 rfl (lv_at hl 3 rfl) ?_
  refine z_iconst S dL_about_1 ?_
  refine lv_aload_n S.1 S.2.1 dL_about_2 rfl (lv_at hl 0 rfl) ?_
  refine lv_iload_n S.1 S.2.1 dL_about_3 rfl (lv_at hl 1 rfl) ?_
  refine lv_iload_n S.1 S.2.1 dL_about_4 rfl (lv_at hl 2 rfl) ?_
  refine l_call (c0 := c) (As := [.int (zI q), .int (zI w)]) (rest := [.int (zI 0), .ref o]) S (m_X4_about l D g a c hI hst hda q w i0 i1) ml_L_54 im_X4_about se_X4_about ini_X4 cd_X4_about ds_X4_about ⟨Nat.le_of_ble_eq_true rfl, Nat.le_of_ble_eq_true rfl⟩ hX hZ hP ho (va_recv hX.1.1 hP (ci := 4) (q0 := 0) rfl rfl) rfl hl.1 rfl (Nat.le_of_ble_eq_true rfl) ⟨Nat.le_of_ble_eq_true rfl, Nat.le_of_ble_eq_true rfl⟩ dL_about_5 (fun E ce q9 H locs hx hP hS hc1 hc2 hc3 => ?_) (fun hok H locs hP hS => ?_)
  · rcases hx with ⟨hk, rfl⟩
    · refine vx_catch (name := eI) (E := eI) S.2.2.2.1 [] ⟨0, 10, 13, 13⟩ [] (by rw [htab]; rfl) (fun z hz => absurd hz List.not_mem_nil) (by decide) (by decide) (S.2.2.2.2 _ cl_L_13) (xw_use (XWl_x _ cx_I) (hX.2.1 _ cx_I)) hc1 hc2 hc3 ?_
      refine lv_astore (lv' := [(4, .ref q9), (0, .ref (a 0)), (1, .int (zI q)), (2, .int (zI w)), (3, .ref o)]) S.1 S.2.1 dL_about_13 hl (by decide) rfl (fun ls hl => ?_)
      refine z_iconst S dL_about_15 ?_
      have hw : CW g a c ++ [(o, .inl (g.2.2, 1, .inr (.inl G)))] = (if kAbout c q w = 0 then LW g a (c) o (oU G (pitT c q w)) else LW g a c o G) := by rw [if_neg (by omega)]; rfl
      rw [hw] at hP
      exact l_ret S hr hlk (by rw [hk]; rfl) hP hS dL_about_16
  · refine lv_i2l (v := (zI (pitT c q w)).toInt64) S.1 S.2.1 dL_about_8 rfl ?_
    refine l_set S hX hP hda ho hS dL_about_9 (fun H locs hP hS => ?_)
    refine z_goto (tgt := 17) S dL_about_10 (by decide) ?_
    refine z_iconst S dL_about_17 ?_
    have hw : LW g a (c) o (oU G (pitT c q w)) = (if kAbout c q w = 0 then LW g a (c) o (oU G (pitT c q w)) else LW g a c o G) := by rw [if_pos hok]
    rw [hw] at hP
    exact l_ret S hr hlk (by rw [hok]; rfl) hP hS dL_about_18
set_option maxHeartbeats 4000000 in
set_option maxRecDepth 100000 in
theorem w_count (l : Launch) (D : va_G) (g : ClassId × ClassId × ClassId) (a : Nat → Nat) (o : Nat) (G : Nat → Int64) {B : Int} (c : CS) (hI : IC B c) (hst : l.stackTraces = false) (hda : CD 21 a) (ho : ∀ k : Nat, k < 21 → o ≠ a k) (w : Int) (i0 : I32 w) : LM l yL_count cL_count 4 [(0, 9, 12, 13)] 7 111 D g (LA a o) (LW g a c o G) [.ref (a 0), .int (zI w), .ref o] (if kCount w = 0 then LW g a (c) o (oU G (cntT c w)) else LW g a c o G) (kCount w) := by
  refine l_enter RL (by decide) rfl (Nat.le_of_ble_eq_true rfl) ?_
  intro p e s m args below meth co S hr hlk hX hZ htab hP ls hl
  have hl : lv_has ls 4 [(0, .ref (a 0)), (1, .int (zI w)), (2, .ref o)] := hl
  have hP : va_P D vwCl (CW g a c ++ [(o, .inl (g.2.2, 1, .inr (.inl G)))]) s.heap := hP
  refine lv_aload_n S.1 S.2.1 dL_count_0 rfl (lv_at hl 2 rfl) ?_
  refine z_iconst S dL_count_1 ?_
  refine lv_aload_n S.1 S.2.1 dL_count_2 rfl (lv_at hl 0 rfl) ?_
  refine lv_iload_n S.1 S.2.1 dL_count_3 rfl (lv_at hl 1 rfl) ?_
  refine l_call (c0 := c) (As := [.int (zI w)]) (rest := [.int (zI 0), .ref o]) S (m_X4_count l D g a c hI hst hda w i0) ml_L_57 im_X4_count se_X4_count ini_X4 cd_X4_count ds_X4_count ⟨Nat.le_of_ble_eq_true rfl, Nat.le_of_ble_eq_true rfl⟩ hX hZ hP ho (va_recv hX.1.1 hP (ci := 4) (q0 := 0) rfl rfl) rfl hl.1 rfl (Nat.le_of_ble_eq_true rfl) ⟨Nat.le_of_ble_eq_true rfl, Nat.le_of_ble_eq_true rfl⟩ dL_count_4 (fun E ce q9 H locs hx hP hS hc1 hc2 hc3 => ?_) (fun hok H locs hP hS => ?_)
  · rcases hx with ⟨hk, rfl⟩
    · refine vx_catch (name := eI) (E := eI) S.2.2.2.1 [] ⟨0, 9, 12, 13⟩ [] (by rw [htab]; rfl) (fun z hz => absurd hz List.not_mem_nil) (by decide) (by decide) (S.2.2.2.2 _ cl_L_13) (xw_use (XWl_x _ cx_I) (hX.2.1 _ cx_I)) hc1 hc2 hc3 ?_
      refine lv_astore_n (lv' := [(3, .ref q9), (0, .ref (a 0)), (1, .int (zI w)), (2, .ref o)]) S.1 S.2.1 dL_count_12 rfl hl (by decide) rfl (fun ls hl => ?_)
      refine z_iconst S dL_count_13 ?_
      have hw : CW g a c ++ [(o, .inl (g.2.2, 1, .inr (.inl G)))] = (if kCount w = 0 then LW g a (c) o (oU G (cntT c w)) else LW g a c o G) := by rw [if_neg (by omega)]; rfl
      rw [hw] at hP
      exact l_ret S hr hlk (by rw [hk]; rfl) hP hS dL_count_14
  · refine lv_i2l (v := (zI (cntT c w)).toInt64) S.1 S.2.1 dL_count_7 rfl ?_
    refine l_set S hX hP hda ho hS dL_count_8 (fun H locs hP hS => ?_)
    refine z_goto (tgt := 15) S dL_count_9 (by decide) ?_
    refine z_iconst S dL_count_15 ?_
    have hw : LW g a (c) o (oU G (cntT c w)) = (if kCount w = 0 then LW g a (c) o (oU G (cntT c w)) else LW g a c o G) := by rw [if_pos hok]
    rw [hw] at hP
    exact l_ret S hr hlk (by rw [hok]; rfl) hP hS dL_count_16
set_option maxHeartbeats 4000000 in
set_option maxRecDepth 100000 in
theorem w_line (l : Launch) (D : va_G) (g : ClassId × ClassId × ClassId) (a : Nat → Nat) (o : Nat) (G : Nat → Int64) {B : Int} (c : CS) (hI : IC B c) (hst : l.stackTraces = false) (hda : CD 21 a) (ho : ∀ k : Nat, k < 21 → o ≠ a k) (w : Int) (i0 : I32 w) : LM l yL_line cL_line 4 [(0, 9, 12, 13)] 7 111 D g (LA a o) (LW g a c o G) [.ref (a 0), .int (zI w), .ref o] (if kLine w = 0 then LW g a (sA c 9 (onL c 400)) o (oU G (lineT c w)) else LW g a c o G) (kLine w) := by
  refine l_enter RL (by decide) rfl (Nat.le_of_ble_eq_true rfl) ?_
  intro p e s m args below meth co S hr hlk hX hZ htab hP ls hl
  have hl : lv_has ls 4 [(0, .ref (a 0)), (1, .int (zI w)), (2, .ref o)] := hl
  have hP : va_P D vwCl (CW g a c ++ [(o, .inl (g.2.2, 1, .inr (.inl G)))]) s.heap := hP
  refine lv_aload_n S.1 S.2.1 dL_line_0 rfl (lv_at hl 2 rfl) ?_
  refine z_iconst S dL_line_1 ?_
  refine lv_aload_n S.1 S.2.1 dL_line_2 rfl (lv_at hl 0 rfl) ?_
  refine lv_iload_n S.1 S.2.1 dL_line_3 rfl (lv_at hl 1 rfl) ?_
  refine l_call (c0 := c) (As := [.int (zI w)]) (rest := [.int (zI 0), .ref o]) S (m_X4_line l D g a c hI hst hda w i0) ml_L_60 im_X4_line se_X4_line ini_X4 cd_X4_line ds_X4_line ⟨Nat.le_of_ble_eq_true rfl, Nat.le_of_ble_eq_true rfl⟩ hX hZ hP ho (va_recv hX.1.1 hP (ci := 4) (q0 := 0) rfl rfl) rfl hl.1 rfl (Nat.le_of_ble_eq_true rfl) ⟨Nat.le_of_ble_eq_true rfl, Nat.le_of_ble_eq_true rfl⟩ dL_line_4 (fun E ce q9 H locs hx hP hS hc1 hc2 hc3 => ?_) (fun hok H locs hP hS => ?_)
  · rcases hx with ⟨hk, rfl⟩
    · refine vx_catch (name := eI) (E := eI) S.2.2.2.1 [] ⟨0, 9, 12, 13⟩ [] (by rw [htab]; rfl) (fun z hz => absurd hz List.not_mem_nil) (by decide) (by decide) (S.2.2.2.2 _ cl_L_13) (xw_use (XWl_x _ cx_I) (hX.2.1 _ cx_I)) hc1 hc2 hc3 ?_
      refine lv_astore_n (lv' := [(3, .ref q9), (0, .ref (a 0)), (1, .int (zI w)), (2, .ref o)]) S.1 S.2.1 dL_line_12 rfl hl (by decide) rfl (fun ls hl => ?_)
      refine z_iconst S dL_line_13 ?_
      have hw : CW g a c ++ [(o, .inl (g.2.2, 1, .inr (.inl G)))] = (if kLine w = 0 then LW g a (sA c 9 (onL c 400)) o (oU G (lineT c w)) else LW g a c o G) := by rw [if_neg (by omega)]; rfl
      rw [hw] at hP
      exact l_ret S hr hlk (by rw [hk]; rfl) hP hS dL_line_14
  · refine lv_i2l (v := (zI (lineT c w)).toInt64) S.1 S.2.1 dL_line_7 rfl ?_
    refine l_set S hX hP hda ho hS dL_line_8 (fun H locs hP hS => ?_)
    refine z_goto (tgt := 15) S dL_line_9 (by decide) ?_
    refine z_iconst S dL_line_15 ?_
    have hw : LW g a (sA c 9 (onL c 400)) o (oU G (lineT c w)) = (if kLine w = 0 then LW g a (sA c 9 (onL c 400)) o (oU G (lineT c w)) else LW g a c o G) := by rw [if_pos hok]
    rw [hw] at hP
    exact l_ret S hr hlk (by rw [hok]; rfl) hP hS dL_line_16
set_option maxHeartbeats 4000000 in
set_option maxRecDepth 100000 in
theorem w_would (l : Launch) (D : va_G) (g : ClassId × ClassId × ClassId) (a : Nat → Nat) (o : Nat) (G : Nat → Int64) {B : Int} (c : CS) (hI : IC B c) (hst : l.stackTraces = false) (hda : CD 21 a) (ho : ∀ k : Nat, k < 21 → o ≠ a k) (q : Int) (d : Int) (f : Int) (i0 : I32 q) (i1 : I32 d) (i2 : I32 f) (hf : 0 ≤ f ∧ f ≤ 1) : LM l yL_would cL_would 6 [(0, 12, 15, 13)] 7 136 D g (LA a o) (LW g a c o G) [.ref (a 0), .int (zI q), .int (zI d), .int (zI f), .ref o] (if kWould c q d = 0 then LW g a (c) o (oU G (wouldT c q d f)) else LW g a c o G) (kWould c q d) := by
  refine l_enter RL (by decide) rfl (Nat.le_of_ble_eq_true rfl) ?_
  intro p e s m args below meth co S hr hlk hX hZ htab hP ls hl
  have hl : lv_has ls 6 [(0, .ref (a 0)), (1, .int (zI q)), (2, .int (zI d)), (3, .int (zI f)), (4, .ref o)] := hl
  have hP : va_P D vwCl (CW g a c ++ [(o, .inl (g.2.2, 1, .inr (.inl G)))]) s.heap := hP
  refine lv_aload S.1 S.2.1 dL_would_0 (lv_at hl 4 rfl) ?_
  refine z_iconst S dL_would_2 ?_
  refine lv_aload_n S.1 S.2.1 dL_would_3 rfl (lv_at hl 0 rfl) ?_
  refine lv_iload_n S.1 S.2.1 dL_would_4 rfl (lv_at hl 1 rfl) ?_
  refine lv_iload_n S.1 S.2.1 dL_would_5 rfl (lv_at hl 2 rfl) ?_
  refine lv_iload_n S.1 S.2.1 dL_would_6 rfl (lv_at hl 3 rfl) ?_
  refine l_call (c0 := c) (As := [.int (zI q), .int (zI d), .int (zI f)]) (rest := [.int (zI 0), .ref o]) S (m_X4_would l D g a c hI hst hda q d f i0 i1 i2 hf) ml_L_63 im_X4_would se_X4_would ini_X4 cd_X4_would ds_X4_would ⟨Nat.le_of_ble_eq_true rfl, Nat.le_of_ble_eq_true rfl⟩ hX hZ hP ho (va_recv hX.1.1 hP (ci := 4) (q0 := 0) rfl rfl) rfl hl.1 rfl (Nat.le_of_ble_eq_true rfl) ⟨Nat.le_of_ble_eq_true rfl, Nat.le_of_ble_eq_true rfl⟩ dL_would_7 (fun E ce q9 H locs hx hP hS hc1 hc2 hc3 => ?_) (fun hok H locs hP hS => ?_)
  · rcases hx with ⟨hk, rfl⟩
    · refine vx_catch (name := eI) (E := eI) S.2.2.2.1 [] ⟨0, 12, 15, 13⟩ [] (by rw [htab]; rfl) (fun z hz => absurd hz List.not_mem_nil) (by decide) (by decide) (S.2.2.2.2 _ cl_L_13) (xw_use (XWl_x _ cx_I) (hX.2.1 _ cx_I)) hc1 hc2 hc3 ?_
      refine lv_astore (lv' := [(5, .ref q9), (0, .ref (a 0)), (1, .int (zI q)), (2, .int (zI d)), (3, .int (zI f)), (4, .ref o)]) S.1 S.2.1 dL_would_15 hl (by decide) rfl (fun ls hl => ?_)
      refine z_iconst S dL_would_17 ?_
      have hw : CW g a c ++ [(o, .inl (g.2.2, 1, .inr (.inl G)))] = (if kWould c q d = 0 then LW g a (c) o (oU G (wouldT c q d f)) else LW g a c o G) := by rw [if_neg (by omega)]; rfl
      rw [hw] at hP
      exact l_ret S hr hlk (by rw [hk]; rfl) hP hS dL_would_18
  · refine lv_i2l (v := (zI (wouldT c q d f)).toInt64) S.1 S.2.1 dL_would_10 rfl ?_
    refine l_set S hX hP hda ho hS dL_would_11 (fun H locs hP hS => ?_)
    refine z_goto (tgt := 19) S dL_would_12 (by decide) ?_
    refine z_iconst S dL_would_19 ?_
    have hw : LW g a (c) o (oU G (wouldT c q d f)) = (if kWould c q d = 0 then LW g a (c) o (oU G (wouldT c q d f)) else LW g a c o G) := by rw [if_pos hok]
    rw [hw] at hP
    exact l_ret S hr hlk (by rw [hok]; rfl) hP hS dL_would_20
set_option maxHeartbeats 4000000 in
set_option maxRecDepth 100000 in
theorem w_best (l : Launch) (D : va_G) (g : ClassId × ClassId × ClassId) (a : Nat → Nat) (o : Nat) (G : Nat → Int64) {B : Int} (c : CS) (hI : IC B c) (hst : l.stackTraces = false) (hda : CD 21 a) (ho : ∀ k : Nat, k < 21 → o ≠ a k) (d : Int) (w : Int) (i0 : I32 d) (i1 : I32 w) : LM l yL_best cL_best 5 [(0, 10, 13, 13)] 7 117 D g (LA a o) (LW g a c o G) [.ref (a 0), .int (zI d), .int (zI w), .ref o] (if kBest c d w = 0 then LW g a (c) o (oU G (bestT c d w)) else LW g a c o G) (kBest c d w) := by
  refine l_enter RL (by decide) rfl (Nat.le_of_ble_eq_true rfl) ?_
  intro p e s m args below meth co S hr hlk hX hZ htab hP ls hl
  have hl : lv_has ls 5 [(0, .ref (a 0)), (1, .int (zI d)), (2, .int (zI w)), (3, .ref o)] := hl
  have hP : va_P D vwCl (CW g a c ++ [(o, .inl (g.2.2, 1, .inr (.inl G)))]) s.heap := hP
  refine lv_aload_n S.1 S.2.1 dL_best_0 rfl (lv_at hl 3 rfl) ?_
  refine z_iconst S dL_best_1 ?_
  refine lv_aload_n S.1 S.2.1 dL_best_2 rfl (lv_at hl 0 rfl) ?_
  refine lv_iload_n S.1 S.2.1 dL_best_3 rfl (lv_at hl 1 rfl) ?_
  refine lv_iload_n S.1 S.2.1 dL_best_4 rfl (lv_at hl 2 rfl) ?_
  refine l_call (c0 := c) (As := [.int (zI d), .int (zI w)]) (rest := [.int (zI 0), .ref o]) S (m_X4_best l D g a c hI hst hda d w i0 i1) ml_L_67 im_X4_best se_X4_best ini_X4 cd_X4_best ds_X4_best ⟨Nat.le_of_ble_eq_true rfl, Nat.le_of_ble_eq_true rfl⟩ hX hZ hP ho (va_recv hX.1.1 hP (ci := 4) (q0 := 0) rfl rfl) rfl hl.1 rfl (Nat.le_of_ble_eq_true rfl) ⟨Nat.le_of_ble_eq_true rfl, Nat.le_of_ble_eq_true rfl⟩ dL_best_5 (fun E ce q9 H locs hx hP hS hc1 hc2 hc3 => ?_) (fun hok H locs hP hS => ?_)
  · rcases hx with ⟨hk, rfl⟩
    · refine vx_catch (name := eI) (E := eI) S.2.2.2.1 [] ⟨0, 10, 13, 13⟩ [] (by rw [htab]; rfl) (fun z hz => absurd hz List.not_mem_nil) (by decide) (by decide) (S.2.2.2.2 _ cl_L_13) (xw_use (XWl_x _ cx_I) (hX.2.1 _ cx_I)) hc1 hc2 hc3 ?_
      refine lv_astore (lv' := [(4, .ref q9), (0, .ref (a 0)), (1, .int (zI d)), (2, .int (zI w)), (3, .ref o)]) S.1 S.2.1 dL_best_13 hl (by decide) rfl (fun ls hl => ?_)
      refine z_iconst S dL_best_15 ?_
      have hw : CW g a c ++ [(o, .inl (g.2.2, 1, .inr (.inl G)))] = (if kBest c d w = 0 then LW g a (c) o (oU G (bestT c d w)) else LW g a c o G) := by rw [if_neg (by omega)]; rfl
      rw [hw] at hP
      exact l_ret S hr hlk (by rw [hk]; rfl) hP hS dL_best_16
  · refine lv_i2l (v := (zI (bestT c d w)).toInt64) S.1 S.2.1 dL_best_8 rfl ?_
    refine l_set S hX hP hda ho hS dL_best_9 (fun H locs hP hS => ?_)
    refine z_goto (tgt := 17) S dL_best_10 (by decide) ?_
    refine z_iconst S dL_best_17 ?_
    have hw : LW g a (c) o (oU G (bestT c d w)) = (if kBest c d w = 0 then LW g a (c) o (oU G (bestT c d w)) else LW g a c o G) := by rw [if_pos hok]
    rw [hw] at hP
    exact l_ret S hr hlk (by rw [hok]; rfl) hP hS dL_best_18
