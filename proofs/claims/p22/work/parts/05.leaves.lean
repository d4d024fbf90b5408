set_option maxHeartbeats 4000000 in
set_option maxRecDepth 100000 in
theorem m_X4_within (l : Launch) (D : va_G) (g : ClassId × ClassId × ClassId) (nb : Int) (lst : Int) (mst : Int) (h0 : I32 nb ∧ I32 lst ∧ I32 mst) : RD l yX4_within cX4_within 3 (some .boolean) 0 0 D g [] [.int (zI nb), .int (zI lst), .int (zI mst)] (b01 (lst ≤ nb ∧ nb ≤ mst)) := by
  refine z_enter RX4 (by decide) rfl (Nat.le_of_ble_eq_true rfl) ?_
  intro p e s m args below meth co S hr hlk hK hP ls hl
  have hl : lv_has ls 3 [(0, .int (zI nb)), (1, .int (zI lst)), (2, .int (zI mst))] := hl
  refine lv_iload_n S.1 S.2.1 dX4_within_0 rfl (lv_at hl 0 rfl) ?_
  refine lv_iload_n S.1 S.2.1 dX4_within_1 rfl (lv_at hl 1 rfl) ?_
  refine z_icmp_lt (tgt := 14) S dX4_within_2 (by decide) (by omega) (fun h_1 => ?_) (fun h_1 => ?_)
  · refine z_iconst S dX4_within_14 ?_
    exact z_retb S hr hlk (Or.inl rfl) ((b01_f (by omega)).symm) dX4_within_15
  · refine lv_iload_n S.1 S.2.1 dX4_within_5 rfl (lv_at hl 0 rfl) ?_
    refine lv_iload_n S.1 S.2.1 dX4_within_6 rfl (lv_at hl 2 rfl) ?_
    refine z_icmp_gt (tgt := 14) S dX4_within_7 (by decide) (by omega) (fun h_2 => ?_) (fun h_2 => ?_)
    · refine z_iconst S dX4_within_14 ?_
      exact z_retb S hr hlk (Or.inl rfl) ((b01_f (by omega)).symm) dX4_within_15
    · refine z_iconst S dX4_within_10 ?_
      refine z_goto (tgt := 15) S dX4_within_11 (by decide) ?_
      exact z_retb S hr hlk (Or.inr rfl) ((b01_t (by omega)).symm) dX4_within_15
set_option maxHeartbeats 4000000 in
set_option maxRecDepth 100000 in
theorem m_X4_inField (l : Launch) (D : va_G) (g : ClassId × ClassId × ClassId) (x : Int) (y : Int) (h0 : I32 x ∧ I32 y) : RD l yX4_inField cX4_inField 2 (some .boolean) 1 22 D g [] [.int (zI x), .int (zI y)] (b01 (inF x y)) := by
  refine z_enter RX4 (by decide) rfl (Nat.le_of_ble_eq_true rfl) ?_
  intro p e s m args below meth co S hr hlk hK hP ls hl
  have hl : lv_has ls 2 [(0, .int (zI x)), (1, .int (zI y))] := hl
  refine lv_iload_n S.1 S.2.1 dX4_inField_0 rfl (lv_at hl 0 rfl) ?_
  refine z_iconst S dX4_inField_1 ?_
  refine z_bipush S (by decide) dX4_inField_2 ?_
  refine z_rS (As := [.int (zI x), .int (zI 0), .int (zI 19)]) (rest := []) S (m_X4_within l D g x 0 19 (by omega)) ml_X4_64 sm_X4_within ini_X4 cd_X4_within ds_X4_within ⟨Nat.le_of_ble_eq_true rfl, Nat.le_of_ble_eq_true rfl⟩ hK va_P_nil rfl hl.1 rfl (Nat.le_of_ble_eq_true rfl) ⟨Nat.zero_le _, Nat.zero_le _⟩ dX4_inField_4 ?_
  refine z_ifb_eq (tgt := 24) S dX4_inField_7 (by decide) (fun h_1 => ?_) (fun h_1 => ?_)
  · refine z_iconst S dX4_inField_24 ?_
    exact z_retb S hr hlk (Or.inl rfl) ((b01_f (by omega)).symm) dX4_inField_25
  · refine lv_iload_n S.1 S.2.1 dX4_inField_10 rfl (lv_at hl 1 rfl) ?_
    refine z_iconst S dX4_inField_11 ?_
    refine z_bipush S (by decide) dX4_inField_12 ?_
    refine z_rS (As := [.int (zI y), .int (zI 0), .int (zI 19)]) (rest := []) S (m_X4_within l D g y 0 19 (by omega)) ml_X4_64 sm_X4_within ini_X4 cd_X4_within ds_X4_within ⟨Nat.le_of_ble_eq_true rfl, Nat.le_of_ble_eq_true rfl⟩ hK va_P_nil rfl hl.1 rfl (Nat.le_of_ble_eq_true rfl) ⟨Nat.zero_le _, Nat.zero_le _⟩ dX4_inField_14 ?_
    refine z_ifb_eq (tgt := 24) S dX4_inField_17 (by decide) (fun h_2 => ?_) (fun h_2 => ?_)
    · refine z_iconst S dX4_inField_24 ?_
      exact z_retb S hr hlk (Or.inl rfl) ((b01_f (by omega)).symm) dX4_inField_25
    · refine z_iconst S dX4_inField_20 ?_
      refine z_goto (tgt := 25) S dX4_inField_21 (by decide) ?_
      exact z_retb S hr hlk (Or.inr rfl) ((b01_t (by omega)).symm) dX4_inField_25
set_option maxHeartbeats 4000000 in
set_option maxRecDepth 100000 in
theorem m_X4_straight (l : Launch) (D : va_G) (g : ClassId × ClassId × ClassId) (x : Int) (y : Int) (tx : Int) (ty : Int) (h0 : (0 ≤ x ∧ x ≤ 19) ∧ (0 ≤ y ∧ y ≤ 19) ∧ (0 ≤ tx ∧ tx ≤ 19) ∧ 0 ≤ ty ∧ ty ≤ 19) : RD l yX4_straight cX4_straight 4 (some .boolean) 1 21 D g [] [.int (zI x), .int (zI y), .int (zI tx), .int (zI ty)] (b01 (x = tx ∨ y = ty ∨ ab (tx - x) = ab (ty - y))) := by
  refine z_enter RX4 (by decide) rfl (Nat.le_of_ble_eq_true rfl) ?_
  intro p e s m args below meth co S hr hlk hK hP ls hl
  have hl : lv_has ls 4 [(0, .int (zI x)), (1, .int (zI y)), (2, .int (zI tx)), (3, .int (zI ty))] := hl
  have hb1 := ab_le (x := tx - x) (n := 19) (by omega)
  have hb2 := ab_le (x := ty - y) (n := 19) (by omega)
  refine lv_iload_n S.1 S.2.1 dX4_straight_0 rfl (lv_at hl 0 rfl) ?_
  refine lv_iload_n S.1 S.2.1 dX4_straight_1 rfl (lv_at hl 2 rfl) ?_
  refine z_icmp_eq (tgt := 25) S dX4_straight_2 (by decide) (by omega) (fun h_1 => ?_) (fun h_1 => ?_)
  · refine z_iconst S dX4_straight_25 ?_
    refine z_goto (tgt := 30) S dX4_straight_26 (by decide) ?_
    exact z_retb S hr hlk (Or.inr rfl) ((b01_t (by omega)).symm) dX4_straight_30
  · refine lv_iload_n S.1 S.2.1 dX4_straight_5 rfl (lv_at hl 1 rfl) ?_
    refine lv_iload_n S.1 S.2.1 dX4_straight_6 rfl (lv_at hl 3 rfl) ?_
    refine z_icmp_eq (tgt := 25) S dX4_straight_7 (by decide) (by omega) (fun h_2 => ?_) (fun h_2 => ?_)
    · refine z_iconst S dX4_straight_25 ?_
      refine z_goto (tgt := 30) S dX4_straight_26 (by decide) ?_
      exact z_retb S hr hlk (Or.inr rfl) ((b01_t (by omega)).symm) dX4_straight_30
    · refine lv_iload_n S.1 S.2.1 dX4_straight_10 rfl (lv_at hl 2 rfl) ?_
      refine lv_iload_n S.1 S.2.1 dX4_straight_11 rfl (lv_at hl 0 rfl) ?_
      refine z_isub S dX4_straight_12 ?_
      refine z_abs S ml_X4_108 hl.1 (Nat.le_of_ble_eq_true rfl) (Nat.le_of_ble_eq_true rfl) ⟨Nat.zero_le _, Nat.zero_le _⟩ (by omega) dX4_straight_13 ?_
      refine lv_iload_n S.1 S.2.1 dX4_straight_16 rfl (lv_at hl 3 rfl) ?_
      refine lv_iload_n S.1 S.2.1 dX4_straight_17 rfl (lv_at hl 1 rfl) ?_
      refine z_isub S dX4_straight_18 ?_
      refine z_abs S ml_X4_108 hl.1 (Nat.le_of_ble_eq_true rfl) (Nat.le_of_ble_eq_true rfl) ⟨Nat.zero_le _, Nat.zero_le _⟩ (by omega) dX4_straight_19 ?_
      refine z_icmp_ne (tgt := 29) S dX4_straight_22 (by decide) (by omega) (fun h_3 => ?_) (fun h_3 => ?_)
      · refine z_iconst S dX4_straight_29 ?_
        exact z_retb S hr hlk (Or.inl rfl) ((b01_f (by omega)).symm) dX4_straight_30
      · refine z_iconst S dX4_straight_25 ?_
        refine z_goto (tgt := 30) S dX4_straight_26 (by decide) ?_
        exact z_retb S hr hlk (Or.inr rfl) ((b01_t (by omega)).symm) dX4_straight_30
set_option maxHeartbeats 4000000 in
set_option maxRecDepth 100000 in
theorem m_X4_spotAt (l : Launch) (D : va_G) (g : ClassId × ClassId × ClassId) (x : Int) (y : Int) : RD l yX4_spotAt cX4_spotAt 2 (some .int) 0 0 D g [] [.int (zI x), .int (zI y)] (y * 20 + x) := by
  refine z_enter RX4 (by decide) rfl (Nat.le_of_ble_eq_true rfl) ?_
  intro p e s m args below meth co S hr hlk hK hP ls hl
  have hl : lv_has ls 2 [(0, .int (zI x)), (1, .int (zI y))] := hl
  refine lv_iload_n S.1 S.2.1 dX4_spotAt_0 rfl (lv_at hl 1 rfl) ?_
  refine z_bipush S (by decide) dX4_spotAt_1 ?_
  refine z_imul S dX4_spotAt_3 ?_
  refine lv_iload_n S.1 S.2.1 dX4_spotAt_4 rfl (lv_at hl 0 rfl) ?_
  refine z_iadd S dX4_spotAt_5 ?_
  exact z_ret S hr hlk (by first | rfl | grind) dX4_spotAt_6
set_option maxHeartbeats 4000000 in
set_option maxRecDepth 100000 in
theorem m_X4_columnOf (l : Launch) (D : va_G) (g : ClassId × ClassId × ClassId) (sp : Int) (h0 : 0 ≤ sp ∧ sp < 400) : RD l yX4_columnOf cX4_columnOf 1 (some .int) 0 0 D g [] [.int (zI sp)] (sp % 20) := by
  refine z_enter RX4 (by decide) rfl (Nat.le_of_ble_eq_true rfl) ?_
  intro p e s m args below meth co S hr hlk hK hP ls hl
  have hl : lv_has ls 1 [(0, .int (zI sp))] := hl
  refine lv_iload_n S.1 S.2.1 dX4_columnOf_0 rfl (lv_at hl 0 rfl) ?_
  refine z_bipush S (by decide) dX4_columnOf_1 ?_
  refine z_iremn S (by omega) dX4_columnOf_3 ?_
  exact z_ret S hr hlk (by first | rfl | grind) dX4_columnOf_4
set_option maxHeartbeats 4000000 in
set_option maxRecDepth 100000 in
theorem m_X4_rowOf (l : Launch) (D : va_G) (g : ClassId × ClassId × ClassId) (sp : Int) (h0 : 0 ≤ sp ∧ sp < 400) : RD l yX4_rowOf cX4_rowOf 1 (some .int) 0 0 D g [] [.int (zI sp)] (sp / 20) := by
  refine z_enter RX4 (by decide) rfl (Nat.le_of_ble_eq_true rfl) ?_
  intro p e s m args below meth co S hr hlk hK hP ls hl
  have hl : lv_has ls 1 [(0, .int (zI sp))] := hl
  refine lv_iload_n S.1 S.2.1 dX4_rowOf_0 rfl (lv_at hl 0 rfl) ?_
  refine z_bipush S (by decide) dX4_rowOf_1 ?_
  refine z_idivn S (by omega) dX4_rowOf_3 ?_
  exact z_ret S hr hlk (by first | rfl | grind) dX4_rowOf_4
set_option maxHeartbeats 4000000 in
set_option maxRecDepth 100000 in
theorem m_X4_distance (l : Launch) (D : va_G) (g : ClassId × ClassId × ClassId) (on : Int) (ot : Int) (h0 : 0 ≤ on ∧ on < 400) (h1 : 0 ≤ ot ∧ ot < 400) : RD l yX4_distance cX4_distance 2 (some .int) 1 21 D g [] [.int (zI on), .int (zI ot)] (dist on ot) := by
  refine z_enter RX4 (by decide) rfl (Nat.le_of_ble_eq_true rfl) ?_
  intro p e s m args below meth co S hr hlk hK hP ls hl
  have hl : lv_has ls 2 [(0, .int (zI on)), (1, .int (zI ot))] := hl
  refine lv_iload_n S.1 S.2.1 dX4_distance_0 rfl (lv_at hl 0 rfl) ?_
  refine z_rS (As := [.int (zI on)]) (rest := []) S (m_X4_columnOf l D g on (by omega)) ml_X4_214 sm_X4_columnOf ini_X4 cd_X4_columnOf ds_X4_columnOf ⟨Nat.le_of_ble_eq_true rfl, Nat.le_of_ble_eq_true rfl⟩ hK va_P_nil rfl hl.1 rfl (Nat.le_of_ble_eq_true rfl) ⟨Nat.zero_le _, Nat.zero_le _⟩ dX4_distance_1 ?_
  refine lv_iload_n S.1 S.2.1 dX4_distance_4 rfl (lv_at hl 1 rfl) ?_
  refine z_rS (As := [.int (zI ot)]) (rest := [.int (zI (on % 20))]) S (m_X4_columnOf l D g ot (by omega)) ml_X4_214 sm_X4_columnOf ini_X4 cd_X4_columnOf ds_X4_columnOf ⟨Nat.le_of_ble_eq_true rfl, Nat.le_of_ble_eq_true rfl⟩ hK va_P_nil rfl hl.1 rfl (Nat.le_of_ble_eq_true rfl) ⟨Nat.zero_le _, Nat.zero_le _⟩ dX4_distance_5 ?_
  refine z_isub S dX4_distance_8 ?_
  refine z_abs S ml_X4_108 hl.1 (Nat.le_of_ble_eq_true rfl) (Nat.le_of_ble_eq_true rfl) ⟨Nat.zero_le _, Nat.zero_le _⟩ (by omega) dX4_distance_9 ?_
  refine lv_iload_n S.1 S.2.1 dX4_distance_12 rfl (lv_at hl 0 rfl) ?_
  refine z_rS (As := [.int (zI on)]) (rest := [.int (zI (ab ((on % 20) - (ot % 20))))]) S (m_X4_rowOf l D g on (by omega)) ml_X4_217 sm_X4_rowOf ini_X4 cd_X4_rowOf ds_X4_rowOf ⟨Nat.le_of_ble_eq_true rfl, Nat.le_of_ble_eq_true rfl⟩ hK va_P_nil rfl hl.1 rfl (Nat.le_of_ble_eq_true rfl) ⟨Nat.zero_le _, Nat.zero_le _⟩ dX4_distance_13 ?_
  refine lv_iload_n S.1 S.2.1 dX4_distance_16 rfl (lv_at hl 1 rfl) ?_
  refine z_rS (As := [.int (zI ot)]) (rest := [.int (zI (on / 20)), .int (zI (ab ((on % 20) - (ot % 20))))]) S (m_X4_rowOf l D g ot (by omega)) ml_X4_217 sm_X4_rowOf ini_X4 cd_X4_rowOf ds_X4_rowOf ⟨Nat.le_of_ble_eq_true rfl, Nat.le_of_ble_eq_true rfl⟩ hK va_P_nil rfl hl.1 rfl (Nat.le_of_ble_eq_true rfl) ⟨Nat.zero_le _, Nat.zero_le _⟩ dX4_distance_17 ?_
  refine z_isub S dX4_distance_20 ?_
  refine z_abs S ml_X4_108 hl.1 (Nat.le_of_ble_eq_true rfl) (Nat.le_of_ble_eq_true rfl) ⟨Nat.zero_le _, Nat.zero_le _⟩ (by omega) dX4_distance_21 ?_
  refine z_iadd S dX4_distance_24 ?_
  exact z_ret S hr hlk (by first | rfl | grind) dX4_distance_25
set_option maxHeartbeats 4000000 in
set_option maxRecDepth 100000 in
theorem m_X4_quotient (l : Launch) (D : va_G) (g : ClassId × ClassId × ClassId) (dd : Int) (dv : Int) (h0 : 0 ≤ dd ∧ dd ≤ 2147483647 ∧ 0 ≤ dv ∧ dv ≤ 2147483647) : RD l yX4_quotient cX4_quotient 2 (some .int) 0 0 D g [] [.int (zI dd), .int (zI dv)] (dd / dv) := by
  refine z_enter RX4 (by decide) rfl (Nat.le_of_ble_eq_true rfl) ?_
  intro p e s m args below meth co S hr hlk hK hP ls hl
  have hl : lv_has ls 2 [(0, .int (zI dd)), (1, .int (zI dv))] := hl
  refine lv_iload_n S.1 S.2.1 dX4_quotient_0 rfl (lv_at hl 1 rfl) ?_
  refine z_if_le (tgt := 10) S dX4_quotient_1 (by decide) (by omega) (fun h_1 => ?_) (fun h_1 => ?_)
  · refine z_iconst S dX4_quotient_10 ?_
    exact z_ret S hr hlk (by first | rfl | (rw [show dv = 0 by omega, Int.ediv_zero])) dX4_quotient_11
  · refine lv_iload_n S.1 S.2.1 dX4_quotient_4 rfl (lv_at hl 0 rfl) ?_
    refine lv_iload_n S.1 S.2.1 dX4_quotient_5 rfl (lv_at hl 1 rfl) ?_
    refine z_idivn S (by omega) dX4_quotient_6 ?_
    refine z_goto (tgt := 11) S dX4_quotient_7 (by decide) ?_
    exact z_ret S hr hlk (by first | rfl | (rw [show dv = 0 by omega, Int.ediv_zero])) dX4_quotient_11
set_option maxHeartbeats 4000000 in
set_option maxRecDepth 100000 in
theorem m_X1_standsAt (l : Launch) (D : va_G) (g : ClassId × ClassId × ClassId) (a : Nat → Nat) {B : Int} (c : CS) (hI : IC B c) (sp : Int) (h0 : 0 ≤ sp ∧ sp < 400) : RD l yX1_standsAt cX1_standsAt 2 (some .boolean) 0 0 D g (CW g a c) [.ref (a 3), .int (zI sp)] (b01 (c.2 8 sp ≠ -1)) := by
  refine z_enter RX1 (by decide) rfl (Nat.le_of_ble_eq_true rfl) ?_
  intro p e s m args below meth co S hr hlk hK hP ls hl
  have hl : lv_has ls 2 [(0, .ref (a 3)), (1, .int (zI sp))] := hl
  have hs := hI.s
  refine lv_aload_n S.1 S.2.1 dX1_standsAt_0 rfl (lv_at hl 0 rfl) ?_
  refine z_get (v := .ref (a 13)) S inA1 hK hP 3 rfl rfl 1 (by decide) fl_X1_15 rfl dX1_standsAt_1 ?_
  refine lv_iload_n S.1 S.2.1 dX1_standsAt_4 rfl (lv_at hl 1 rfl) ?_
  refine z_iald S hK hP 13 rfl (by decide) (by omega) dX1_standsAt_5 ?_
  have hb_1 := hI.r8 sp
  refine z_iconst S dX1_standsAt_6 ?_
  refine z_icmp_eq (tgt := 14) S dX1_standsAt_7 (by decide) (by omega) (fun h_2 => ?_) (fun h_2 => ?_)
  · refine z_iconst S dX1_standsAt_14 ?_
    exact z_retb S hr hlk (Or.inl rfl) ((b01_f (by omega)).symm) dX1_standsAt_15
  · refine z_iconst S dX1_standsAt_10 ?_
    refine z_goto (tgt := 15) S dX1_standsAt_11 (by decide) ?_
    exact z_retb S hr hlk (Or.inr rfl) ((b01_t (by omega)).symm) dX1_standsAt_15
set_option maxHeartbeats 4000000 in
set_option maxRecDepth 100000 in
theorem m_X1_add (l : Launch) (D : va_G) (g : ClassId × ClassId × ClassId) (a : Nat → Nat) {B : Int} (c : CS) (hI : IC B c) (hda : CD 21 a) (sp : Int) (d : Int) (h0 : 0 ≤ sp ∧ sp < 400) : WRv l yX1_add cX1_add 3 none 0 0 D g (CA 21 a) (CW g a c) [.ref (a 3), .int (zI sp), .int (zI d)] (CW g a (sS (sA c 8 (upZ (c.2 8) sp d)) 4 (c.1 4 + 1))) := by
  refine z_enter RX1 (by decide) rfl (Nat.le_of_ble_eq_true rfl) ?_
  intro p e s m args below meth co S hr hlk hK hP ls hl
  have hl : lv_has ls 3 [(0, .ref (a 3)), (1, .int (zI sp)), (2, .int (zI d))] := hl
  have hs := hI.s
  have hS : va_S (CA 21 a) s.heap s.heap [] := va_S.rf
  refine lv_aload_n S.1 S.2.1 dX1_add_0 rfl (lv_at hl 0 rfl) ?_
  refine z_get (v := .ref (a 13)) S inA1 hK hP 3 rfl rfl 1 (by decide) fl_X1_15 rfl dX1_add_1 ?_
  refine lv_iload_n S.1 S.2.1 dX1_add_4 rfl (lv_at hl 1 rfl) ?_
  refine lv_iload_n S.1 S.2.1 dX1_add_5 rfl (lv_at hl 2 rfl) ?_
  refine z_iast S hK hP (CW_D hda _) hS 13 rfl (by decide) (by omega) dX1_add_6 (fun H locs hP hS => ?_)
  have hP : va_P D vwCl (CW g a (sA c 8 (upZ (c.2 8) sp d))) H := hP
  refine lv_aload_n S.1 S.2.1 dX1_add_7 rfl (lv_at hl 0 rfl) ?_
  refine lv_dup S.1 S.2.1 dX1_add_8 rfl ?_
  refine z_get (v := .int (zI (c.1 4))) S inA1 hK hP 3 rfl rfl 0 (by decide) fl_X1_11 rfl dX1_add_9 ?_
  refine z_iconst S dX1_add_12 ?_
  refine z_iadd S dX1_add_13 ?_
  refine z_put S inA1 tyX1 tyX1_ok nmX1 hK hP (CW_D hda _) hS 3 rfl rfl 0 (by decide) fl_X1_11 rfl (by decide +kernel) (Nat.le_of_ble_eq_true rfl) dX1_add_14 (fun H locs hP hS => ?_)
  have hP : va_P D vwCl (CW g a (sS (sA c 8 (upZ (c.2 8) sp d)) 4 ((c.1 4) + 1))) H := hP
  have hw : CW g a (sS (sA c 8 (upZ (c.2 8) sp d)) 4 ((c.1 4) + 1)) = CW g a (sS (sA c 8 (upZ (c.2 8) sp d)) 4 (c.1 4 + 1)) := by exact rfl
  rw [hw] at hP
  exact z_retv S hr hlk hP hS dX1_add_17
set_option maxHeartbeats 4000000 in
set_option maxRecDepth 100000 in
theorem m_X1_remove (l : Launch) (D : va_G) (g : ClassId × ClassId × ClassId) (a : Nat → Nat) {B : Int} (c : CS) (hI : IC B c) (hda : CD 21 a) (sp : Int) (h0 : 0 ≤ sp ∧ sp < 400) : WRi l yX1_remove cX1_remove 3 (some .int) 0 0 D g (CA 21 a) (CW g a c) [.ref (a 3), .int (zI sp)] (CW g a (sS (sA c 8 (upZ (c.2 8) sp (-1))) 4 (c.1 4 - 1))) (c.2 8 sp) := by
  refine z_enter RX1 (by decide) rfl (Nat.le_of_ble_eq_true rfl) ?_
  intro p e s m args below meth co S hr hlk hK hP ls hl
  have hl : lv_has ls 3 [(0, .ref (a 3)), (1, .int (zI sp))] := hl
  have hs := hI.s
  have hS : va_S (CA 21 a) s.heap s.heap [] := va_S.rf
  refine lv_aload_n S.1 S.2.1 dX1_remove_0 rfl (lv_at hl 0 rfl) ?_
  refine z_get (v := .ref (a 13)) S inA1 hK hP 3 rfl rfl 1 (by decide) fl_X1_15 rfl dX1_remove_1 ?_
  refine lv_iload_n S.1 S.2.1 dX1_remove_4 rfl (lv_at hl 1 rfl) ?_
  refine z_iald S hK hP 13 rfl (by decide) (by omega) dX1_remove_5 ?_
  have hb_1 := hI.r8 sp
  refine lv_istore_n (lv' := [(2, .int (zI (c.2 8 sp))), (0, .ref (a 3)), (1, .int (zI sp))]) S.1 S.2.1 dX1_remove_6 rfl hl (by decide) rfl (fun ls hl => ?_)
  refine lv_aload_n S.1 S.2.1 dX1_remove_7 rfl (lv_at hl 1 rfl) ?_
  refine z_get (v := .ref (a 13)) S inA1 hK hP 3 rfl rfl 1 (by decide) fl_X1_15 rfl dX1_remove_8 ?_
  refine lv_iload_n S.1 S.2.1 dX1_remove_11 rfl (lv_at hl 2 rfl) ?_
  refine z_iconst S dX1_remove_12 ?_
  refine z_iast S hK hP (CW_D hda _) hS 13 rfl (by decide) (by omega) dX1_remove_13 (fun H locs hP hS => ?_)
  have hP : va_P D vwCl (CW g a (sA c 8 (upZ (c.2 8) sp (-1)))) H := hP
  refine lv_aload_n S.1 S.2.1 dX1_remove_14 rfl (lv_at hl 1 rfl) ?_
  refine lv_dup S.1 S.2.1 dX1_remove_15 rfl ?_
  refine z_get (v := .int (zI (c.1 4))) S inA1 hK hP 3 rfl rfl 0 (by decide) fl_X1_11 rfl dX1_remove_16 ?_
  refine z_iconst S dX1_remove_19 ?_
  refine z_isub S dX1_remove_20 ?_
  refine z_put S inA1 tyX1 tyX1_ok nmX1 hK hP (CW_D hda _) hS 3 rfl rfl 0 (by decide) fl_X1_11 rfl (by decide +kernel) (Nat.le_of_ble_eq_true rfl) dX1_remove_21 (fun H locs hP hS => ?_)
  have hP : va_P D vwCl (CW g a (sS (sA c 8 (upZ (c.2 8) sp (-1))) 4 ((c.1 4) - 1))) H := hP
  refine lv_iload_n S.1 S.2.1 dX1_remove_24 rfl (lv_at hl 0 rfl) ?_
  have hw : CW g a (sS (sA c 8 (upZ (c.2 8) sp (-1))) 4 ((c.1 4) - 1)) = CW g a (sS (sA c 8 (upZ (c.2 8) sp (-1))) 4 (c.1 4 - 1)) := by exact rfl
  rw [hw] at hP
  exact z_retw S hr hlk (by first | rfl | grind) hP hS dX1_remove_25
set_option maxHeartbeats 4000000 in
set_option maxRecDepth 100000 in
theorem m_X1_standingOf (l : Launch) (D : va_G) (g : ClassId × ClassId × ClassId) (a : Nat → Nat) {B : Int} (c : CS) (hI : IC B c) (d : Int) (h0 : I32 d) : RD l yX1_standingOf cX1_standingOf 4 (some .int) 0 0 D g (CW g a c) [.ref (a 3), .int (zI d)] (pgOf c d) := by
  refine z_enter RX1 (by decide) rfl (Nat.le_of_ble_eq_true rfl) ?_
  intro p e s m args below meth co S hr hlk hK hP ls hl
  have hl : lv_has ls 4 [(0, .ref (a 3)), (1, .int (zI d))] := hl
  have hs := hI.s
  refine z_iconst S dX1_standingOf_0 ?_
  refine lv_istore_n (lv' := [(2, .int (zI 0)), (0, .ref (a 3)), (1, .int (zI d))]) S.1 S.2.1 dX1_standingOf_1 rfl hl (by decide) rfl (fun ls hl => ?_)
  refine z_iconst S dX1_standingOf_2 ?_
  refine lv_istore_n (lv' := [(3, .int (zI 0)), (2, .int (zI 0)), (0, .ref (a 3)), (1, .int (zI d))]) S.1 S.2.1 dX1_standingOf_3 rfl hl (by decide) rfl (fun ls hl => ?_)
  refine z_for (nL := 4) (400) (fun (k4 : Nat) => [(3, .int (zI (k4 : Int))), (2, .int (zI (sm (fun j => b01 (c.2 8 j = d)) k4))), (0, .ref (a 3)), (1, .int (zI d))]) (fun k4 => True) (fun k4 hk4 hJ4 ls hl ih4 => ?_) (fun hJ4 ls hl => ?_) 0 (by omega) trivial ls (lv_sub hl [0, 1, 2, 3] rfl)
  · have hl : lv_has ls 4 [(3, .int (zI (k4 : Int))), (2, .int (zI (sm (fun j => b01 (c.2 8 j = d)) k4))), (0, .ref (a 3)), (1, .int (zI d))] := hl
    refine lv_iload_n S.1 S.2.1 dX1_standingOf_4 rfl (lv_at hl 0 rfl) ?_
    refine z_sipush S (by decide) dX1_standingOf_5 ?_
    refine z_icmp_ge (tgt := 30) S dX1_standingOf_8 (by decide) (by omega) (fun h_1 => ?_) (fun h_1 => ?_)
    · exact absurd h_1 (by omega)
    · refine lv_aload_n S.1 S.2.1 dX1_standingOf_11 rfl (lv_at hl 2 rfl) ?_
      refine z_get (v := .ref (a 13)) S inA1 hK hP 3 rfl rfl 1 (by decide) fl_X1_15 rfl dX1_standingOf_12 ?_
      refine lv_iload_n S.1 S.2.1 dX1_standingOf_15 rfl (lv_at hl 0 rfl) ?_
      refine z_iald S hK hP 13 rfl (by decide) (by omega) dX1_standingOf_16 ?_
      have hb_2 := hI.r8 (k4 : Int)
      refine lv_iload_n S.1 S.2.1 dX1_standingOf_17 rfl (lv_at hl 3 rfl) ?_
      refine z_icmp_ne (tgt := 24) S dX1_standingOf_18 (by decide) (by omega) (fun h_3 => ?_) (fun h_3 => ?_)
      · refine z_iinc (lv' := [(3, .int (zI ((k4 : Int) + 1))), (2, .int (zI (sm (fun j => b01 (c.2 8 j = d)) k4))), (0, .ref (a 3)), (1, .int (zI d))]) S dX1_standingOf_24 hl (k := 0) rfl (by decide) rfl (fun ls hl => ?_)
        refine z_goto (tgt := 4) S dX1_standingOf_27 (by decide) ?_
        have e_4 : sm (fun j => b01 (c.2 8 j = d)) (k4 + 1) = sm (fun j => b01 (c.2 8 j = d)) k4 := by grind [sm, b01]
        exact ih4 _ (lv_sub hl [0, 1, 2, 3] (by show _ = ([(3, .int (zI ((k4 + 1 : Nat) : Int))), (2, .int (zI (sm (fun j => b01 (c.2 8 j = d)) (k4 + 1)))), (0, .ref (a 3)), (1, .int (zI d))] : List (Nat × Value)); rw [e_4]; first | done | rfl)) trivial
      · refine z_iinc (lv' := [(2, .int (zI ((sm (fun j => b01 (c.2 8 j = d)) k4) + 1))), (3, .int (zI (k4 : Int))), (0, .ref (a 3)), (1, .int (zI d))]) S dX1_standingOf_21 hl (k := 1) rfl (by decide) rfl (fun ls hl => ?_)
        refine z_iinc (lv' := [(3, .int (zI ((k4 : Int) + 1))), (2, .int (zI ((sm (fun j => b01 (c.2 8 j = d)) k4) + 1))), (0, .ref (a 3)), (1, .int (zI d))]) S dX1_standingOf_24 hl (k := 1) rfl (by decide) rfl (fun ls hl => ?_)
        refine z_goto (tgt := 4) S dX1_standingOf_27 (by decide) ?_
        have e_5 : sm (fun j => b01 (c.2 8 j = d)) (k4 + 1) = (sm (fun j => b01 (c.2 8 j = d)) k4) + 1 := by grind [sm, b01]
        exact ih4 _ (lv_sub hl [0, 1, 2, 3] (by show _ = ([(3, .int (zI ((k4 + 1 : Nat) : Int))), (2, .int (zI (sm (fun j => b01 (c.2 8 j = d)) (k4 + 1)))), (0, .ref (a 3)), (1, .int (zI d))] : List (Nat × Value)); rw [e_5]; first | done | rfl)) trivial
  · have hl : lv_has ls 4 [(3, .int (zI ((400 : Nat) : Int))), (2, .int (zI (sm (fun j => b01 (c.2 8 j = d)) 400))), (0, .ref (a 3)), (1, .int (zI d))] := hl
    refine lv_iload_n S.1 S.2.1 dX1_standingOf_4 rfl (lv_at hl 0 rfl) ?_
    refine z_sipush S (by decide) dX1_standingOf_5 ?_
    refine z_icmp_ge (tgt := 30) S dX1_standingOf_8 (by decide) (by omega) (fun h_6 => ?_) (fun h_6 => ?_)
    · refine lv_iload_n S.1 S.2.1 dX1_standingOf_30 rfl (lv_at hl 1 rfl) ?_
      exact z_ret S hr hlk (by first | rfl | grind) dX1_standingOf_31
    · exact absurd h_6 (by omega)
set_option maxHeartbeats 4000000 in
set_option maxRecDepth 100000 in
theorem m_X1_pegsAt (l : Launch) (D : va_G) (g : ClassId × ClassId × ClassId) (a : Nat → Nat) {B : Int} (c : CS) (hI : IC B c) (x : Int) (y : Int) (h0 : I32 x ∧ I32 y) : RD l yX1_pegsAt cX1_pegsAt 3 (some .int) 2 43 D g (CW g a c) [.ref (a 3), .int (zI x), .int (zI y)] (pgAt c x y) := by
  refine z_enter RX1 (by decide) rfl (Nat.le_of_ble_eq_true rfl) ?_
  intro p e s m args below meth co S hr hlk hK hP ls hl
  have hl : lv_has ls 3 [(0, .ref (a 3)), (1, .int (zI x)), (2, .int (zI y))] := hl
  have hs := hI.s
  refine lv_iload_n S.1 S.2.1 dX1_pegsAt_0 rfl (lv_at hl 1 rfl) ?_
  refine lv_iload_n S.1 S.2.1 dX1_pegsAt_1 rfl (lv_at hl 2 rfl) ?_
  refine z_rN (As := [.int (zI x), .int (zI y)]) (rest := []) S (m_X4_inField l D g x y (by omega)) nw_X1_39 sm_X4_inField ini_X4 cd_X4_inField ds_X4_inField ⟨Nat.le_of_ble_eq_true rfl, Nat.le_of_ble_eq_true rfl⟩ hK va_P_nil rfl hl.1 rfl (Nat.le_of_ble_eq_true rfl) ⟨Nat.zero_le _, Nat.zero_le _⟩ dX1_pegsAt_2 ?_
  refine z_ifb_eq (tgt := 24) S dX1_pegsAt_5 (by decide) (fun h_1 => ?_) (fun h_1 => ?_)
  · refine z_iconst S dX1_pegsAt_24 ?_
    exact z_ret S hr hlk (by grind [pgAt, b01]) dX1_pegsAt_25
  · refine lv_aload_n S.1 S.2.1 dX1_pegsAt_8 rfl (lv_at hl 0 rfl) ?_
    refine lv_iload_n S.1 S.2.1 dX1_pegsAt_9 rfl (lv_at hl 1 rfl) ?_
    refine lv_iload_n S.1 S.2.1 dX1_pegsAt_10 rfl (lv_at hl 2 rfl) ?_
    refine z_rN (As := [.int (zI x), .int (zI y)]) (rest := [.ref (a 3)]) S (m_X4_spotAt l D g x y) nw_X1_43 sm_X4_spotAt ini_X4 cd_X4_spotAt ds_X4_spotAt ⟨Nat.le_of_ble_eq_true rfl, Nat.le_of_ble_eq_true rfl⟩ hK va_P_nil rfl hl.1 rfl (Nat.le_of_ble_eq_true rfl) ⟨Nat.zero_le _, Nat.zero_le _⟩ dX1_pegsAt_11 ?_
    refine z_rV (As := [.int (zI (y * 20 + x))]) (rest := []) S (m_X1_standsAt l D g a c hI (y * 20 + x) (by omega)) ml_X1_46 im_X1_standsAt se_X1_standsAt ini_X1 cd_X1_standsAt ds_X1_standsAt ⟨Nat.le_of_ble_eq_true rfl, Nat.le_of_ble_eq_true rfl⟩ hK hP (va_recv hK.1 hP (ci := 1) (q0 := 3) rfl rfl) rfl hl.1 rfl (Nat.le_of_ble_eq_true rfl) ⟨Nat.zero_le _, Nat.zero_le _⟩ dX1_pegsAt_14 ?_
    refine z_ifb_eq (tgt := 24) S dX1_pegsAt_17 (by decide) (fun h_2 => ?_) (fun h_2 => ?_)
    · refine z_iconst S dX1_pegsAt_24 ?_
      exact z_ret S hr hlk (by grind [pgAt, b01]) dX1_pegsAt_25
    · refine z_iconst S dX1_pegsAt_20 ?_
      refine z_goto (tgt := 25) S dX1_pegsAt_21 (by decide) ?_
      exact z_ret S hr hlk (by grind [pgAt, b01]) dX1_pegsAt_25
set_option maxHeartbeats 4000000 in
set_option maxRecDepth 100000 in
theorem m_X1_besides (l : Launch) (D : va_G) (g : ClassId × ClassId × ClassId) (a : Nat → Nat) {B : Int} (c : CS) (hI : IC B c) (sp : Int) (h0 : 0 ≤ sp ∧ sp < 400) : RD l yX1_besides cX1_besides 4 (some .int) 3 65 D g (CW g a c) [.ref (a 3), .int (zI sp)] (beside c sp) := by
  refine z_enter RX1 (by decide) rfl (Nat.le_of_ble_eq_true rfl) ?_
  intro p e s m args below meth co S hr hlk hK hP ls hl
  have hl : lv_has ls 4 [(0, .ref (a 3)), (1, .int (zI sp))] := hl
  have hs := hI.s
  refine lv_iload_n S.1 S.2.1 dX1_besides_0 rfl (lv_at hl 1 rfl) ?_
  refine z_rN (As := [.int (zI sp)]) (rest := []) S (m_X4_columnOf l D g sp (by omega)) nw_X1_28 sm_X4_columnOf ini_X4 cd_X4_columnOf ds_X4_columnOf ⟨Nat.le_of_ble_eq_true rfl, Nat.le_of_ble_eq_true rfl⟩ hK va_P_nil rfl hl.1 rfl (Nat.le_of_ble_eq_true rfl) ⟨Nat.zero_le _, Nat.zero_le _⟩ dX1_besides_1 ?_
  refine lv_istore_n (lv' := [(2, .int (zI (sp % 20))), (0, .ref (a 3)), (1, .int (zI sp))]) S.1 S.2.1 dX1_besides_4 rfl hl (by decide) rfl (fun ls hl => ?_)
  refine lv_iload_n S.1 S.2.1 dX1_besides_5 rfl (lv_at hl 2 rfl) ?_
  refine z_rN (As := [.int (zI sp)]) (rest := []) S (m_X4_rowOf l D g sp (by omega)) nw_X1_32 sm_X4_rowOf ini_X4 cd_X4_rowOf ds_X4_rowOf ⟨Nat.le_of_ble_eq_true rfl, Nat.le_of_ble_eq_true rfl⟩ hK va_P_nil rfl hl.1 rfl (Nat.le_of_ble_eq_true rfl) ⟨Nat.zero_le _, Nat.zero_le _⟩ dX1_besides_6 ?_
  refine lv_istore_n (lv' := [(3, .int (zI (sp / 20))), (2, .int (zI (sp % 20))), (0, .ref (a 3)), (1, .int (zI sp))]) S.1 S.2.1 dX1_besides_9 rfl hl (by decide) rfl (fun ls hl => ?_)
  refine lv_aload_n S.1 S.2.1 dX1_besides_10 rfl (lv_at hl 2 rfl) ?_
  refine lv_iload_n S.1 S.2.1 dX1_besides_11 rfl (lv_at hl 1 rfl) ?_
  refine z_iconst S dX1_besides_12 ?_
  refine z_isub S dX1_besides_13 ?_
  refine lv_iload_n S.1 S.2.1 dX1_besides_14 rfl (lv_at hl 0 rfl) ?_
  refine z_rV (As := [.int (zI ((sp % 20) - 1)), .int (zI (sp / 20))]) (rest := []) S (m_X1_pegsAt l D g a c hI ((sp % 20) - 1) (sp / 20) (by omega)) ml_X1_35 im_X1_pegsAt se_X1_pegsAt ini_X1 cd_X1_pegsAt ds_X1_pegsAt ⟨Nat.le_of_ble_eq_true rfl, Nat.le_of_ble_eq_true rfl⟩ hK hP (va_recv hK.1 hP (ci := 1) (q0 := 3) rfl rfl) rfl hl.1 rfl (Nat.le_of_ble_eq_true rfl) ⟨Nat.zero_le _, Nat.zero_le _⟩ dX1_besides_15 ?_
  refine lv_aload_n S.1 S.2.1 dX1_besides_18 rfl (lv_at hl 2 rfl) ?_
  refine lv_iload_n S.1 S.2.1 dX1_besides_19 rfl (lv_at hl 1 rfl) ?_
  refine z_iconst S dX1_besides_20 ?_
  refine z_iadd S dX1_besides_21 ?_
  refine lv_iload_n S.1 S.2.1 dX1_besides_22 rfl (lv_at hl 0 rfl) ?_
  refine z_rV (As := [.int (zI ((sp % 20) + 1)), .int (zI (sp / 20))]) (rest := [.int (zI (pgAt c ((sp % 20) - 1) (sp / 20)))]) S (m_X1_pegsAt l D g a c hI ((sp % 20) + 1) (sp / 20) (by omega)) ml_X1_35 im_X1_pegsAt se_X1_pegsAt ini_X1 cd_X1_pegsAt ds_X1_pegsAt ⟨Nat.le_of_ble_eq_true rfl, Nat.le_of_ble_eq_true rfl⟩ hK hP (va_recv hK.1 hP (ci := 1) (q0 := 3) rfl rfl) rfl hl.1 rfl (Nat.le_of_ble_eq_true rfl) ⟨Nat.zero_le _, Nat.zero_le _⟩ dX1_besides_23 ?_
  refine z_iadd S dX1_besides_26 ?_
  refine lv_aload_n S.1 S.2.1 dX1_besides_27 rfl (lv_at hl 2 rfl) ?_
  refine lv_iload_n S.1 S.2.1 dX1_besides_28 rfl (lv_at hl 1 rfl) ?_
  refine lv_iload_n S.1 S.2.1 dX1_besides_29 rfl (lv_at hl 0 rfl) ?_
  refine z_iconst S dX1_besides_30 ?_
  refine z_isub S dX1_besides_31 ?_
  refine z_rV (As := [.int (zI (sp % 20)), .int (zI ((sp / 20) - 1))]) (rest := [.int (zI ((pgAt c ((sp % 20) - 1) (sp / 20)) + (pgAt c ((sp % 20) + 1) (sp / 20))))]) S (m_X1_pegsAt l D g a c hI (sp % 20) ((sp / 20) - 1) (by omega)) ml_X1_35 im_X1_pegsAt se_X1_pegsAt ini_X1 cd_X1_pegsAt ds_X1_pegsAt ⟨Nat.le_of_ble_eq_true rfl, Nat.le_of_ble_eq_true rfl⟩ hK hP (va_recv hK.1 hP (ci := 1) (q0 := 3) rfl rfl) rfl hl.1 rfl (Nat.le_of_ble_eq_true rfl) ⟨Nat.zero_le _, Nat.zero_le _⟩ dX1_besides_32 ?_
  refine z_iadd S dX1_besides_35 ?_
  refine lv_aload_n S.1 S.2.1 dX1_besides_36 rfl (lv_at hl 2 rfl) ?_
  refine lv_iload_n S.1 S.2.1 dX1_besides_37 rfl (lv_at hl 1 rfl) ?_
  refine lv_iload_n S.1 S.2.1 dX1_besides_38 rfl (lv_at hl 0 rfl) ?_
  refine z_iconst S dX1_besides_39 ?_
  refine z_iadd S dX1_besides_40 ?_
  refine z_rV (As := [.int (zI (sp % 20)), .int (zI ((sp / 20) + 1))]) (rest := [.int (zI (((pgAt c ((sp % 20) - 1) (sp / 20)) + (pgAt c ((sp % 20) + 1) (sp / 20))) + (pgAt c (sp % 20) ((sp / 20) - 1))))]) S (m_X1_pegsAt l D g a c hI (sp % 20) ((sp / 20) + 1) (by omega)) ml_X1_35 im_X1_pegsAt se_X1_pegsAt ini_X1 cd_X1_pegsAt ds_X1_pegsAt ⟨Nat.le_of_ble_eq_true rfl, Nat.le_of_ble_eq_true rfl⟩ hK hP (va_recv hK.1 hP (ci := 1) (q0 := 3) rfl rfl) rfl hl.1 rfl (Nat.le_of_ble_eq_true rfl) ⟨Nat.zero_le _, Nat.zero_le _⟩ dX1_besides_41 ?_
  refine z_iadd S dX1_besides_44 ?_
  exact z_ret S hr hlk (by first | rfl | grind) dX1_besides_45
set_option maxHeartbeats 4000000 in
set_option maxRecDepth 100000 in
theorem m_X1_nearest (l : Launch) (D : va_G) (g : ClassId × ClassId × ClassId) (a : Nat → Nat) {B : Int} (c : CS) (hI : IC B c) (sp : Int) (h0 : 0 ≤ sp ∧ sp < 400) : RD l yX1_nearest cX1_nearest 4 (some .int) 2 42 D g (CW g a c) [.ref (a 3), .int (zI sp)] (nr c sp 400) := by
  refine z_enter RX1 (by decide) rfl (Nat.le_of_ble_eq_true rfl) ?_
  intro p e s m args below meth co S hr hlk hK hP ls hl
  have hl : lv_has ls 4 [(0, .ref (a 3)), (1, .int (zI sp))] := hl
  have hs := hI.s
  refine z_iconst S dX1_nearest_0 ?_
  refine lv_istore_n (lv' := [(2, .int (zI (-1))), (0, .ref (a 3)), (1, .int (zI sp))]) S.1 S.2.1 dX1_nearest_1 rfl hl (by decide) rfl (fun ls hl => ?_)
  refine z_iconst S dX1_nearest_2 ?_
  refine lv_istore_n (lv' := [(3, .int (zI 0)), (2, .int (zI (-1))), (0, .ref (a 3)), (1, .int (zI sp))]) S.1 S.2.1 dX1_nearest_3 rfl hl (by decide) rfl (fun ls hl => ?_)
  refine z_for (nL := 4) (400) (fun (k4 : Nat) => [(3, .int (zI (k4 : Int))), (2, .int (zI (nr c sp k4))), (0, .ref (a 3)), (1, .int (zI sp))]) (fun k4 => True) (fun k4 hk4 hJ4 ls hl ih4 => ?_) (fun hJ4 ls hl => ?_) 0 (by omega) trivial ls (lv_sub hl [0, 1, 2, 3] rfl)
  · have hl : lv_has ls 4 [(3, .int (zI (k4 : Int))), (2, .int (zI (nr c sp k4))), (0, .ref (a 3)), (1, .int (zI sp))] := hl
    have hb0 := nr_b (c := c) h0 k4 (by omega)
    have hb1 := dist_b (i := sp) (j := (k4 : Int)) (by omega)
    refine lv_iload_n S.1 S.2.1 dX1_nearest_4 rfl (lv_at hl 0 rfl) ?_
    refine z_sipush S (by decide) dX1_nearest_5 ?_
    refine z_icmp_ge (tgt := 44) S dX1_nearest_8 (by decide) (by omega) (fun h_1 => ?_) (fun h_1 => ?_)
    · exact absurd h_1 (by omega)
    · refine lv_aload_n S.1 S.2.1 dX1_nearest_11 rfl (lv_at hl 2 rfl) ?_
      refine lv_iload_n S.1 S.2.1 dX1_nearest_12 rfl (lv_at hl 0 rfl) ?_
      refine z_rV (As := [.int (zI (k4 : Int))]) (rest := []) S (m_X1_standsAt l D g a c hI (k4 : Int) (by omega)) ml_X1_46 im_X1_standsAt se_X1_standsAt ini_X1 cd_X1_standsAt ds_X1_standsAt ⟨Nat.le_of_ble_eq_true rfl, Nat.le_of_ble_eq_true rfl⟩ hK hP (va_recv hK.1 hP (ci := 1) (q0 := 3) rfl rfl) rfl hl.1 rfl (Nat.le_of_ble_eq_true rfl) ⟨Nat.zero_le _, Nat.zero_le _⟩ dX1_nearest_13 ?_
      refine z_ifb_eq (tgt := 38) S dX1_nearest_16 (by decide) (fun h_2 => ?_) (fun h_2 => ?_)
      · refine z_iinc (lv' := [(3, .int (zI ((k4 : Int) + 1))), (2, .int (zI (nr c sp k4))), (0, .ref (a 3)), (1, .int (zI sp))]) S dX1_nearest_38 hl (k := 0) rfl (by decide) rfl (fun ls hl => ?_)
        refine z_goto (tgt := 4) S dX1_nearest_41 (by decide) ?_
        have e_3 : nr c sp (k4 + 1) = nr c sp k4 := by grind [nr]
        exact ih4 _ (lv_sub hl [0, 1, 2, 3] (by show _ = ([(3, .int (zI ((k4 + 1 : Nat) : Int))), (2, .int (zI (nr c sp (k4 + 1)))), (0, .ref (a 3)), (1, .int (zI sp))] : List (Nat × Value)); rw [e_3]; first | done | rfl)) trivial
      · refine lv_iload_n S.1 S.2.1 dX1_nearest_19 rfl (lv_at hl 1 rfl) ?_
        refine z_if_lt (tgt := 32) S dX1_nearest_20 (by decide) (by omega) (fun h_4 => ?_) (fun h_4 => ?_)
        · refine lv_iload_n S.1 S.2.1 dX1_nearest_32 rfl (lv_at hl 3 rfl) ?_
          refine lv_iload_n S.1 S.2.1 dX1_nearest_33 rfl (lv_at hl 0 rfl) ?_
          refine z_rN (As := [.int (zI sp), .int (zI (k4 : Int))]) (rest := []) S (m_X4_distance l D g sp (k4 : Int) (by omega) (by omega)) nw_X1_50 sm_X4_distance ini_X4 cd_X4_distance ds_X4_distance ⟨Nat.le_of_ble_eq_true rfl, Nat.le_of_ble_eq_true rfl⟩ hK va_P_nil rfl hl.1 rfl (Nat.le_of_ble_eq_true rfl) ⟨Nat.zero_le _, Nat.zero_le _⟩ dX1_nearest_34 ?_
          refine lv_istore_n (lv' := [(2, .int (zI (dist sp (k4 : Int)))), (3, .int (zI (k4 : Int))), (0, .ref (a 3)), (1, .int (zI sp))]) S.1 S.2.1 dX1_nearest_37 rfl hl (by decide) rfl (fun ls hl => ?_)
          refine z_iinc (lv' := [(3, .int (zI ((k4 : Int) + 1))), (2, .int (zI (dist sp (k4 : Int)))), (0, .ref (a 3)), (1, .int (zI sp))]) S dX1_nearest_38 hl (k := 1) rfl (by decide) rfl (fun ls hl => ?_)
          refine z_goto (tgt := 4) S dX1_nearest_41 (by decide) ?_
          have e_5 : nr c sp (k4 + 1) = dist sp (k4 : Int) := by grind [nr]
          exact ih4 _ (lv_sub hl [0, 1, 2, 3] (by show _ = ([(3, .int (zI ((k4 + 1 : Nat) : Int))), (2, .int (zI (nr c sp (k4 + 1)))), (0, .ref (a 3)), (1, .int (zI sp))] : List (Nat × Value)); rw [e_5]; first | done | rfl)) trivial
        · refine lv_iload_n S.1 S.2.1 dX1_nearest_23 rfl (lv_at hl 3 rfl) ?_
          refine lv_iload_n S.1 S.2.1 dX1_nearest_24 rfl (lv_at hl 0 rfl) ?_
          refine z_rN (As := [.int (zI sp), .int (zI (k4 : Int))]) (rest := []) S (m_X4_distance l D g sp (k4 : Int) (by omega) (by omega)) nw_X1_50 sm_X4_distance ini_X4 cd_X4_distance ds_X4_distance ⟨Nat.le_of_ble_eq_true rfl, Nat.le_of_ble_eq_true rfl⟩ hK va_P_nil rfl hl.1 rfl (Nat.le_of_ble_eq_true rfl) ⟨Nat.zero_le _, Nat.zero_le _⟩ dX1_nearest_25 ?_
          refine lv_iload_n S.1 S.2.1 dX1_nearest_28 rfl (lv_at hl 1 rfl) ?_
          refine z_icmp_ge (tgt := 38) S dX1_nearest_29 (by decide) (by omega) (fun h_6 => ?_) (fun h_6 => ?_)
          · refine z_iinc (lv' := [(3, .int (zI ((k4 : Int) + 1))), (2, .int (zI (nr c sp k4))), (0, .ref (a 3)), (1, .int (zI sp))]) S dX1_nearest_38 hl (k := 0) rfl (by decide) rfl (fun ls hl => ?_)
            refine z_goto (tgt := 4) S dX1_nearest_41 (by decide) ?_
            have e_7 : nr c sp (k4 + 1) = nr c sp k4 := by grind [nr]
            exact ih4 _ (lv_sub hl [0, 1, 2, 3] (by show _ = ([(3, .int (zI ((k4 + 1 : Nat) : Int))), (2, .int (zI (nr c sp (k4 + 1)))), (0, .ref (a 3)), (1, .int (zI sp))] : List (Nat × Value)); rw [e_7]; first | done | rfl)) trivial
          · refine lv_iload_n S.1 S.2.1 dX1_nearest_32 rfl (lv_at hl 3 rfl) ?_
            refine lv_iload_n S.1 S.2.1 dX1_nearest_33 rfl (lv_at hl 0 rfl) ?_
            refine z_rN (As := [.int (zI sp), .int (zI (k4 : Int))]) (rest := []) S (m_X4_distance l D g sp (k4 : Int) (by omega) (by omega)) nw_X1_50 sm_X4_distance ini_X4 cd_X4_distance ds_X4_distance ⟨Nat.le_of_ble_eq_true rfl, Nat.le_of_ble_eq_true rfl⟩ hK va_P_nil rfl hl.1 rfl (Nat.le_of_ble_eq_true rfl) ⟨Nat.zero_le _, Nat.zero_le _⟩ dX1_nearest_34 ?_
            refine lv_istore_n (lv' := [(2, .int (zI (dist sp (k4 : Int)))), (3, .int (zI (k4 : Int))), (0, .ref (a 3)), (1, .int (zI sp))]) S.1 S.2.1 dX1_nearest_37 rfl hl (by decide) rfl (fun ls hl => ?_)
            refine z_iinc (lv' := [(3, .int (zI ((k4 : Int) + 1))), (2, .int (zI (dist sp (k4 : Int)))), (0, .ref (a 3)), (1, .int (zI sp))]) S dX1_nearest_38 hl (k := 1) rfl (by decide) rfl (fun ls hl => ?_)
            refine z_goto (tgt := 4) S dX1_nearest_41 (by decide) ?_
            have e_8 : nr c sp (k4 + 1) = dist sp (k4 : Int) := by grind [nr]
            exact ih4 _ (lv_sub hl [0, 1, 2, 3] (by show _ = ([(3, .int (zI ((k4 + 1 : Nat) : Int))), (2, .int (zI (nr c sp (k4 + 1)))), (0, .ref (a 3)), (1, .int (zI sp))] : List (Nat × Value)); rw [e_8]; first | done | rfl)) trivial
  · have hl : lv_has ls 4 [(3, .int (zI ((400 : Nat) : Int))), (2, .int (zI (nr c sp 400))), (0, .ref (a 3)), (1, .int (zI sp))] := hl
    refine lv_iload_n S.1 S.2.1 dX1_nearest_4 rfl (lv_at hl 0 rfl) ?_
    refine z_sipush S (by decide) dX1_nearest_5 ?_
    refine z_icmp_ge (tgt := 44) S dX1_nearest_8 (by decide) (by omega) (fun h_9 => ?_) (fun h_9 => ?_)
    · refine lv_iload_n S.1 S.2.1 dX1_nearest_44 rfl (lv_at hl 1 rfl) ?_
      exact z_ret S hr hlk (by first | rfl | grind) dX1_nearest_45
    · exact absurd h_9 (by omega)
set_option maxHeartbeats 4000000 in
set_option maxRecDepth 100000 in
theorem m_X1_fullestLine (l : Launch) (D : va_G) (g : ClassId × ClassId × ClassId) (a : Nat → Nat) {B : Int} (c : CS) (hI : IC B c) (h0 : ∀ j : Int, 0 ≤ c.2 9 j ∧ c.2 9 j ≤ 100000) : RD l yX1_fullestLine cX1_fullestLine 3 (some .int) 0 0 D g (CW g a c) [.ref (a 3)] (fm (c.2 9) 118) := by
  refine z_enter RX1 (by decide) rfl (Nat.le_of_ble_eq_true rfl) ?_
  intro p e s m args below meth co S hr hlk hK hP ls hl
  have hl : lv_has ls 3 [(0, .ref (a 3))] := hl
  have hs := hI.s
  refine z_iconst S dX1_fullestLine_0 ?_
  refine lv_istore_n (lv' := [(1, .int (zI 0)), (0, .ref (a 3))]) S.1 S.2.1 dX1_fullestLine_1 rfl hl (by decide) rfl (fun ls hl => ?_)
  refine z_iconst S dX1_fullestLine_2 ?_
  refine lv_istore_n (lv' := [(2, .int (zI 1)), (1, .int (zI 0)), (0, .ref (a 3))]) S.1 S.2.1 dX1_fullestLine_3 rfl hl (by decide) rfl (fun ls hl => ?_)
  have e_1 : fm (c.2 9) 1 = 0 := by exact fm_1 _
  refine z_for (nL := 3) (118) (fun (k4 : Nat) => [(2, .int (zI (k4 : Int))), (1, .int (zI (fm (c.2 9) k4))), (0, .ref (a 3))]) (fun k4 => 1 ≤ k4) (fun k4 hk4 hJ4 ls hl ih4 => ?_) (fun hJ4 ls hl => ?_) 1 (by omega) (by omega) ls (lv_sub hl [0, 1, 2] (by show _ = ([(2, .int (zI ((1 : Nat) : Int))), (1, .int (zI (fm (c.2 9) 1))), (0, .ref (a 3))] : List (Nat × Value)); rw [e_1]; first | done | rfl))
  · have hl : lv_has ls 3 [(2, .int (zI (k4 : Int))), (1, .int (zI (fm (c.2 9) k4))), (0, .ref (a 3))] := hl
    have hJ4 : 1 ≤ k4 := hJ4
    have hb0 := fm_b (c.2 9) k4
    have hb1 := h0 (k4 : Int)
    have hb2 := h0 (fm (c.2 9) k4)
    refine lv_iload_n S.1 S.2.1 dX1_fullestLine_4 rfl (lv_at hl 0 rfl) ?_
    refine z_bipush S (by decide) dX1_fullestLine_5 ?_
    refine z_icmp_ge (tgt := 33) S dX1_fullestLine_7 (by decide) (by omega) (fun h_2 => ?_) (fun h_2 => ?_)
    · exact absurd h_2 (by omega)
    · refine lv_aload_n S.1 S.2.1 dX1_fullestLine_10 rfl (lv_at hl 2 rfl) ?_
      refine z_get (v := .ref (a 14)) S inA1 hK hP 3 rfl rfl 2 (by decide) fl_X1_25 rfl dX1_fullestLine_11 ?_
      refine lv_iload_n S.1 S.2.1 dX1_fullestLine_14 rfl (lv_at hl 0 rfl) ?_
      refine z_iald S hK hP 14 rfl (by decide) (by omega) dX1_fullestLine_15 ?_
      refine lv_aload_n S.1 S.2.1 dX1_fullestLine_16 rfl (lv_at hl 2 rfl) ?_
      refine z_get (v := .ref (a 14)) S inA1 hK hP 3 rfl rfl 2 (by decide) fl_X1_25 rfl dX1_fullestLine_17 ?_
      refine lv_iload_n S.1 S.2.1 dX1_fullestLine_20 rfl (lv_at hl 1 rfl) ?_
      refine z_iald S hK hP 14 rfl (by decide) (by omega) dX1_fullestLine_21 ?_
      refine z_icmp_le (tgt := 27) S dX1_fullestLine_22 (by decide) (by omega) (fun h_3 => ?_) (fun h_3 => ?_)
      · refine z_iinc (lv' := [(2, .int (zI ((k4 : Int) + 1))), (1, .int (zI (fm (c.2 9) k4))), (0, .ref (a 3))]) S dX1_fullestLine_27 hl (k := 0) rfl (by decide) rfl (fun ls hl => ?_)
        refine z_goto (tgt := 4) S dX1_fullestLine_30 (by decide) ?_
        have e_4 : fm (c.2 9) (k4 + 1) = fm (c.2 9) k4 := by grind [fm]
        exact ih4 _ (lv_sub hl [0, 1, 2] (by show _ = ([(2, .int (zI ((k4 + 1 : Nat) : Int))), (1, .int (zI (fm (c.2 9) (k4 + 1)))), (0, .ref (a 3))] : List (Nat × Value)); rw [e_4]; first | done | rfl)) (by omega)
      · refine lv_iload_n S.1 S.2.1 dX1_fullestLine_25 rfl (lv_at hl 0 rfl) ?_
        refine lv_istore_n (lv' := [(1, .int (zI (k4 : Int))), (2, .int (zI (k4 : Int))), (0, .ref (a 3))]) S.1 S.2.1 dX1_fullestLine_26 rfl hl (by decide) rfl (fun ls hl => ?_)
        refine z_iinc (lv' := [(2, .int (zI ((k4 : Int) + 1))), (1, .int (zI (k4 : Int))), (0, .ref (a 3))]) S dX1_fullestLine_27 hl (k := 1) rfl (by decide) rfl (fun ls hl => ?_)
        refine z_goto (tgt := 4) S dX1_fullestLine_30 (by decide) ?_
        have e_5 : fm (c.2 9) (k4 + 1) = (k4 : Int) := by grind [fm]
        exact ih4 _ (lv_sub hl [0, 1, 2] (by show _ = ([(2, .int (zI ((k4 + 1 : Nat) : Int))), (1, .int (zI (fm (c.2 9) (k4 + 1)))), (0, .ref (a 3))] : List (Nat × Value)); rw [e_5]; first | done | rfl)) (by omega)
  · have hl : lv_has ls 3 [(2, .int (zI ((118 : Nat) : Int))), (1, .int (zI (fm (c.2 9) 118))), (0, .ref (a 3))] := hl
    have hJ4 : 1 ≤ 118 := hJ4
    refine lv_iload_n S.1 S.2.1 dX1_fullestLine_4 rfl (lv_at hl 0 rfl) ?_
    refine z_bipush S (by decide) dX1_fullestLine_5 ?_
    refine z_icmp_ge (tgt := 33) S dX1_fullestLine_7 (by decide) (by omega) (fun h_6 => ?_) (fun h_6 => ?_)
    · refine lv_iload_n S.1 S.2.1 dX1_fullestLine_33 rfl (lv_at hl 1 rfl) ?_
      exact z_ret S hr hlk (by first | rfl | grind) dX1_fullestLine_34
    · exact absurd h_6 (by omega)
set_option maxHeartbeats 4000000 in
set_option maxRecDepth 100000 in
theorem m_X1_kindOf (l : Launch) (D : va_G) (g : ClassId × ClassId × ClassId) (q : Int) (h0 : 0 ≤ q ∧ q ≤ 1000) : RD l yX1_kindOf cX1_kindOf 1 (some .int) 0 0 D g [] [.int (zI q)] (kindL q) := by
  refine z_enter RX1 (by decide) rfl (Nat.le_of_ble_eq_true rfl) ?_
  intro p e s m args below meth co S hr hlk hK hP ls hl
  have hl : lv_has ls 1 [(0, .int (zI q))] := hl
  refine lv_iload_n S.1 S.2.1 dX1_kindOf_0 rfl (lv_at hl 0 rfl) ?_
  refine z_bipush S (by decide) dX1_kindOf_1 ?_
  refine z_icmp_ge (tgt := 8) S dX1_kindOf_3 (by decide) (by omega) (fun h_1 => ?_) (fun h_1 => ?_)
  · refine lv_iload_n S.1 S.2.1 dX1_kindOf_8 rfl (lv_at hl 0 rfl) ?_
    refine z_bipush S (by decide) dX1_kindOf_9 ?_
    refine z_icmp_ge (tgt := 16) S dX1_kindOf_11 (by decide) (by omega) (fun h_2 => ?_) (fun h_2 => ?_)
    · refine lv_iload_n S.1 S.2.1 dX1_kindOf_16 rfl (lv_at hl 0 rfl) ?_
      refine z_bipush S (by decide) dX1_kindOf_17 ?_
      refine z_icmp_ge (tgt := 26) S dX1_kindOf_19 (by decide) (by omega) (fun h_3 => ?_) (fun h_3 => ?_)
      · refine z_iconst S dX1_kindOf_26 ?_
        exact z_ret S hr hlk (by grind [kindL]) dX1_kindOf_27
      · refine z_iconst S dX1_kindOf_22 ?_
        refine z_goto (tgt := 27) S dX1_kindOf_23 (by decide) ?_
        exact z_ret S hr hlk (by grind [kindL]) dX1_kindOf_27
    · refine z_iconst S dX1_kindOf_14 ?_
      exact z_ret S hr hlk (by grind [kindL]) dX1_kindOf_15
  · refine z_iconst S dX1_kindOf_6 ?_
    exact z_ret S hr hlk (by grind [kindL]) dX1_kindOf_7
set_option maxHeartbeats 4000000 in
set_option maxRecDepth 100000 in
theorem m_X1_numberOf (l : Launch) (D : va_G) (g : ClassId × ClassId × ClassId) (q : Int) (h0 : 0 ≤ q ∧ q ≤ 1000) : RD l yX1_numberOf cX1_numberOf 1 (some .int) 1 20 D g [] [.int (zI q)] (numL q) := by
  refine z_enter RX1 (by decide) rfl (Nat.le_of_ble_eq_true rfl) ?_
  intro p e s m args below meth co S hr hlk hK hP ls hl
  have hl : lv_has ls 1 [(0, .int (zI q))] := hl
  have hb0 : 0 ≤ kindL q ∧ kindL q ≤ 3 := by grind [kindL]
  refine lv_iload_n S.1 S.2.1 dX1_numberOf_0 rfl (lv_at hl 0 rfl) ?_
  refine z_rS (As := [.int (zI q)]) (rest := []) S (m_X1_kindOf l D g q (by omega)) ml_X1_60 sm_X1_kindOf ini_X1 cd_X1_kindOf ds_X1_kindOf ⟨Nat.le_of_ble_eq_true rfl, Nat.le_of_ble_eq_true rfl⟩ hK va_P_nil rfl hl.1 rfl (Nat.le_of_ble_eq_true rfl) ⟨Nat.zero_le _, Nat.zero_le _⟩ dX1_numberOf_1 ?_
  rcases (show (kindL q) = 0 ∨ (kindL q) = 1 ∨ (kindL q) = 2 ∨ ((kindL q) < 0 ∨ 2 < (kindL q)) by omega) with h_1 | h_1 | h_1 | h_1
  · refine z_tabIn (off := 28) (tgt := 32) S 0 h_1 (by decide) dX1_numberOf_4 (by decide) (by decide) rfl (by decide) ?_
    refine lv_iload_n S.1 S.2.1 dX1_numberOf_32 rfl (lv_at hl 0 rfl) ?_
    exact z_ret S hr hlk (by grind [kindL, numL]) dX1_numberOf_33
  · refine z_tabIn (off := 30) (tgt := 34) S 1 h_1 (by decide) dX1_numberOf_4 (by decide) (by decide) rfl (by decide) ?_
    refine lv_iload_n S.1 S.2.1 dX1_numberOf_34 rfl (lv_at hl 0 rfl) ?_
    refine z_bipush S (by decide) dX1_numberOf_35 ?_
    refine z_isub S dX1_numberOf_37 ?_
    exact z_ret S hr hlk (by grind [kindL, numL]) dX1_numberOf_38
  · refine z_tabIn (off := 35) (tgt := 39) S 2 h_1 (by decide) dX1_numberOf_4 (by decide) (by decide) rfl (by decide) ?_
    refine lv_iload_n S.1 S.2.1 dX1_numberOf_39 rfl (lv_at hl 0 rfl) ?_
    refine z_bipush S (by decide) dX1_numberOf_40 ?_
    refine z_isub S dX1_numberOf_42 ?_
    exact z_ret S hr hlk (by grind [kindL, numL]) dX1_numberOf_43
  · refine z_tabOut (tgt := 44) S (by omega) dX1_numberOf_4 h_1 (by decide) ?_
    refine lv_iload_n S.1 S.2.1 dX1_numberOf_44 rfl (lv_at hl 0 rfl) ?_
    refine z_bipush S (by decide) dX1_numberOf_45 ?_
    refine z_isub S dX1_numberOf_47 ?_
    exact z_ret S hr hlk (by grind [kindL, numL]) dX1_numberOf_48
set_option maxHeartbeats 4000000 in
set_option maxRecDepth 100000 in
theorem m_X3_open (l : Launch) (D : va_G) (g : ClassId × ClassId × ClassId) (a : Nat → Nat) {B : Int} (c : CS) (hI : IC B c) (hda : CD 21 a) (dp : Int) (fl : Int) (h0 : c.1 2 < 6) : WRi l yX3_open cX3_open 4 (some .int) 0 0 D g (CA 21 a) (CW g a c) [.ref (a 1), .int (zI dp), .int (zI fl)] (CW g a (sS (sA (sA c 0 (upZ (c.2 0) (c.1 2) dp)) 1 (upZ (c.2 1) (c.1 2) fl)) 2 (c.1 2 + 1))) (c.1 2) := by
  refine z_enter RX3 (by decide) rfl (Nat.le_of_ble_eq_true rfl) ?_
  intro p e s m args below meth co S hr hlk hK hP ls hl
  have hl : lv_has ls 4 [(0, .ref (a 1)), (1, .int (zI dp)), (2, .int (zI fl))] := hl
  have hs := hI.s
  have hS : va_S (CA 21 a) s.heap s.heap [] := va_S.rf
  refine lv_aload_n S.1 S.2.1 dX3_open_0 rfl (lv_at hl 0 rfl) ?_
  refine z_get (v := .int (zI (c.1 2))) S inA3 hK hP 1 rfl rfl 0 (by decide) fl_X3_9 rfl dX3_open_1 ?_
  refine lv_istore_n (lv' := [(3, .int (zI (c.1 2))), (0, .ref (a 1)), (1, .int (zI dp)), (2, .int (zI fl))]) S.1 S.2.1 dX3_open_4 rfl hl (by decide) rfl (fun ls hl => ?_)
  refine lv_aload_n S.1 S.2.1 dX3_open_5 rfl (lv_at hl 1 rfl) ?_
  refine z_get (v := .ref (a 5)) S inA3 hK hP 1 rfl rfl 1 (by decide) fl_X3_15 rfl dX3_open_6 ?_
  refine lv_iload_n S.1 S.2.1 dX3_open_9 rfl (lv_at hl 0 rfl) ?_
  refine lv_iload_n S.1 S.2.1 dX3_open_10 rfl (lv_at hl 2 rfl) ?_
  refine z_iast S hK hP (CW_D hda _) hS 5 rfl (by decide) (by omega) dX3_open_11 (fun H locs hP hS => ?_)
  have hP : va_P D vwCl (CW g a (sA c 0 (upZ (c.2 0) (c.1 2) dp))) H := hP
  refine lv_aload_n S.1 S.2.1 dX3_open_12 rfl (lv_at hl 1 rfl) ?_
  refine z_get (v := .ref (a 6)) S inA3 hK hP 1 rfl rfl 2 (by decide) fl_X3_19 rfl dX3_open_13 ?_
  refine lv_iload_n S.1 S.2.1 dX3_open_16 rfl (lv_at hl 0 rfl) ?_
  refine lv_iload_n S.1 S.2.1 dX3_open_17 rfl (lv_at hl 3 rfl) ?_
  refine z_iast S hK hP (CW_D hda _) hS 6 rfl (by decide) (by omega) dX3_open_18 (fun H locs hP hS => ?_)
  have hP : va_P D vwCl (CW g a (sA (sA c 0 (upZ (c.2 0) (c.1 2) dp)) 1 (upZ (c.2 1) (c.1 2) fl))) H := hP
  refine lv_aload_n S.1 S.2.1 dX3_open_19 rfl (lv_at hl 1 rfl) ?_
  refine lv_dup S.1 S.2.1 dX3_open_20 rfl ?_
  refine z_get (v := .int (zI (c.1 2))) S inA3 hK hP 1 rfl rfl 0 (by decide) fl_X3_9 rfl dX3_open_21 ?_
  refine z_iconst S dX3_open_24 ?_
  refine z_iadd S dX3_open_25 ?_
  refine z_put S inA3 tyX3 tyX3_ok nmX3 hK hP (CW_D hda _) hS 1 rfl rfl 0 (by decide) fl_X3_9 rfl (by decide +kernel) (Nat.le_of_ble_eq_true rfl) dX3_open_26 (fun H locs hP hS => ?_)
  have hP : va_P D vwCl (CW g a (sS (sA (sA c 0 (upZ (c.2 0) (c.1 2) dp)) 1 (upZ (c.2 1) (c.1 2) fl)) 2 ((c.1 2) + 1))) H := hP
  refine lv_iload_n S.1 S.2.1 dX3_open_29 rfl (lv_at hl 0 rfl) ?_
  have hw : CW g a (sS (sA (sA c 0 (upZ (c.2 0) (c.1 2) dp)) 1 (upZ (c.2 1) (c.1 2) fl)) 2 ((c.1 2) + 1)) = CW g a (sS (sA (sA c 0 (upZ (c.2 0) (c.1 2) dp)) 1 (upZ (c.2 1) (c.1 2) fl)) 2 (c.1 2 + 1)) := by exact rfl
  rw [hw] at hP
  exact z_retw S hr hlk (by first | rfl | grind) hP hS dX3_open_30
set_option maxHeartbeats 4000000 in
set_option maxRecDepth 100000 in
theorem m_X3_raise (l : Launch) (D : va_G) (g : ClassId × ClassId × ClassId) (a : Nat → Nat) {B : Int} (c : CS) (hI : IC B c) (hda : CD 21 a) (v : Int) (x : Int) (y : Int) (lv : Int) (h0 : 0 ≤ v ∧ v < 6) (h1 : I32 x ∧ I32 y) (h2 : 1 ≤ lv ∧ lv ≤ 2) : WRv l yX3_raise cX3_raise 6 none 2 43 D g (CA 21 a) (CW g a c) [.ref (a 1), .int (zI v), .int (zI x), .int (zI y), .int (zI lv)] (CW g a (rse c v x y lv)) := by
  refine z_enter RX3 (by decide) rfl (Nat.le_of_ble_eq_true rfl) ?_
  intro p e s m args below meth co S hr hlk hK hP ls hl
  have hl : lv_has ls 6 [(0, .ref (a 1)), (1, .int (zI v)), (2, .int (zI x)), (3, .int (zI y)), (4, .int (zI lv))] := hl
  have hs := hI.s
  have hS : va_S (CA 21 a) s.heap s.heap [] := va_S.rf
  refine lv_iload_n S.1 S.2.1 dX3_raise_0 rfl (lv_at hl 2 rfl) ?_
  refine lv_iload_n S.1 S.2.1 dX3_raise_1 rfl (lv_at hl 3 rfl) ?_
  refine z_rN (As := [.int (zI x), .int (zI y)]) (rest := []) S (m_X4_inField l D g x y (by omega)) nw_X3_57 sm_X4_inField ini_X4 cd_X4_inField ds_X4_inField ⟨Nat.le_of_ble_eq_true rfl, Nat.le_of_ble_eq_true rfl⟩ hK va_P_nil rfl hl.1 rfl (Nat.le_of_ble_eq_true rfl) ⟨Nat.zero_le _, Nat.zero_le _⟩ dX3_raise_2 ?_
  refine z_ifb_eq (tgt := 40) S dX3_raise_5 (by decide) (fun h_1 => ?_) (fun h_1 => ?_)
  · have hw : CW g a c = CW g a (rse c v x y lv) := by first | rw [rse, if_pos (by assumption)] | rw [rse, if_neg (by assumption)]
    rw [hw] at hP
    exact z_retv S hr hlk hP hS dX3_raise_40
  · refine lv_iload_n S.1 S.2.1 dX3_raise_8 rfl (lv_at hl 1 rfl) ?_
    refine z_sipush S (by decide) dX3_raise_9 ?_
    refine z_imul S dX3_raise_12 ?_
    refine lv_iload_n S.1 S.2.1 dX3_raise_13 rfl (lv_at hl 2 rfl) ?_
    refine lv_iload_n S.1 S.2.1 dX3_raise_14 rfl (lv_at hl 3 rfl) ?_
    refine z_rN (As := [.int (zI x), .int (zI y)]) (rest := [.int (zI (v * 400))]) S (m_X4_spotAt l D g x y) nw_X3_54 sm_X4_spotAt ini_X4 cd_X4_spotAt ds_X4_spotAt ⟨Nat.le_of_ble_eq_true rfl, Nat.le_of_ble_eq_true rfl⟩ hK va_P_nil rfl hl.1 rfl (Nat.le_of_ble_eq_true rfl) ⟨Nat.zero_le _, Nat.zero_le _⟩ dX3_raise_15 ?_
    refine z_iadd S dX3_raise_18 ?_
    refine lv_istore (lv' := [(5, .int (zI ((v * 400) + (y * 20 + x)))), (0, .ref (a 1)), (1, .int (zI v)), (2, .int (zI x)), (3, .int (zI y)), (4, .int (zI lv))]) S.1 S.2.1 dX3_raise_19 hl (by decide) rfl (fun ls hl => ?_)
    refine lv_aload_n S.1 S.2.1 dX3_raise_21 rfl (lv_at hl 1 rfl) ?_
    refine z_get (v := .ref (a 7)) S inA3 hK hP 1 rfl rfl 3 (by decide) fl_X3_22 rfl dX3_raise_22 ?_
    refine lv_iload S.1 S.2.1 dX3_raise_25 (lv_at hl 0 rfl) ?_
    refine lv_aload_n S.1 S.2.1 dX3_raise_27 rfl (lv_at hl 1 rfl) ?_
    refine z_get (v := .ref (a 7)) S inA3 hK hP 1 rfl rfl 3 (by decide) fl_X3_22 rfl dX3_raise_28 ?_
    refine lv_iload S.1 S.2.1 dX3_raise_31 (lv_at hl 0 rfl) ?_
    refine z_iald S hK hP 7 rfl (by decide) (by omega) dX3_raise_33 ?_
    have hb_2 := hI.r2 ((v * 400) + (y * 20 + x))
    refine lv_iload S.1 S.2.1 dX3_raise_34 (lv_at hl 5 rfl) ?_
    refine z_max S ml_X3_42 hl.1 (Nat.le_of_ble_eq_true rfl) (Nat.le_of_ble_eq_true rfl) ⟨Nat.zero_le _, Nat.zero_le _⟩ (by omega) dX3_raise_36 ?_
    refine z_iast S hK hP (CW_D hda _) hS 7 rfl (by decide) (by omega) dX3_raise_39 (fun H locs hP hS => ?_)
    have hP : va_P D vwCl (CW g a (sA c 2 (upZ (c.2 2) ((v * 400) + (y * 20 + x)) (max (c.2 2 ((v * 400) + (y * 20 + x))) lv)))) H := hP
    have hw : CW g a (sA c 2 (upZ (c.2 2) ((v * 400) + (y * 20 + x)) (max (c.2 2 ((v * 400) + (y * 20 + x))) lv))) = CW g a (rse c v x y lv) := by first | rw [rse, if_pos (by assumption)] | rw [rse, if_neg (by assumption)]
    rw [hw] at hP
    exact z_retv S hr hlk hP hS dX3_raise_40
set_option maxHeartbeats 4000000 in
set_option maxRecDepth 100000 in
theorem m_X3_bend (l : Launch) (D : va_G) (g : ClassId × ClassId × ClassId) (a : Nat → Nat) {B : Int} (c : CS) (hI : IC B c) (sp : Int) (feel : Int) (h0 : 0 ≤ sp ∧ sp < 400) (h1 : 0 ≤ feel ∧ feel ≤ 9) : RD l yX3_bend cX3_bend 7 (some .int) 1 21 D g (CW g a c) [.ref (a 1), .int (zI sp), .int (zI feel)] (vbend c sp feel (c.1 2).toNat) := by
  refine z_enter RX3 (by decide) rfl (Nat.le_of_ble_eq_true rfl) ?_
  intro p e s m args below meth co S hr hlk hK hP ls hl
  have hl : lv_has ls 7 [(0, .ref (a 1)), (1, .int (zI sp)), (2, .int (zI feel))] := hl
  have hs := hI.s
  refine z_iconst S dX3_bend_0 ?_
  refine lv_istore_n (lv' := [(3, .int (zI 0)), (0, .ref (a 1)), (1, .int (zI sp)), (2, .int (zI feel))]) S.1 S.2.1 dX3_bend_1 rfl hl (by decide) rfl (fun ls hl => ?_)
  refine z_iconst S dX3_bend_2 ?_
  refine lv_istore (lv' := [(4, .int (zI 0)), (3, .int (zI 0)), (0, .ref (a 1)), (1, .int (zI sp)), (2, .int (zI feel))]) S.1 S.2.1 dX3_bend_3 hl (by decide) rfl (fun ls hl => ?_)
  refine z_for (nL := 7) ((c.1 2).toNat) (fun (k5 : Nat) => [(4, .int (zI (k5 : Int))), (3, .int (zI (vbend c sp feel k5))), (0, .ref (a 1)), (1, .int (zI sp)), (2, .int (zI feel))]) (fun k5 => True) (fun k5 hk5 hJ5 ls hl ih5 => ?_) (fun hJ5 ls hl => ?_) 0 (by omega) trivial ls (lv_sub hl [0, 1, 2, 3, 4] rfl)
  · have hl : lv_has ls 7 [(4, .int (zI (k5 : Int))), (3, .int (zI (vbend c sp feel k5))), (0, .ref (a 1)), (1, .int (zI sp)), (2, .int (zI feel))] := hl
    have hb0 := vw_b hI h1 (k5 : Int)
    refine lv_iload S.1 S.2.1 dX3_bend_5 (lv_at hl 0 rfl) ?_
    refine lv_aload_n S.1 S.2.1 dX3_bend_7 rfl (lv_at hl 2 rfl) ?_
    refine z_get (v := .int (zI (c.1 2))) S inA3 hK hP 1 rfl rfl 0 (by decide) fl_X3_9 rfl dX3_bend_8 ?_
    refine z_icmp_ge (tgt := 83) S dX3_bend_11 (by decide) (by omega) (fun h_1 => ?_) (fun h_1 => ?_)
    · exact absurd h_1 (by omega)
    · refine lv_aload_n S.1 S.2.1 dX3_bend_14 rfl (lv_at hl 2 rfl) ?_
      refine z_get (v := .ref (a 7)) S inA3 hK hP 1 rfl rfl 3 (by decide) fl_X3_22 rfl dX3_bend_15 ?_
      refine lv_iload S.1 S.2.1 dX3_bend_18 (lv_at hl 0 rfl) ?_
      refine z_sipush S (by decide) dX3_bend_20 ?_
      refine z_imul S dX3_bend_23 ?_
      refine lv_iload_n S.1 S.2.1 dX3_bend_24 rfl (lv_at hl 3 rfl) ?_
      refine z_iadd S dX3_bend_25 ?_
      refine z_iald S hK hP 7 rfl (by decide) (by omega) dX3_bend_26 ?_
      have hb_2 := hI.r2 (((k5 : Int) * 400) + sp)
      refine lv_istore (lv' := [(5, .int (zI (c.2 2 (((k5 : Int) * 400) + sp)))), (4, .int (zI (k5 : Int))), (3, .int (zI (vbend c sp feel k5))), (0, .ref (a 1)), (1, .int (zI sp)), (2, .int (zI feel))]) S.1 S.2.1 dX3_bend_27 hl (by decide) rfl (fun ls hl => ?_)
      refine lv_aload_n S.1 S.2.1 dX3_bend_29 rfl (lv_at hl 3 rfl) ?_
      refine z_get (v := .ref (a 6)) S inA3 hK hP 1 rfl rfl 2 (by decide) fl_X3_19 rfl dX3_bend_30 ?_
      refine lv_iload S.1 S.2.1 dX3_bend_33 (lv_at hl 1 rfl) ?_
      refine z_iald S hK hP 6 rfl (by decide) (by omega) dX3_bend_35 ?_
      have hb_3 := hI.r1 (k5 : Int)
      refine lv_iload_n S.1 S.2.1 dX3_bend_36 rfl (lv_at hl 5 rfl) ?_
      refine z_imul S dX3_bend_37 ?_
      refine lv_aload_n S.1 S.2.1 dX3_bend_38 rfl (lv_at hl 3 rfl) ?_
      refine z_get (v := .ref (a 5)) S inA3 hK hP 1 rfl rfl 1 (by decide) fl_X3_15 rfl dX3_bend_39 ?_
      refine lv_iload S.1 S.2.1 dX3_bend_42 (lv_at hl 1 rfl) ?_
      refine z_iald S hK hP 5 rfl (by decide) (by omega) dX3_bend_44 ?_
      have hb_4 := hI.r0 (k5 : Int)
      refine z_rN (As := [.int (zI ((c.2 1 (k5 : Int)) * feel)), .int (zI (c.2 0 (k5 : Int)))]) (rest := []) S (m_X4_quotient l D g ((c.2 1 (k5 : Int)) * feel) (c.2 0 (k5 : Int)) (by omega)) nw_X3_61 sm_X4_quotient ini_X4 cd_X4_quotient ds_X4_quotient ⟨Nat.le_of_ble_eq_true rfl, Nat.le_of_ble_eq_true rfl⟩ hK va_P_nil rfl hl.1 rfl (Nat.le_of_ble_eq_true rfl) ⟨Nat.zero_le _, Nat.zero_le _⟩ dX3_bend_45 ?_
      refine lv_istore (lv' := [(6, .int (zI (((c.2 1 (k5 : Int)) * feel) / (c.2 0 (k5 : Int))))), (5, .int (zI (c.2 2 (((k5 : Int) * 400) + sp)))), (4, .int (zI (k5 : Int))), (3, .int (zI (vbend c sp feel k5))), (0, .ref (a 1)), (1, .int (zI sp)), (2, .int (zI feel))]) S.1 S.2.1 dX3_bend_48 hl (by decide) rfl (fun ls hl => ?_)
      refine lv_iload S.1 S.2.1 dX3_bend_50 (lv_at hl 1 rfl) ?_
      refine z_iconst S dX3_bend_52 ?_
      refine z_icmp_ne (tgt := 64) S dX3_bend_53 (by decide) (by omega) (fun h_5 => ?_) (fun h_5 => ?_)
      · refine lv_iload S.1 S.2.1 dX3_bend_64 (lv_at hl 1 rfl) ?_
        refine z_iconst S dX3_bend_66 ?_
        refine z_icmp_ne (tgt := 77) S dX3_bend_67 (by decide) (by omega) (fun h_6 => ?_) (fun h_6 => ?_)
        · refine z_iinc (lv' := [(4, .int (zI ((k5 : Int) + 1))), (6, .int (zI (((c.2 1 (k5 : Int)) * feel) / (c.2 0 (k5 : Int))))), (5, .int (zI (c.2 2 (((k5 : Int) * 400) + sp)))), (3, .int (zI (vbend c sp feel k5))), (0, .ref (a 1)), (1, .int (zI sp)), (2, .int (zI feel))]) S dX3_bend_77 hl (k := 2) rfl (by decide) rfl (fun ls hl => ?_)
          refine z_goto (tgt := 5) S dX3_bend_80 (by decide) ?_
          have e_7 : vbend c sp feel (k5 + 1) = vbend c sp feel k5 := by grind [vbend, sm, vterm]
          exact ih5 _ (lv_sub hl [0, 3, 4, 5, 6] (by show _ = ([(4, .int (zI ((k5 + 1 : Nat) : Int))), (3, .int (zI (vbend c sp feel (k5 + 1)))), (0, .ref (a 1)), (1, .int (zI sp)), (2, .int (zI feel))] : List (Nat × Value)); rw [e_7]; first | done | rfl)) trivial
        · refine lv_iload_n S.1 S.2.1 dX3_bend_70 rfl (lv_at hl 3 rfl) ?_
          refine lv_iload S.1 S.2.1 dX3_bend_71 (lv_at hl 0 rfl) ?_
          refine z_iconst S dX3_bend_73 ?_
          refine z_idivn S (by omega) dX3_bend_74 ?_
          refine z_iadd S dX3_bend_75 ?_
          refine lv_istore_n (lv' := [(3, .int (zI ((vbend c sp feel k5) + ((((c.2 1 (k5 : Int)) * feel) / (c.2 0 (k5 : Int))) / 2)))), (6, .int (zI (((c.2 1 (k5 : Int)) * feel) / (c.2 0 (k5 : Int))))), (5, .int (zI (c.2 2 (((k5 : Int) * 400) + sp)))), (4, .int (zI (k5 : Int))), (0, .ref (a 1)), (1, .int (zI sp)), (2, .int (zI feel))]) S.1 S.2.1 dX3_bend_76 rfl hl (by decide) rfl (fun ls hl => ?_)
          refine z_iinc (lv' := [(4, .int (zI ((k5 : Int) + 1))), (3, .int (zI ((vbend c sp feel k5) + ((((c.2 1 (k5 : Int)) * feel) / (c.2 0 (k5 : Int))) / 2)))), (6, .int (zI (((c.2 1 (k5 : Int)) * feel) / (c.2 0 (k5 : Int))))), (5, .int (zI (c.2 2 (((k5 : Int) * 400) + sp)))), (0, .ref (a 1)), (1, .int (zI sp)), (2, .int (zI feel))]) S dX3_bend_77 hl (k := 3) rfl (by decide) rfl (fun ls hl => ?_)
          refine z_goto (tgt := 5) S dX3_bend_80 (by decide) ?_
          have e_8 : vbend c sp feel (k5 + 1) = (vbend c sp feel k5) + ((((c.2 1 (k5 : Int)) * feel) / (c.2 0 (k5 : Int))) / 2) := by grind [vbend, sm, vterm]
          exact ih5 _ (lv_sub hl [0, 1, 4, 5, 6] (by show _ = ([(4, .int (zI ((k5 + 1 : Nat) : Int))), (3, .int (zI (vbend c sp feel (k5 + 1)))), (0, .ref (a 1)), (1, .int (zI sp)), (2, .int (zI feel))] : List (Nat × Value)); rw [e_8]; first | done | rfl)) trivial
      · refine lv_iload_n S.1 S.2.1 dX3_bend_56 rfl (lv_at hl 3 rfl) ?_
        refine lv_iload S.1 S.2.1 dX3_bend_57 (lv_at hl 0 rfl) ?_
        refine z_iadd S dX3_bend_59 ?_
        refine lv_istore_n (lv' := [(3, .int (zI ((vbend c sp feel k5) + (((c.2 1 (k5 : Int)) * feel) / (c.2 0 (k5 : Int)))))), (6, .int (zI (((c.2 1 (k5 : Int)) * feel) / (c.2 0 (k5 : Int))))), (5, .int (zI (c.2 2 (((k5 : Int) * 400) + sp)))), (4, .int (zI (k5 : Int))), (0, .ref (a 1)), (1, .int (zI sp)), (2, .int (zI feel))]) S.1 S.2.1 dX3_bend_60 rfl hl (by decide) rfl (fun ls hl => ?_)
        refine z_goto (tgt := 77) S dX3_bend_61 (by decide) ?_
        refine z_iinc (lv' := [(4, .int (zI ((k5 : Int) + 1))), (3, .int (zI ((vbend c sp feel k5) + (((c.2 1 (k5 : Int)) * feel) / (c.2 0 (k5 : Int)))))), (6, .int (zI (((c.2 1 (k5 : Int)) * feel) / (c.2 0 (k5 : Int))))), (5, .int (zI (c.2 2 (((k5 : Int) * 400) + sp)))), (0, .ref (a 1)), (1, .int (zI sp)), (2, .int (zI feel))]) S dX3_bend_77 hl (k := 3) rfl (by decide) rfl (fun ls hl => ?_)
        refine z_goto (tgt := 5) S dX3_bend_80 (by decide) ?_
        have e_9 : vbend c sp feel (k5 + 1) = (vbend c sp feel k5) + (((c.2 1 (k5 : Int)) * feel) / (c.2 0 (k5 : Int))) := by grind [vbend, sm, vterm]
        exact ih5 _ (lv_sub hl [0, 1, 4, 5, 6] (by show _ = ([(4, .int (zI ((k5 + 1 : Nat) : Int))), (3, .int (zI (vbend c sp feel (k5 + 1)))), (0, .ref (a 1)), (1, .int (zI sp)), (2, .int (zI feel))] : List (Nat × Value)); rw [e_9]; first | done | rfl)) trivial
  · have hl : lv_has ls 7 [(4, .int (zI (((c.1 2).toNat : Nat) : Int))), (3, .int (zI (vbend c sp feel ((c.1 2).toNat)))), (0, .ref (a 1)), (1, .int (zI sp)), (2, .int (zI feel))] := hl
    refine lv_iload S.1 S.2.1 dX3_bend_5 (lv_at hl 0 rfl) ?_
    refine lv_aload_n S.1 S.2.1 dX3_bend_7 rfl (lv_at hl 2 rfl) ?_
    refine z_get (v := .int (zI (c.1 2))) S inA3 hK hP 1 rfl rfl 0 (by decide) fl_X3_9 rfl dX3_bend_8 ?_
    refine z_icmp_ge (tgt := 83) S dX3_bend_11 (by decide) (by omega) (fun h_10 => ?_) (fun h_10 => ?_)
    · refine lv_iload_n S.1 S.2.1 dX3_bend_83 rfl (lv_at hl 1 rfl) ?_
      exact z_ret S hr hlk (by first | rfl | grind) dX3_bend_84
    · exact absurd h_10 (by omega)
set_option maxHeartbeats 4000000 in
set_option maxRecDepth 100000 in
theorem m_X3_wetSpots (l : Launch) (D : va_G) (g : ClassId × ClassId × ClassId) (a : Nat → Nat) {B : Int} (c : CS) (hI : IC B c) : RD l yX3_wetSpots cX3_wetSpots 3 (some .int) 0 0 D g (CW g a c) [.ref (a 1)] (wet c) := by
  refine z_enter RX3 (by decide) rfl (Nat.le_of_ble_eq_true rfl) ?_
  intro p e s m args below meth co S hr hlk hK hP ls hl
  have hl : lv_has ls 3 [(0, .ref (a 1))] := hl
  have hs := hI.s
  refine z_iconst S dX3_wetSpots_0 ?_
  refine lv_istore_n (lv' := [(1, .int (zI 0)), (0, .ref (a 1))]) S.1 S.2.1 dX3_wetSpots_1 rfl hl (by decide) rfl (fun ls hl => ?_)
  refine z_iconst S dX3_wetSpots_2 ?_
  refine lv_istore_n (lv' := [(2, .int (zI 0)), (1, .int (zI 0)), (0, .ref (a 1))]) S.1 S.2.1 dX3_wetSpots_3 rfl hl (by decide) rfl (fun ls hl => ?_)
  refine z_for (nL := 3) (400) (fun (k4 : Nat) => [(2, .int (zI (k4 : Int))), (1, .int (zI (sm (fun j => b01 (0 < c.2 3 j)) k4))), (0, .ref (a 1))]) (fun k4 => True) (fun k4 hk4 hJ4 ls hl ih4 => ?_) (fun hJ4 ls hl => ?_) 0 (by omega) trivial ls (lv_sub hl [0, 1, 2] rfl)
  · have hl : lv_has ls 3 [(2, .int (zI (k4 : Int))), (1, .int (zI (sm (fun j => b01 (0 < c.2 3 j)) k4))), (0, .ref (a 1))] := hl
    refine lv_iload_n S.1 S.2.1 dX3_wetSpots_4 rfl (lv_at hl 0 rfl) ?_
    refine z_sipush S (by decide) dX3_wetSpots_5 ?_
    refine z_icmp_ge (tgt := 29) S dX3_wetSpots_8 (by decide) (by omega) (fun h_1 => ?_) (fun h_1 => ?_)
    · exact absurd h_1 (by omega)
    · refine lv_aload_n S.1 S.2.1 dX3_wetSpots_11 rfl (lv_at hl 2 rfl) ?_
      refine z_get (v := .ref (a 8)) S inA3 hK hP 1 rfl rfl 4 (by decide) fl_X3_25 rfl dX3_wetSpots_12 ?_
      refine lv_iload_n S.1 S.2.1 dX3_wetSpots_15 rfl (lv_at hl 0 rfl) ?_
      refine z_iald S hK hP 8 rfl (by decide) (by omega) dX3_wetSpots_16 ?_
      have hb_2 := hI.r3 (k4 : Int)
      refine z_if_le (tgt := 23) S dX3_wetSpots_17 (by decide) (by omega) (fun h_3 => ?_) (fun h_3 => ?_)
      · refine z_iinc (lv' := [(2, .int (zI ((k4 : Int) + 1))), (1, .int (zI (sm (fun j => b01 (0 < c.2 3 j)) k4))), (0, .ref (a 1))]) S dX3_wetSpots_23 hl (k := 0) rfl (by decide) rfl (fun ls hl => ?_)
        refine z_goto (tgt := 4) S dX3_wetSpots_26 (by decide) ?_
        have e_4 : sm (fun j => b01 (0 < c.2 3 j)) (k4 + 1) = sm (fun j => b01 (0 < c.2 3 j)) k4 := by grind [sm, b01]
        exact ih4 _ (lv_sub hl [0, 1, 2] (by show _ = ([(2, .int (zI ((k4 + 1 : Nat) : Int))), (1, .int (zI (sm (fun j => b01 (0 < c.2 3 j)) (k4 + 1)))), (0, .ref (a 1))] : List (Nat × Value)); rw [e_4]; first | done | rfl)) trivial
      · refine z_iinc (lv' := [(1, .int (zI ((sm (fun j => b01 (0 < c.2 3 j)) k4) + 1))), (2, .int (zI (k4 : Int))), (0, .ref (a 1))]) S dX3_wetSpots_20 hl (k := 1) rfl (by decide) rfl (fun ls hl => ?_)
        refine z_iinc (lv' := [(2, .int (zI ((k4 : Int) + 1))), (1, .int (zI ((sm (fun j => b01 (0 < c.2 3 j)) k4) + 1))), (0, .ref (a 1))]) S dX3_wetSpots_23 hl (k := 1) rfl (by decide) rfl (fun ls hl => ?_)
        refine z_goto (tgt := 4) S dX3_wetSpots_26 (by decide) ?_
        have e_5 : sm (fun j => b01 (0 < c.2 3 j)) (k4 + 1) = (sm (fun j => b01 (0 < c.2 3 j)) k4) + 1 := by grind [sm, b01]
        exact ih4 _ (lv_sub hl [0, 1, 2] (by show _ = ([(2, .int (zI ((k4 + 1 : Nat) : Int))), (1, .int (zI (sm (fun j => b01 (0 < c.2 3 j)) (k4 + 1)))), (0, .ref (a 1))] : List (Nat × Value)); rw [e_5]; first | done | rfl)) trivial
  · have hl : lv_has ls 3 [(2, .int (zI ((400 : Nat) : Int))), (1, .int (zI (sm (fun j => b01 (0 < c.2 3 j)) 400))), (0, .ref (a 1))] := hl
    refine lv_iload_n S.1 S.2.1 dX3_wetSpots_4 rfl (lv_at hl 0 rfl) ?_
    refine z_sipush S (by decide) dX3_wetSpots_5 ?_
    refine z_icmp_ge (tgt := 29) S dX3_wetSpots_8 (by decide) (by omega) (fun h_6 => ?_) (fun h_6 => ?_)
    · refine lv_iload_n S.1 S.2.1 dX3_wetSpots_29 rfl (lv_at hl 1 rfl) ?_
      exact z_ret S hr hlk (by first | rfl | grind) dX3_wetSpots_30
    · exact absurd h_6 (by omega)
set_option maxHeartbeats 4000000 in
set_option maxRecDepth 100000 in
theorem m_X0_add (l : Launch) (D : va_G) (g : ClassId × ClassId × ClassId) (a : Nat → Nat) {B : Int} (c : CS) (hI : IC B c) (hda : CD 21 a) (fl : Int) (ln : Int) (h0 : c.1 3 < 5) : WRi l yX0_add cX0_add 4 (some .int) 0 0 D g (CA 21 a) (CW g a c) [.ref (a 2), .int (zI fl), .int (zI ln)] (CW g a (sS (sA (sA (sA c 5 (upZ (c.2 5) (c.1 3) fl)) 6 (upZ (c.2 6) (c.1 3) ln)) 7 (upZ (c.2 7) (c.1 3) 50)) 3 (c.1 3 + 1))) (c.1 3) := by
  refine z_enter RX0 (by decide) rfl (Nat.le_of_ble_eq_true rfl) ?_
  intro p e s m args below meth co S hr hlk hK hP ls hl
  have hl : lv_has ls 4 [(0, .ref (a 2)), (1, .int (zI fl)), (2, .int (zI ln))] := hl
  have hs := hI.s
  have hS : va_S (CA 21 a) s.heap s.heap [] := va_S.rf
  refine lv_aload_n S.1 S.2.1 dX0_add_0 rfl (lv_at hl 0 rfl) ?_
  refine z_get (v := .int (zI (c.1 3))) S inA0 hK hP 2 rfl rfl 0 (by decide) fl_X0_9 rfl dX0_add_1 ?_
  refine lv_istore_n (lv' := [(3, .int (zI (c.1 3))), (0, .ref (a 2)), (1, .int (zI fl)), (2, .int (zI ln))]) S.1 S.2.1 dX0_add_4 rfl hl (by decide) rfl (fun ls hl => ?_)
  refine lv_aload_n S.1 S.2.1 dX0_add_5 rfl (lv_at hl 1 rfl) ?_
  refine z_get (v := .ref (a 10)) S inA0 hK hP 2 rfl rfl 1 (by decide) fl_X0_15 rfl dX0_add_6 ?_
  refine lv_iload_n S.1 S.2.1 dX0_add_9 rfl (lv_at hl 0 rfl) ?_
  refine lv_iload_n S.1 S.2.1 dX0_add_10 rfl (lv_at hl 2 rfl) ?_
  refine z_iast S hK hP (CW_D hda _) hS 10 rfl (by decide) (by omega) dX0_add_11 (fun H locs hP hS => ?_)
  have hP : va_P D vwCl (CW g a (sA c 5 (upZ (c.2 5) (c.1 3) fl))) H := hP
  refine lv_aload_n S.1 S.2.1 dX0_add_12 rfl (lv_at hl 1 rfl) ?_
  refine z_get (v := .ref (a 11)) S inA0 hK hP 2 rfl rfl 2 (by decide) fl_X0_19 rfl dX0_add_13 ?_
  refine lv_iload_n S.1 S.2.1 dX0_add_16 rfl (lv_at hl 0 rfl) ?_
  refine lv_iload_n S.1 S.2.1 dX0_add_17 rfl (lv_at hl 3 rfl) ?_
  refine z_iast S hK hP (CW_D hda _) hS 11 rfl (by decide) (by omega) dX0_add_18 (fun H locs hP hS => ?_)
  have hP : va_P D vwCl (CW g a (sA (sA c 5 (upZ (c.2 5) (c.1 3) fl)) 6 (upZ (c.2 6) (c.1 3) ln))) H := hP
  refine lv_aload_n S.1 S.2.1 dX0_add_19 rfl (lv_at hl 1 rfl) ?_
  refine z_get (v := .ref (a 12)) S inA0 hK hP 2 rfl rfl 3 (by decide) fl_X0_22 rfl dX0_add_20 ?_
  refine lv_iload_n S.1 S.2.1 dX0_add_23 rfl (lv_at hl 0 rfl) ?_
  refine z_bipush S (by decide) dX0_add_24 ?_
  refine z_iast S hK hP (CW_D hda _) hS 12 rfl (by decide) (by omega) dX0_add_26 (fun H locs hP hS => ?_)
  have hP : va_P D vwCl (CW g a (sA (sA (sA c 5 (upZ (c.2 5) (c.1 3) fl)) 6 (upZ (c.2 6) (c.1 3) ln)) 7 (upZ (c.2 7) (c.1 3) 50))) H := hP
  refine lv_aload_n S.1 S.2.1 dX0_add_27 rfl (lv_at hl 1 rfl) ?_
  refine lv_dup S.1 S.2.1 dX0_add_28 rfl ?_
  refine z_get (v := .int (zI (c.1 3))) S inA0 hK hP 2 rfl rfl 0 (by decide) fl_X0_9 rfl dX0_add_29 ?_
  refine z_iconst S dX0_add_32 ?_
  refine z_iadd S dX0_add_33 ?_
  refine z_put S inA0 tyX0 tyX0_ok nmX0 hK hP (CW_D hda _) hS 2 rfl rfl 0 (by decide) fl_X0_9 rfl (by decide +kernel) (Nat.le_of_ble_eq_true rfl) dX0_add_34 (fun H locs hP hS => ?_)
  have hP : va_P D vwCl (CW g a (sS (sA (sA (sA c 5 (upZ (c.2 5) (c.1 3) fl)) 6 (upZ (c.2 6) (c.1 3) ln)) 7 (upZ (c.2 7) (c.1 3) 50)) 3 ((c.1 3) + 1))) H := hP
  refine lv_iload_n S.1 S.2.1 dX0_add_37 rfl (lv_at hl 0 rfl) ?_
  have hw : CW g a (sS (sA (sA (sA c 5 (upZ (c.2 5) (c.1 3) fl)) 6 (upZ (c.2 6) (c.1 3) ln)) 7 (upZ (c.2 7) (c.1 3) 50)) 3 ((c.1 3) + 1)) = CW g a (sS (sA (sA (sA c 5 (upZ (c.2 5) (c.1 3) fl)) 6 (upZ (c.2 6) (c.1 3) ln)) 7 (upZ (c.2 7) (c.1 3) 50)) 3 (c.1 3 + 1)) := by exact rfl
  rw [hw] at hP
  exact z_retw S hr hlk (by first | rfl | grind) hP hS dX0_add_38
set_option maxHeartbeats 4000000 in
set_option maxRecDepth 100000 in
theorem m_X0_allCoins (l : Launch) (D : va_G) (g : ClassId × ClassId × ClassId) (a : Nat → Nat) {B : Int} (c : CS) (hI : IC B c) : RD l yX0_allCoins cX0_allCoins 3 (some .int) 0 0 D g (CW g a c) [.ref (a 2)] (allC c) := by
  refine z_enter RX0 (by decide) rfl (Nat.le_of_ble_eq_true rfl) ?_
  intro p e s m args below meth co S hr hlk hK hP ls hl
  have hl : lv_has ls 3 [(0, .ref (a 2))] := hl
  have hs := hI.s
  refine z_iconst S dX0_allCoins_0 ?_
  refine lv_istore_n (lv' := [(1, .int (zI 0)), (0, .ref (a 2))]) S.1 S.2.1 dX0_allCoins_1 rfl hl (by decide) rfl (fun ls hl => ?_)
  refine z_iconst S dX0_allCoins_2 ?_
  refine lv_istore_n (lv' := [(2, .int (zI 0)), (1, .int (zI 0)), (0, .ref (a 2))]) S.1 S.2.1 dX0_allCoins_3 rfl hl (by decide) rfl (fun ls hl => ?_)
  refine z_for (nL := 3) ((c.1 3).toNat) (fun (k4 : Nat) => [(2, .int (zI (k4 : Int))), (1, .int (zI (sm (fun j => c.2 7 j) k4))), (0, .ref (a 2))]) (fun k4 => True) (fun k4 hk4 hJ4 ls hl ih4 => ?_) (fun hJ4 ls hl => ?_) 0 (by omega) trivial ls (lv_sub hl [0, 1, 2] rfl)
  · have hl : lv_has ls 3 [(2, .int (zI (k4 : Int))), (1, .int (zI (sm (fun j => c.2 7 j) k4))), (0, .ref (a 2))] := hl
    refine lv_iload_n S.1 S.2.1 dX0_allCoins_4 rfl (lv_at hl 0 rfl) ?_
    refine lv_aload_n S.1 S.2.1 dX0_allCoins_5 rfl (lv_at hl 2 rfl) ?_
    refine z_get (v := .int (zI (c.1 3))) S inA0 hK hP 2 rfl rfl 0 (by decide) fl_X0_9 rfl dX0_allCoins_6 ?_
    refine z_icmp_ge (tgt := 27) S dX0_allCoins_9 (by decide) (by omega) (fun h_1 => ?_) (fun h_1 => ?_)
    · exact absurd h_1 (by omega)
    · refine lv_iload_n S.1 S.2.1 dX0_allCoins_12 rfl (lv_at hl 1 rfl) ?_
      refine lv_aload_n S.1 S.2.1 dX0_allCoins_13 rfl (lv_at hl 2 rfl) ?_
      refine z_get (v := .ref (a 12)) S inA0 hK hP 2 rfl rfl 3 (by decide) fl_X0_22 rfl dX0_allCoins_14 ?_
      refine lv_iload_n S.1 S.2.1 dX0_allCoins_17 rfl (lv_at hl 0 rfl) ?_
      refine z_iald S hK hP 12 rfl (by decide) (by omega) dX0_allCoins_18 ?_
      have hb_2 := hI.r7 (k4 : Int)
      refine z_iadd S dX0_allCoins_19 ?_
      refine lv_istore_n (lv' := [(1, .int (zI ((sm (fun j => c.2 7 j) k4) + (c.2 7 (k4 : Int))))), (2, .int (zI (k4 : Int))), (0, .ref (a 2))]) S.1 S.2.1 dX0_allCoins_20 rfl hl (by decide) rfl (fun ls hl => ?_)
      refine z_iinc (lv' := [(2, .int (zI ((k4 : Int) + 1))), (1, .int (zI ((sm (fun j => c.2 7 j) k4) + (c.2 7 (k4 : Int))))), (0, .ref (a 2))]) S dX0_allCoins_21 hl (k := 1) rfl (by decide) rfl (fun ls hl => ?_)
      refine z_goto (tgt := 4) S dX0_allCoins_24 (by decide) ?_
      exact ih4 _ (lv_sub hl [0, 1, 2] rfl) trivial
  · have hl : lv_has ls 3 [(2, .int (zI (((c.1 3).toNat : Nat) : Int))), (1, .int (zI (sm (fun j => c.2 7 j) ((c.1 3).toNat)))), (0, .ref (a 2))] := hl
    refine lv_iload_n S.1 S.2.1 dX0_allCoins_4 rfl (lv_at hl 0 rfl) ?_
    refine lv_aload_n S.1 S.2.1 dX0_allCoins_5 rfl (lv_at hl 2 rfl) ?_
    refine z_get (v := .int (zI (c.1 3))) S inA0 hK hP 2 rfl rfl 0 (by decide) fl_X0_9 rfl dX0_allCoins_6 ?_
    refine z_icmp_ge (tgt := 27) S dX0_allCoins_9 (by decide) (by omega) (fun h_3 => ?_) (fun h_3 => ?_)
    · refine lv_iload_n S.1 S.2.1 dX0_allCoins_27 rfl (lv_at hl 1 rfl) ?_
      exact z_ret S hr hlk (by first | rfl | grind) dX0_allCoins_28
    · exact absurd h_3 (by omega)
set_option maxHeartbeats 4000000 in
set_option maxRecDepth 100000 in
theorem m_X2_add (l : Launch) (D : va_G) (g : ClassId × ClassId × ClassId) (a : Nat → Nat) {B : Int} (c : CS) (hI : IC B c) (hda : CD 21 a) (sp : Int) (dw : Int) (h0 : c.1 5 < 10) (h1 : 0 ≤ sp ∧ sp < 400) : WRi l yX2_add cX2_add 4 (some .int) 0 0 D g (CA 21 a) (CW g a c) [.ref (a 4), .int (zI sp), .int (zI dw)] (CW g a (sS (sA (sA (sA c 11 (upZ (c.2 11) (c.1 5) sp)) 12 (upZ (c.2 12) (c.1 5) dw)) 10 (upZ (c.2 10) sp (c.1 5))) 5 (c.1 5 + 1))) (c.1 5) := by
  refine z_enter RX2 (by decide) rfl (Nat.le_of_ble_eq_true rfl) ?_
  intro p e s m args below meth co S hr hlk hK hP ls hl
  have hl : lv_has ls 4 [(0, .ref (a 4)), (1, .int (zI sp)), (2, .int (zI dw))] := hl
  have hs := hI.s
  have hS : va_S (CA 21 a) s.heap s.heap [] := va_S.rf
  refine lv_aload_n S.1 S.2.1 dX2_add_0 rfl (lv_at hl 0 rfl) ?_
  refine z_get (v := .int (zI (c.1 5))) S inA2 hK hP 4 rfl rfl 0 (by decide) fl_X2_9 rfl dX2_add_1 ?_
  refine lv_istore_n (lv' := [(3, .int (zI (c.1 5))), (0, .ref (a 4)), (1, .int (zI sp)), (2, .int (zI dw))]) S.1 S.2.1 dX2_add_4 rfl hl (by decide) rfl (fun ls hl => ?_)
  refine lv_aload_n S.1 S.2.1 dX2_add_5 rfl (lv_at hl 1 rfl) ?_
  refine z_get (v := .ref (a 16)) S inA2 hK hP 4 rfl rfl 2 (by decide) fl_X2_25 rfl dX2_add_6 ?_
  refine lv_iload_n S.1 S.2.1 dX2_add_9 rfl (lv_at hl 0 rfl) ?_
  refine lv_iload_n S.1 S.2.1 dX2_add_10 rfl (lv_at hl 2 rfl) ?_
  refine z_iast S hK hP (CW_D hda _) hS 16 rfl (by decide) (by omega) dX2_add_11 (fun H locs hP hS => ?_)
  have hP : va_P D vwCl (CW g a (sA c 11 (upZ (c.2 11) (c.1 5) sp))) H := hP
  refine lv_aload_n S.1 S.2.1 dX2_add_12 rfl (lv_at hl 1 rfl) ?_
  refine z_get (v := .ref (a 17)) S inA2 hK hP 4 rfl rfl 3 (by decide) fl_X2_28 rfl dX2_add_13 ?_
  refine lv_iload_n S.1 S.2.1 dX2_add_16 rfl (lv_at hl 0 rfl) ?_
  refine lv_iload_n S.1 S.2.1 dX2_add_17 rfl (lv_at hl 3 rfl) ?_
  refine z_iast S hK hP (CW_D hda _) hS 17 rfl (by decide) (by omega) dX2_add_18 (fun H locs hP hS => ?_)
  have hP : va_P D vwCl (CW g a (sA (sA c 11 (upZ (c.2 11) (c.1 5) sp)) 12 (upZ (c.2 12) (c.1 5) dw))) H := hP
  refine lv_aload_n S.1 S.2.1 dX2_add_19 rfl (lv_at hl 1 rfl) ?_
  refine z_get (v := .ref (a 15)) S inA2 hK hP 4 rfl rfl 1 (by decide) fl_X2_15 rfl dX2_add_20 ?_
  refine lv_iload_n S.1 S.2.1 dX2_add_23 rfl (lv_at hl 2 rfl) ?_
  refine lv_iload_n S.1 S.2.1 dX2_add_24 rfl (lv_at hl 0 rfl) ?_
  refine z_iast S hK hP (CW_D hda _) hS 15 rfl (by decide) (by omega) dX2_add_25 (fun H locs hP hS => ?_)
  have hP : va_P D vwCl (CW g a (sA (sA (sA c 11 (upZ (c.2 11) (c.1 5) sp)) 12 (upZ (c.2 12) (c.1 5) dw)) 10 (upZ (c.2 10) sp (c.1 5)))) H := hP
  refine lv_aload_n S.1 S.2.1 dX2_add_26 rfl (lv_at hl 1 rfl) ?_
  refine lv_dup S.1 S.2.1 dX2_add_27 rfl ?_
  refine z_get (v := .int (zI (c.1 5))) S inA2 hK hP 4 rfl rfl 0 (by decide) fl_X2_9 rfl dX2_add_28 ?_
  refine z_iconst S dX2_add_31 ?_
  refine z_iadd S dX2_add_32 ?_
  refine z_put S inA2 tyX2 tyX2_ok nmX2 hK hP (CW_D hda _) hS 4 rfl rfl 0 (by decide) fl_X2_9 rfl (by decide +kernel) (Nat.le_of_ble_eq_true rfl) dX2_add_33 (fun H locs hP hS => ?_)
  have hP : va_P D vwCl (CW g a (sS (sA (sA (sA c 11 (upZ (c.2 11) (c.1 5) sp)) 12 (upZ (c.2 12) (c.1 5) dw)) 10 (upZ (c.2 10) sp (c.1 5))) 5 ((c.1 5) + 1))) H := hP
  refine lv_iload_n S.1 S.2.1 dX2_add_36 rfl (lv_at hl 0 rfl) ?_
  have hw : CW g a (sS (sA (sA (sA c 11 (upZ (c.2 11) (c.1 5) sp)) 12 (upZ (c.2 12) (c.1 5) dw)) 10 (upZ (c.2 10) sp (c.1 5))) 5 ((c.1 5) + 1)) = CW g a (sS (sA (sA (sA c 11 (upZ (c.2 11) (c.1 5) sp)) 12 (upZ (c.2 12) (c.1 5) dw)) 10 (upZ (c.2 10) sp (c.1 5))) 5 (c.1 5 + 1)) := by exact rfl
  rw [hw] at hP
  exact z_retw S hr hlk (by first | rfl | grind) hP hS dX2_add_37
set_option maxHeartbeats 4000000 in
set_option maxRecDepth 100000 in
theorem m_X2_hasFound (l : Launch) (D : va_G) (g : ClassId × ClassId × ClassId) (a : Nat → Nat) {B : Int} (c : CS) (hI : IC B c) (q : Int) (h0 : 0 ≤ q ∧ q < 10) : RD l yX2_hasFound cX2_hasFound 2 (some .boolean) 0 0 D g (CW g a c) [.ref (a 4), .int (zI q)] (b01 (fnd c q)) := by
  refine z_enter RX2 (by decide) rfl (Nat.le_of_ble_eq_true rfl) ?_
  intro p e s m args below meth co S hr hlk hK hP ls hl
  have hl : lv_has ls 2 [(0, .ref (a 4)), (1, .int (zI q))] := hl
  have hs := hI.s
  refine lv_aload_n S.1 S.2.1 dX2_hasFound_0 rfl (lv_at hl 0 rfl) ?_
  refine z_get (v := .ref (a 17)) S inA2 hK hP 4 rfl rfl 3 (by decide) fl_X2_28 rfl dX2_hasFound_1 ?_
  refine lv_iload_n S.1 S.2.1 dX2_hasFound_4 rfl (lv_at hl 1 rfl) ?_
  refine z_iald S hK hP 17 rfl (by decide) (by omega) dX2_hasFound_5 ?_
  have hb_1 := hI.r12 q
  refine z_if_le (tgt := 28) S dX2_hasFound_6 (by decide) (by omega) (fun h_2 => ?_) (fun h_2 => ?_)
  · refine z_iconst S dX2_hasFound_28 ?_
    exact z_retb S hr hlk (Or.inl rfl) ((b01_f (by omega)).symm) dX2_hasFound_29
  · refine lv_aload_n S.1 S.2.1 dX2_hasFound_9 rfl (lv_at hl 0 rfl) ?_
    refine z_get (v := .ref (a 18)) S inA2 hK hP 4 rfl rfl 4 (by decide) fl_X2_31 rfl dX2_hasFound_10 ?_
    refine lv_iload_n S.1 S.2.1 dX2_hasFound_13 rfl (lv_at hl 1 rfl) ?_
    refine z_iald S hK hP 18 rfl (by decide) (by omega) dX2_hasFound_14 ?_
    have hb_3 := hI.r13 q
    refine lv_aload_n S.1 S.2.1 dX2_hasFound_15 rfl (lv_at hl 0 rfl) ?_
    refine z_get (v := .ref (a 17)) S inA2 hK hP 4 rfl rfl 3 (by decide) fl_X2_28 rfl dX2_hasFound_16 ?_
    refine lv_iload_n S.1 S.2.1 dX2_hasFound_19 rfl (lv_at hl 1 rfl) ?_
    refine z_iald S hK hP 17 rfl (by decide) (by omega) dX2_hasFound_20 ?_
    have hb_4 := hI.r12 q
    refine z_icmp_lt (tgt := 28) S dX2_hasFound_21 (by decide) (by omega) (fun h_5 => ?_) (fun h_5 => ?_)
    · refine z_iconst S dX2_hasFound_28 ?_
      exact z_retb S hr hlk (Or.inl rfl) ((b01_f (by omega)).symm) dX2_hasFound_29
    · refine z_iconst S dX2_hasFound_24 ?_
      refine z_goto (tgt := 29) S dX2_hasFound_25 (by decide) ?_
      exact z_retb S hr hlk (Or.inr rfl) ((b01_t (by omega)).symm) dX2_hasFound_29
set_option maxHeartbeats 4000000 in
set_option maxRecDepth 100000 in
theorem m_X2_isOver (l : Launch) (D : va_G) (g : ClassId × ClassId × ClassId) (a : Nat → Nat) {B : Int} (c : CS) (hI : IC B c) (q : Int) (h0 : 0 ≤ q ∧ q < 10) : RD l yX2_isOver cX2_isOver 2 (some .boolean) 1 21 D g (CW g a c) [.ref (a 4), .int (zI q)] (b01 (over c q)) := by
  refine z_enter RX2 (by decide) rfl (Nat.le_of_ble_eq_true rfl) ?_
  intro p e s m args below meth co S hr hlk hK hP ls hl
  have hl : lv_has ls 2 [(0, .ref (a 4)), (1, .int (zI q))] := hl
  have hs := hI.s
  refine lv_aload_n S.1 S.2.1 dX2_isOver_0 rfl (lv_at hl 0 rfl) ?_
  refine lv_iload_n S.1 S.2.1 dX2_isOver_1 rfl (lv_at hl 1 rfl) ?_
  refine z_rV (As := [.int (zI q)]) (rest := []) S (m_X2_hasFound l D g a c hI q (by omega)) ml_X2_41 im_X2_hasFound se_X2_hasFound ini_X2 cd_X2_hasFound ds_X2_hasFound ⟨Nat.le_of_ble_eq_true rfl, Nat.le_of_ble_eq_true rfl⟩ hK hP (va_recv hK.1 hP (ci := 2) (q0 := 4) rfl rfl) rfl hl.1 rfl (Nat.le_of_ble_eq_true rfl) ⟨Nat.zero_le _, Nat.zero_le _⟩ dX2_isOver_2 ?_
  refine z_ifb_ne (tgt := 19) S dX2_isOver_5 (by decide) (fun h_1 => ?_) (fun h_1 => ?_)
  · refine z_iconst S dX2_isOver_19 ?_
    refine z_goto (tgt := 24) S dX2_isOver_20 (by decide) ?_
    exact z_retb S hr hlk (Or.inr rfl) ((b01_t (by omega)).symm) dX2_isOver_24
  · refine lv_aload_n S.1 S.2.1 dX2_isOver_8 rfl (lv_at hl 0 rfl) ?_
    refine z_get (v := .ref (a 18)) S inA2 hK hP 4 rfl rfl 4 (by decide) fl_X2_31 rfl dX2_isOver_9 ?_
    refine lv_iload_n S.1 S.2.1 dX2_isOver_12 rfl (lv_at hl 1 rfl) ?_
    refine z_iald S hK hP 18 rfl (by decide) (by omega) dX2_isOver_13 ?_
    have hb_2 := hI.r13 q
    refine z_bipush S (by decide) dX2_isOver_14 ?_
    refine z_icmp_lt (tgt := 23) S dX2_isOver_16 (by decide) (by omega) (fun h_3 => ?_) (fun h_3 => ?_)
    · refine z_iconst S dX2_isOver_23 ?_
      exact z_retb S hr hlk (Or.inl rfl) ((b01_f (by omega)).symm) dX2_isOver_24
    · refine z_iconst S dX2_isOver_19 ?_
      refine z_goto (tgt := 24) S dX2_isOver_20 (by decide) ?_
      exact z_retb S hr hlk (Or.inr rfl) ((b01_t (by omega)).symm) dX2_isOver_24
set_option maxHeartbeats 4000000 in
set_option maxRecDepth 100000 in
theorem m_X2_deepen (l : Launch) (D : va_G) (g : ClassId × ClassId × ClassId) (a : Nat → Nat) {B : Int} (c : CS) (hI : IC B c) (hda : CD 21 a) (q : Int) (by9 : Int) (h0 : 0 ≤ q ∧ q < 10) (h1 : 1 ≤ by9 ∧ by9 ≤ 20) : WRv l yX2_deepen cX2_deepen 4 none 1 21 D g (CA 21 a) (CW g a c) [.ref (a 4), .int (zI q), .int (zI by9)] (CW g a (sA c 13 (upZ (c.2 13) q (dpn c q by9)))) := by
  refine z_enter RX2 (by decide) rfl (Nat.le_of_ble_eq_true rfl) ?_
  intro p e s m args below meth co S hr hlk hK hP ls hl
  have hl : lv_has ls 4 [(0, .ref (a 4)), (1, .int (zI q)), (2, .int (zI by9))] := hl
  have hs := hI.s
  have hS : va_S (CA 21 a) s.heap s.heap [] := va_S.rf
  refine lv_aload_n S.1 S.2.1 dX2_deepen_0 rfl (lv_at hl 0 rfl) ?_
  refine z_get (v := .ref (a 17)) S inA2 hK hP 4 rfl rfl 3 (by decide) fl_X2_28 rfl dX2_deepen_1 ?_
  refine lv_iload_n S.1 S.2.1 dX2_deepen_4 rfl (lv_at hl 1 rfl) ?_
  refine z_iald S hK hP 17 rfl (by decide) (by omega) dX2_deepen_5 ?_
  have hb_1 := hI.r12 q
  refine z_if_le (tgt := 18) S dX2_deepen_6 (by decide) (by omega) (fun h_2 => ?_) (fun h_2 => ?_)
  · refine z_bipush S (by decide) dX2_deepen_18 ?_
    refine lv_istore_n (lv' := [(3, .int (zI 20)), (0, .ref (a 4)), (1, .int (zI q)), (2, .int (zI by9))]) S.1 S.2.1 dX2_deepen_20 rfl hl (by decide) rfl (fun ls hl => ?_)
    refine lv_aload_n S.1 S.2.1 dX2_deepen_21 rfl (lv_at hl 1 rfl) ?_
    refine z_get (v := .ref (a 18)) S inA2 hK hP 4 rfl rfl 4 (by decide) fl_X2_31 rfl dX2_deepen_22 ?_
    refine lv_iload_n S.1 S.2.1 dX2_deepen_25 rfl (lv_at hl 2 rfl) ?_
    refine lv_iload_n S.1 S.2.1 dX2_deepen_26 rfl (lv_at hl 0 rfl) ?_
    refine lv_aload_n S.1 S.2.1 dX2_deepen_27 rfl (lv_at hl 1 rfl) ?_
    refine z_get (v := .ref (a 18)) S inA2 hK hP 4 rfl rfl 4 (by decide) fl_X2_31 rfl dX2_deepen_28 ?_
    refine lv_iload_n S.1 S.2.1 dX2_deepen_31 rfl (lv_at hl 2 rfl) ?_
    refine z_iald S hK hP 18 rfl (by decide) (by omega) dX2_deepen_32 ?_
    have hb_3 := hI.r13 q
    refine lv_iload_n S.1 S.2.1 dX2_deepen_33 rfl (lv_at hl 3 rfl) ?_
    refine z_iadd S dX2_deepen_34 ?_
    refine z_min S ml_X2_45 hl.1 (Nat.le_of_ble_eq_true rfl) (Nat.le_of_ble_eq_true rfl) ⟨Nat.zero_le _, Nat.zero_le _⟩ (by omega) dX2_deepen_35 ?_
    refine z_iast S hK hP (CW_D hda _) hS 18 rfl (by decide) (by omega) dX2_deepen_38 (fun H locs hP hS => ?_)
    have hP : va_P D vwCl (CW g a (sA c 13 (upZ (c.2 13) q (min 20 ((c.2 13 q) + by9))))) H := hP
    have hw : CW g a (sA c 13 (upZ (c.2 13) q (min 20 ((c.2 13 q) + by9)))) = CW g a (sA c 13 (upZ (c.2 13) q (dpn c q by9))) := by first | rw [dpn, if_pos (by omega)] | rw [dpn, if_neg (by omega)]
    rw [hw] at hP
    exact z_retv S hr hlk hP hS dX2_deepen_39
  · refine lv_aload_n S.1 S.2.1 dX2_deepen_9 rfl (lv_at hl 0 rfl) ?_
    refine z_get (v := .ref (a 17)) S inA2 hK hP 4 rfl rfl 3 (by decide) fl_X2_28 rfl dX2_deepen_10 ?_
    refine lv_iload_n S.1 S.2.1 dX2_deepen_13 rfl (lv_at hl 1 rfl) ?_
    refine z_iald S hK hP 17 rfl (by decide) (by omega) dX2_deepen_14 ?_
    have hb_4 := hI.r12 q
    refine z_goto (tgt := 20) S dX2_deepen_15 (by decide) ?_
    refine lv_istore_n (lv' := [(3, .int (zI (c.2 12 q))), (0, .ref (a 4)), (1, .int (zI q)), (2, .int (zI by9))]) S.1 S.2.1 dX2_deepen_20 rfl hl (by decide) rfl (fun ls hl => ?_)
    refine lv_aload_n S.1 S.2.1 dX2_deepen_21 rfl (lv_at hl 1 rfl) ?_
    refine z_get (v := .ref (a 18)) S inA2 hK hP 4 rfl rfl 4 (by decide) fl_X2_31 rfl dX2_deepen_22 ?_
    refine lv_iload_n S.1 S.2.1 dX2_deepen_25 rfl (lv_at hl 2 rfl) ?_
    refine lv_iload_n S.1 S.2.1 dX2_deepen_26 rfl (lv_at hl 0 rfl) ?_
    refine lv_aload_n S.1 S.2.1 dX2_deepen_27 rfl (lv_at hl 1 rfl) ?_
    refine z_get (v := .ref (a 18)) S inA2 hK hP 4 rfl rfl 4 (by decide) fl_X2_31 rfl dX2_deepen_28 ?_
    refine lv_iload_n S.1 S.2.1 dX2_deepen_31 rfl (lv_at hl 2 rfl) ?_
    refine z_iald S hK hP 18 rfl (by decide) (by omega) dX2_deepen_32 ?_
    have hb_5 := hI.r13 q
    refine lv_iload_n S.1 S.2.1 dX2_deepen_33 rfl (lv_at hl 3 rfl) ?_
    refine z_iadd S dX2_deepen_34 ?_
    refine z_min S ml_X2_45 hl.1 (Nat.le_of_ble_eq_true rfl) (Nat.le_of_ble_eq_true rfl) ⟨Nat.zero_le _, Nat.zero_le _⟩ (by omega) dX2_deepen_35 ?_
    refine z_iast S hK hP (CW_D hda _) hS 18 rfl (by decide) (by omega) dX2_deepen_38 (fun H locs hP hS => ?_)
    have hP : va_P D vwCl (CW g a (sA c 13 (upZ (c.2 13) q (min (c.2 12 q) ((c.2 13 q) + by9))))) H := hP
    have hw : CW g a (sA c 13 (upZ (c.2 13) q (min (c.2 12 q) ((c.2 13 q) + by9)))) = CW g a (sA c 13 (upZ (c.2 13) q (dpn c q by9))) := by first | rw [dpn, if_pos (by omega)] | rw [dpn, if_neg (by omega)]
    rw [hw] at hP
    exact z_retv S hr hlk hP hS dX2_deepen_39
set_option maxHeartbeats 4000000 in
set_option maxRecDepth 100000 in
theorem m_X2_slip (l : Launch) (D : va_G) (g : ClassId × ClassId × ClassId) (q : Int) (d : Int) : RD l yX2_slip cX2_slip 2 (some .int) 0 0 D g [] [.int (zI q), .int (zI d)] (q * 5 + d) := by
  refine z_enter RX2 (by decide) rfl (Nat.le_of_ble_eq_true rfl) ?_
  intro p e s m args below meth co S hr hlk hK hP ls hl
  have hl : lv_has ls 2 [(0, .int (zI q)), (1, .int (zI d))] := hl
  refine lv_iload_n S.1 S.2.1 dX2_slip_0 rfl (lv_at hl 0 rfl) ?_
  refine z_iconst S dX2_slip_1 ?_
  refine z_imul S dX2_slip_2 ?_
  refine lv_iload_n S.1 S.2.1 dX2_slip_3 rfl (lv_at hl 1 rfl) ?_
  refine z_iadd S dX2_slip_4 ?_
  exact z_ret S hr hlk (by first | rfl | grind) dX2_slip_5
set_option maxHeartbeats 4000000 in
set_option maxRecDepth 100000 in
theorem m_X2_hasBet (l : Launch) (D : va_G) (g : ClassId × ClassId × ClassId) (a : Nat → Nat) {B : Int} (c : CS) (hI : IC B c) (q : Int) (d : Int) (h0 : 0 ≤ q ∧ q < 10) (h1 : 0 ≤ d ∧ d < 5) : RD l yX2_hasBet cX2_hasBet 3 (some .boolean) 1 21 D g (CW g a c) [.ref (a 4), .int (zI q), .int (zI d)] (b01 (0 < c.2 14 (q * 5 + d))) := by
  refine z_enter RX2 (by decide) rfl (Nat.le_of_ble_eq_true rfl) ?_
  intro p e s m args below meth co S hr hlk hK hP ls hl
  have hl : lv_has ls 3 [(0, .ref (a 4)), (1, .int (zI q)), (2, .int (zI d))] := hl
  have hs := hI.s
  refine lv_aload_n S.1 S.2.1 dX2_hasBet_0 rfl (lv_at hl 0 rfl) ?_
  refine z_get (v := .ref (a 19)) S inA2 hK hP 4 rfl rfl 5 (by decide) fl_X2_34 rfl dX2_hasBet_1 ?_
  refine lv_iload_n S.1 S.2.1 dX2_hasBet_4 rfl (lv_at hl 1 rfl) ?_
  refine lv_iload_n S.1 S.2.1 dX2_hasBet_5 rfl (lv_at hl 2 rfl) ?_
  refine z_rS (As := [.int (zI q), .int (zI d)]) (rest := [.ref (a 19)]) S (m_X2_slip l D g q d) ml_X2_51 sm_X2_slip ini_X2 cd_X2_slip ds_X2_slip ⟨Nat.le_of_ble_eq_true rfl, Nat.le_of_ble_eq_true rfl⟩ hK va_P_nil rfl hl.1 rfl (Nat.le_of_ble_eq_true rfl) ⟨Nat.zero_le _, Nat.zero_le _⟩ dX2_hasBet_6 ?_
  refine z_iald S hK hP 19 rfl (by decide) (by omega) dX2_hasBet_9 ?_
  have hb_1 := hI.r14 (q * 5 + d)
  refine z_if_le (tgt := 17) S dX2_hasBet_10 (by decide) (by omega) (fun h_2 => ?_) (fun h_2 => ?_)
  · refine z_iconst S dX2_hasBet_17 ?_
    exact z_retb S hr hlk (Or.inl rfl) ((b01_f (by omega)).symm) dX2_hasBet_18
  · refine z_iconst S dX2_hasBet_13 ?_
    refine z_goto (tgt := 18) S dX2_hasBet_14 (by decide) ?_
    exact z_retb S hr hlk (Or.inr rfl) ((b01_t (by omega)).symm) dX2_hasBet_18
set_option maxHeartbeats 4000000 in
set_option maxRecDepth 100000 in
theorem m_X2_takeBet (l : Launch) (D : va_G) (g : ClassId × ClassId × ClassId) (a : Nat → Nat) {B : Int} (c : CS) (hI : IC B c) (hda : CD 21 a) (q : Int) (d : Int) (co9 : Int) (f : Int) (h0 : 0 ≤ q ∧ q < 10) (h1 : 0 ≤ d ∧ d < 5) (h2 : 0 ≤ f ∧ f ≤ 1) : WRv l yX2_takeBet cX2_takeBet 5 none 1 21 D g (CA 21 a) (CW g a c) [.ref (a 4), .int (zI q), .int (zI d), .int (zI co9), .int (zI f)] (CW g a (sA (sA c 14 (upZ (c.2 14) (q * 5 + d) co9)) 15 (upZ (c.2 15) (q * 5 + d) f))) := by
  refine z_enter RX2 (by decide) rfl (Nat.le_of_ble_eq_true rfl) ?_
  intro p e s m args below meth co S hr hlk hK hP ls hl
  have hl : lv_has ls 5 [(0, .ref (a 4)), (1, .int (zI q)), (2, .int (zI d)), (3, .int (zI co9)), (4, .int (zI f))] := hl
  have hs := hI.s
  have hS : va_S (CA 21 a) s.heap s.heap [] := va_S.rf
  refine lv_aload_n S.1 S.2.1 dX2_takeBet_0 rfl (lv_at hl 0 rfl) ?_
  refine z_get (v := .ref (a 19)) S inA2 hK hP 4 rfl rfl 5 (by decide) fl_X2_34 rfl dX2_takeBet_1 ?_
  refine lv_iload_n S.1 S.2.1 dX2_takeBet_4 rfl (lv_at hl 1 rfl) ?_
  refine lv_iload_n S.1 S.2.1 dX2_takeBet_5 rfl (lv_at hl 2 rfl) ?_
  refine z_rS (As := [.int (zI q), .int (zI d)]) (rest := [.ref (a 19)]) S (m_X2_slip l D g q d) ml_X2_51 sm_X2_slip ini_X2 cd_X2_slip ds_X2_slip ⟨Nat.le_of_ble_eq_true rfl, Nat.le_of_ble_eq_true rfl⟩ hK va_P_nil rfl hl.1 rfl (Nat.le_of_ble_eq_true rfl) ⟨Nat.zero_le _, Nat.zero_le _⟩ dX2_takeBet_6 ?_
  refine lv_iload_n S.1 S.2.1 dX2_takeBet_9 rfl (lv_at hl 3 rfl) ?_
  refine z_iast S hK hP (CW_D hda _) hS 19 rfl (by decide) (by omega) dX2_takeBet_10 (fun H locs hP hS => ?_)
  have hP : va_P D vwCl (CW g a (sA c 14 (upZ (c.2 14) (q * 5 + d) co9))) H := hP
  refine lv_aload_n S.1 S.2.1 dX2_takeBet_11 rfl (lv_at hl 0 rfl) ?_
  refine z_get (v := .ref (a 20)) S inA2 hK hP 4 rfl rfl 6 (by decide) fl_X2_37 rfl dX2_takeBet_12 ?_
  refine lv_iload_n S.1 S.2.1 dX2_takeBet_15 rfl (lv_at hl 1 rfl) ?_
  refine lv_iload_n S.1 S.2.1 dX2_takeBet_16 rfl (lv_at hl 2 rfl) ?_
  refine z_rS (As := [.int (zI q), .int (zI d)]) (rest := [.ref (a 20)]) S (m_X2_slip l D g q d) ml_X2_51 sm_X2_slip ini_X2 cd_X2_slip ds_X2_slip ⟨Nat.le_of_ble_eq_true rfl, Nat.le_of_ble_eq_true rfl⟩ hK va_P_nil rfl hl.1 rfl (Nat.le_of_ble_eq_true rfl) ⟨Nat.zero_le _, Nat.zero_le _⟩ dX2_takeBet_17 ?_
  refine lv_iload S.1 S.2.1 dX2_takeBet_20 (lv_at hl 4 rfl) ?_
  refine z_zast S hK hP (CW_D hda _) hS 20 rfl (by decide) (by omega) (by omega) dX2_takeBet_22 (fun H locs hP hS => ?_)
  have hP : va_P D vwCl (CW g a (sA (sA c 14 (upZ (c.2 14) (q * 5 + d) co9)) 15 (upZ (c.2 15) (q * 5 + d) f))) H := hP
  have hw : CW g a (sA (sA c 14 (upZ (c.2 14) (q * 5 + d) co9)) 15 (upZ (c.2 15) (q * 5 + d) f)) = CW g a (sA (sA c 14 (upZ (c.2 14) (q * 5 + d) co9)) 15 (upZ (c.2 15) (q * 5 + d) f)) := by exact rfl
  rw [hw] at hP
  exact z_retv S hr hlk hP hS dX2_takeBet_23
set_option maxHeartbeats 4000000 in
set_option maxRecDepth 100000 in
theorem m_X2_stakeOn (l : Launch) (D : va_G) (g : ClassId × ClassId × ClassId) (a : Nat → Nat) {B : Int} (c : CS) (hI : IC B c) (q : Int) (d : Int) (f : Int) (h0 : 0 ≤ q ∧ q < 10) (h1 : 0 ≤ d ∧ d < 5) (h2 : 0 ≤ f ∧ f ≤ 1) : RD l yX2_stakeOn cX2_stakeOn 5 (some .int) 1 21 D g (CW g a c) [.ref (a 4), .int (zI q), .int (zI d), .int (zI f)] (stk c q d f) := by
  refine z_enter RX2 (by decide) rfl (Nat.le_of_ble_eq_true rfl) ?_
  intro p e s m args below meth co S hr hlk hK hP ls hl
  have hl : lv_has ls 5 [(0, .ref (a 4)), (1, .int (zI q)), (2, .int (zI d)), (3, .int (zI f))] := hl
  have hs := hI.s
  refine lv_iload_n S.1 S.2.1 dX2_stakeOn_0 rfl (lv_at hl 1 rfl) ?_
  refine lv_iload_n S.1 S.2.1 dX2_stakeOn_1 rfl (lv_at hl 2 rfl) ?_
  refine z_rS (As := [.int (zI q), .int (zI d)]) (rest := []) S (m_X2_slip l D g q d) ml_X2_51 sm_X2_slip ini_X2 cd_X2_slip ds_X2_slip ⟨Nat.le_of_ble_eq_true rfl, Nat.le_of_ble_eq_true rfl⟩ hK va_P_nil rfl hl.1 rfl (Nat.le_of_ble_eq_true rfl) ⟨Nat.zero_le _, Nat.zero_le _⟩ dX2_stakeOn_2 ?_
  refine lv_istore (lv' := [(4, .int (zI (q * 5 + d))), (0, .ref (a 4)), (1, .int (zI q)), (2, .int (zI d)), (3, .int (zI f))]) S.1 S.2.1 dX2_stakeOn_5 hl (by decide) rfl (fun ls hl => ?_)
  refine lv_aload_n S.1 S.2.1 dX2_stakeOn_7 rfl (lv_at hl 1 rfl) ?_
  refine z_get (v := .ref (a 20)) S inA2 hK hP 4 rfl rfl 6 (by decide) fl_X2_37 rfl dX2_stakeOn_8 ?_
  refine lv_iload S.1 S.2.1 dX2_stakeOn_11 (lv_at hl 0 rfl) ?_
  refine z_zald S hK hP 20 rfl (by decide) (by omega) dX2_stakeOn_13 ?_
  have hb_1 := hI.r15 (q * 5 + d)
  refine lv_iload_n S.1 S.2.1 dX2_stakeOn_14 rfl (lv_at hl 4 rfl) ?_
  refine z_icmp_ne (tgt := 28) S dX2_stakeOn_15 (by decide) (by omega) (fun h_2 => ?_) (fun h_2 => ?_)
  · refine z_iconst S dX2_stakeOn_28 ?_
    exact z_ret S hr hlk (by grind [stk]) dX2_stakeOn_29
  · refine lv_aload_n S.1 S.2.1 dX2_stakeOn_18 rfl (lv_at hl 1 rfl) ?_
    refine z_get (v := .ref (a 19)) S inA2 hK hP 4 rfl rfl 5 (by decide) fl_X2_34 rfl dX2_stakeOn_19 ?_
    refine lv_iload S.1 S.2.1 dX2_stakeOn_22 (lv_at hl 0 rfl) ?_
    refine z_iald S hK hP 19 rfl (by decide) (by omega) dX2_stakeOn_24 ?_
    have hb_3 := hI.r14 (q * 5 + d)
    refine z_goto (tgt := 29) S dX2_stakeOn_25 (by decide) ?_
    exact z_ret S hr hlk (by grind [stk]) dX2_stakeOn_29
set_option maxHeartbeats 4000000 in
set_option maxRecDepth 100000 in
theorem m_X2_stakedOn (l : Launch) (D : va_G) (g : ClassId × ClassId × ClassId) (a : Nat → Nat) {B : Int} (c : CS) (hI : IC B c) (q : Int) (f : Int) (h0 : 0 ≤ q ∧ q < 10) (h2 : 0 ≤ f ∧ f ≤ 1) : RD l yX2_stakedOn cX2_stakedOn 5 (some .int) 2 45 D g (CW g a c) [.ref (a 4), .int (zI q), .int (zI f)] (stOn c q f) := by
  refine z_enter RX2 (by decide) rfl (Nat.le_of_ble_eq_true rfl) ?_
  intro p e s m args below meth co S hr hlk hK hP ls hl
  have hl : lv_has ls 5 [(0, .ref (a 4)), (1, .int (zI q)), (2, .int (zI f))] := hl
  have hs := hI.s
  refine z_iconst S dX2_stakedOn_0 ?_
  refine lv_istore_n (lv' := [(3, .int (zI 0)), (0, .ref (a 4)), (1, .int (zI q)), (2, .int (zI f))]) S.1 S.2.1 dX2_stakedOn_1 rfl hl (by decide) rfl (fun ls hl => ?_)
  refine z_iconst S dX2_stakedOn_2 ?_
  refine lv_istore (lv' := [(4, .int (zI 0)), (3, .int (zI 0)), (0, .ref (a 4)), (1, .int (zI q)), (2, .int (zI f))]) S.1 S.2.1 dX2_stakedOn_3 hl (by decide) rfl (fun ls hl => ?_)
  refine z_for (nL := 5) (5) (fun (k5 : Nat) => [(4, .int (zI (k5 : Int))), (3, .int (zI (sm (fun d => stk c q d f) k5))), (0, .ref (a 4)), (1, .int (zI q)), (2, .int (zI f))]) (fun k5 => True) (fun k5 hk5 hJ5 ls hl ih5 => ?_) (fun hJ5 ls hl => ?_) 0 (by omega) trivial ls (lv_sub hl [0, 1, 2, 3, 4] rfl)
  · have hl : lv_has ls 5 [(4, .int (zI (k5 : Int))), (3, .int (zI (sm (fun d => stk c q d f) k5))), (0, .ref (a 4)), (1, .int (zI q)), (2, .int (zI f))] := hl
    refine lv_iload S.1 S.2.1 dX2_stakedOn_5 (lv_at hl 0 rfl) ?_
    refine z_iconst S dX2_stakedOn_7 ?_
    refine z_icmp_ge (tgt := 28) S dX2_stakedOn_8 (by decide) (by omega) (fun h_1 => ?_) (fun h_1 => ?_)
    · exact absurd h_1 (by omega)
    · refine lv_iload_n S.1 S.2.1 dX2_stakedOn_11 rfl (lv_at hl 1 rfl) ?_
      refine lv_aload_n S.1 S.2.1 dX2_stakedOn_12 rfl (lv_at hl 2 rfl) ?_
      refine lv_iload_n S.1 S.2.1 dX2_stakedOn_13 rfl (lv_at hl 3 rfl) ?_
      refine lv_iload S.1 S.2.1 dX2_stakedOn_14 (lv_at hl 0 rfl) ?_
      refine lv_iload_n S.1 S.2.1 dX2_stakedOn_16 rfl (lv_at hl 4 rfl) ?_
      refine z_rV (As := [.int (zI q), .int (zI (k5 : Int)), .int (zI f)]) (rest := [.int (zI (sm (fun d => stk c q d f) k5))]) S (m_X2_stakeOn l D g a c hI q (k5 : Int) f (by omega) (by omega) (by omega)) ml_X2_54 im_X2_stakeOn se_X2_stakeOn ini_X2 cd_X2_stakeOn ds_X2_stakeOn ⟨Nat.le_of_ble_eq_true rfl, Nat.le_of_ble_eq_true rfl⟩ hK hP (va_recv hK.1 hP (ci := 2) (q0 := 4) rfl rfl) rfl hl.1 rfl (Nat.le_of_ble_eq_true rfl) ⟨Nat.zero_le _, Nat.zero_le _⟩ dX2_stakedOn_17 ?_
      refine z_iadd S dX2_stakedOn_20 ?_
      refine lv_istore_n (lv' := [(3, .int (zI ((sm (fun d => stk c q d f) k5) + (stk c q (k5 : Int) f)))), (4, .int (zI (k5 : Int))), (0, .ref (a 4)), (1, .int (zI q)), (2, .int (zI f))]) S.1 S.2.1 dX2_stakedOn_21 rfl hl (by decide) rfl (fun ls hl => ?_)
      refine z_iinc (lv' := [(4, .int (zI ((k5 : Int) + 1))), (3, .int (zI ((sm (fun d => stk c q d f) k5) + (stk c q (k5 : Int) f)))), (0, .ref (a 4)), (1, .int (zI q)), (2, .int (zI f))]) S dX2_stakedOn_22 hl (k := 1) rfl (by decide) rfl (fun ls hl => ?_)
      refine z_goto (tgt := 5) S dX2_stakedOn_25 (by decide) ?_
      exact ih5 _ (lv_sub hl [0, 1, 2, 3, 4] rfl) trivial
  · have hl : lv_has ls 5 [(4, .int (zI ((5 : Nat) : Int))), (3, .int (zI (sm (fun d => stk c q d f) 5))), (0, .ref (a 4)), (1, .int (zI q)), (2, .int (zI f))] := hl
    refine lv_iload S.1 S.2.1 dX2_stakedOn_5 (lv_at hl 0 rfl) ?_
    refine z_iconst S dX2_stakedOn_7 ?_
    refine z_icmp_ge (tgt := 28) S dX2_stakedOn_8 (by decide) (by omega) (fun h_2 => ?_) (fun h_2 => ?_)
    · refine lv_iload_n S.1 S.2.1 dX2_stakedOn_28 rfl (lv_at hl 1 rfl) ?_
      exact z_ret S hr hlk (by first | rfl | grind) dX2_stakedOn_29
    · exact absurd h_2 (by omega)
set_option maxHeartbeats 4000000 in
set_option maxRecDepth 100000 in
theorem m_X2_allStaked (l : Launch) (D : va_G) (g : ClassId × ClassId × ClassId) (a : Nat → Nat) {B : Int} (c : CS) (hI : IC B c) (q : Int) (h0 : 0 ≤ q ∧ q < 10) : RD l yX2_allStaked cX2_allStaked 2 (some .int) 3 69 D g (CW g a c) [.ref (a 4), .int (zI q)] (allS c q) := by
  refine z_enter RX2 (by decide) rfl (Nat.le_of_ble_eq_true rfl) ?_
  intro p e s m args below meth co S hr hlk hK hP ls hl
  have hl : lv_has ls 2 [(0, .ref (a 4)), (1, .int (zI q))] := hl
  have hs := hI.s
  refine lv_aload_n S.1 S.2.1 dX2_allStaked_0 rfl (lv_at hl 0 rfl) ?_
  refine lv_iload_n S.1 S.2.1 dX2_allStaked_1 rfl (lv_at hl 1 rfl) ?_
  refine z_iconst S dX2_allStaked_2 ?_
  refine z_rV (As := [.int (zI q), .int (zI 1)]) (rest := []) S (m_X2_stakedOn l D g a c hI q 1 (by omega) (by omega)) ml_X2_58 im_X2_stakedOn se_X2_stakedOn ini_X2 cd_X2_stakedOn ds_X2_stakedOn ⟨Nat.le_of_ble_eq_true rfl, Nat.le_of_ble_eq_true rfl⟩ hK hP (va_recv hK.1 hP (ci := 2) (q0 := 4) rfl rfl) rfl hl.1 rfl (Nat.le_of_ble_eq_true rfl) ⟨Nat.zero_le _, Nat.zero_le _⟩ dX2_allStaked_3 ?_
  refine lv_aload_n S.1 S.2.1 dX2_allStaked_6 rfl (lv_at hl 0 rfl) ?_
  refine lv_iload_n S.1 S.2.1 dX2_allStaked_7 rfl (lv_at hl 1 rfl) ?_
  refine z_iconst S dX2_allStaked_8 ?_
  refine z_rV (As := [.int (zI q), .int (zI 0)]) (rest := [.int (zI (stOn c q 1))]) S (m_X2_stakedOn l D g a c hI q 0 (by omega) (by omega)) ml_X2_58 im_X2_stakedOn se_X2_stakedOn ini_X2 cd_X2_stakedOn ds_X2_stakedOn ⟨Nat.le_of_ble_eq_true rfl, Nat.le_of_ble_eq_true rfl⟩ hK hP (va_recv hK.1 hP (ci := 2) (q0 := 4) rfl rfl) rfl hl.1 rfl (Nat.le_of_ble_eq_true rfl) ⟨Nat.zero_le _, Nat.zero_le _⟩ dX2_allStaked_9 ?_
  refine z_iadd S dX2_allStaked_12 ?_
  exact z_ret S hr hlk (by first | rfl | grind) dX2_allStaked_13
set_option maxHeartbeats 4000000 in
set_option maxRecDepth 100000 in
theorem m_X2_share (l : Launch) (D : va_G) (g : ClassId × ClassId × ClassId) (a : Nat → Nat) {B : Int} (c : CS) (hI : IC B c) (q : Int) (d : Int) (f : Int) (h0 : 0 ≤ q ∧ q < 10) (h1 : 0 ≤ d ∧ d < 5) (h2 : 0 ≤ f ∧ f ≤ 1) : RD l yX2_share cX2_share 4 (some .int) 4 90 D g (CW g a c) [.ref (a 4), .int (zI q), .int (zI d), .int (zI f)] (shr c q d f) := by
  refine z_enter RX2 (by decide) rfl (Nat.le_of_ble_eq_true rfl) ?_
  intro p e s m args below meth co S hr hlk hK hP ls hl
  have hl : lv_has ls 4 [(0, .ref (a 4)), (1, .int (zI q)), (2, .int (zI d)), (3, .int (zI f))] := hl
  have hs := hI.s
  have hb1 := shr_b hI q d f
  have hb2 := stOn_b hI q f
  refine lv_aload_n S.1 S.2.1 dX2_share_0 rfl (lv_at hl 0 rfl) ?_
  refine lv_iload_n S.1 S.2.1 dX2_share_1 rfl (lv_at hl 1 rfl) ?_
  refine z_rV (As := [.int (zI q)]) (rest := []) S (m_X2_allStaked l D g a c hI q (by omega)) ml_X2_62 im_X2_allStaked se_X2_allStaked ini_X2 cd_X2_allStaked ds_X2_allStaked ⟨Nat.le_of_ble_eq_true rfl, Nat.le_of_ble_eq_true rfl⟩ hK hP (va_recv hK.1 hP (ci := 2) (q0 := 4) rfl rfl) rfl hl.1 rfl (Nat.le_of_ble_eq_true rfl) ⟨Nat.zero_le _, Nat.zero_le _⟩ dX2_share_2 ?_
  refine lv_aload_n S.1 S.2.1 dX2_share_5 rfl (lv_at hl 0 rfl) ?_
  refine lv_iload_n S.1 S.2.1 dX2_share_6 rfl (lv_at hl 1 rfl) ?_
  refine lv_iload_n S.1 S.2.1 dX2_share_7 rfl (lv_at hl 2 rfl) ?_
  refine lv_iload_n S.1 S.2.1 dX2_share_8 rfl (lv_at hl 3 rfl) ?_
  refine z_rV (As := [.int (zI q), .int (zI d), .int (zI f)]) (rest := [.int (zI (allS c q))]) S (m_X2_stakeOn l D g a c hI q d f (by omega) (by omega) (by omega)) ml_X2_54 im_X2_stakeOn se_X2_stakeOn ini_X2 cd_X2_stakeOn ds_X2_stakeOn ⟨Nat.le_of_ble_eq_true rfl, Nat.le_of_ble_eq_true rfl⟩ hK hP (va_recv hK.1 hP (ci := 2) (q0 := 4) rfl rfl) rfl hl.1 rfl (Nat.le_of_ble_eq_true rfl) ⟨Nat.zero_le _, Nat.zero_le _⟩ dX2_share_9 ?_
  refine z_imul S dX2_share_12 ?_
  refine lv_aload_n S.1 S.2.1 dX2_share_13 rfl (lv_at hl 0 rfl) ?_
  refine lv_iload_n S.1 S.2.1 dX2_share_14 rfl (lv_at hl 1 rfl) ?_
  refine lv_iload_n S.1 S.2.1 dX2_share_15 rfl (lv_at hl 3 rfl) ?_
  refine z_rV (As := [.int (zI q), .int (zI f)]) (rest := [.int (zI ((allS c q) * (stk c q d f)))]) S (m_X2_stakedOn l D g a c hI q f (by omega) (by omega)) ml_X2_58 im_X2_stakedOn se_X2_stakedOn ini_X2 cd_X2_stakedOn ds_X2_stakedOn ⟨Nat.le_of_ble_eq_true rfl, Nat.le_of_ble_eq_true rfl⟩ hK hP (va_recv hK.1 hP (ci := 2) (q0 := 4) rfl rfl) rfl hl.1 rfl (Nat.le_of_ble_eq_true rfl) ⟨Nat.zero_le _, Nat.zero_le _⟩ dX2_share_16 ?_
  refine z_rN (As := [.int (zI ((allS c q) * (stk c q d f))), .int (zI (stOn c q f))]) (rest := []) S (m_X4_quotient l D g ((allS c q) * (stk c q d f)) (stOn c q f) (by omega)) nw_X2_66 sm_X4_quotient ini_X4 cd_X4_quotient ds_X4_quotient ⟨Nat.le_of_ble_eq_true rfl, Nat.le_of_ble_eq_true rfl⟩ hK va_P_nil rfl hl.1 rfl (Nat.le_of_ble_eq_true rfl) ⟨Nat.zero_le _, Nat.zero_le _⟩ dX2_share_19 ?_
  exact z_ret S hr hlk (by first | rfl | grind) dX2_share_22
set_option maxHeartbeats 4000000 in
set_option maxRecDepth 100000 in
theorem m_X2_unpaidOf (l : Launch) (D : va_G) (g : ClassId × ClassId × ClassId) (a : Nat → Nat) {B : Int} (c : CS) (hI : IC B c) (d : Int) (h1 : 0 ≤ d ∧ d < 5) : RD l yX2_unpaidOf cX2_unpaidOf 4 (some .int) 2 42 D g (CW g a c) [.ref (a 4), .int (zI d)] (unp c d) := by
  refine z_enter RX2 (by decide) rfl (Nat.le_of_ble_eq_true rfl) ?_
  intro p e s m args below meth co S hr hlk hK hP ls hl
  have hl : lv_has ls 4 [(0, .ref (a 4)), (1, .int (zI d))] := hl
  have hs := hI.s
  refine z_iconst S dX2_unpaidOf_0 ?_
  refine lv_istore_n (lv' := [(2, .int (zI 0)), (0, .ref (a 4)), (1, .int (zI d))]) S.1 S.2.1 dX2_unpaidOf_1 rfl hl (by decide) rfl (fun ls hl => ?_)
  refine z_iconst S dX2_unpaidOf_2 ?_
  refine lv_istore_n (lv' := [(3, .int (zI 0)), (2, .int (zI 0)), (0, .ref (a 4)), (1, .int (zI d))]) S.1 S.2.1 dX2_unpaidOf_3 rfl hl (by decide) rfl (fun ls hl => ?_)
  refine z_for (nL := 4) ((c.1 5).toNat) (fun (k4 : Nat) => [(3, .int (zI (k4 : Int))), (2, .int (zI (sm (fun q => if over c q then 0 else c.2 14 (q * 5 + d)) k4))), (0, .ref (a 4)), (1, .int (zI d))]) (fun k4 => True) (fun k4 hk4 hJ4 ls hl ih4 => ?_) (fun hJ4 ls hl => ?_) 0 (by omega) trivial ls (lv_sub hl [0, 1, 2, 3] rfl)
  · have hl : lv_has ls 4 [(3, .int (zI (k4 : Int))), (2, .int (zI (sm (fun q => if over c q then 0 else c.2 14 (q * 5 + d)) k4))), (0, .ref (a 4)), (1, .int (zI d))] := hl
    refine lv_iload_n S.1 S.2.1 dX2_unpaidOf_4 rfl (lv_at hl 0 rfl) ?_
    refine lv_aload_n S.1 S.2.1 dX2_unpaidOf_5 rfl (lv_at hl 2 rfl) ?_
    refine z_get (v := .int (zI (c.1 5))) S inA2 hK hP 4 rfl rfl 0 (by decide) fl_X2_9 rfl dX2_unpaidOf_6 ?_
    refine z_icmp_ge (tgt := 39) S dX2_unpaidOf_9 (by decide) (by omega) (fun h_1 => ?_) (fun h_1 => ?_)
    · exact absurd h_1 (by omega)
    · refine lv_aload_n S.1 S.2.1 dX2_unpaidOf_12 rfl (lv_at hl 2 rfl) ?_
      refine lv_iload_n S.1 S.2.1 dX2_unpaidOf_13 rfl (lv_at hl 0 rfl) ?_
      refine z_rV (As := [.int (zI (k4 : Int))]) (rest := []) S (m_X2_isOver l D g a c hI (k4 : Int) (by omega)) ml_X2_69 im_X2_isOver se_X2_isOver ini_X2 cd_X2_isOver ds_X2_isOver ⟨Nat.le_of_ble_eq_true rfl, Nat.le_of_ble_eq_true rfl⟩ hK hP (va_recv hK.1 hP (ci := 2) (q0 := 4) rfl rfl) rfl hl.1 rfl (Nat.le_of_ble_eq_true rfl) ⟨Nat.zero_le _, Nat.zero_le _⟩ dX2_unpaidOf_14 ?_
      refine z_ifb_ne (tgt := 33) S dX2_unpaidOf_17 (by decide) (fun h_2 => ?_) (fun h_2 => ?_)
      · refine z_iinc (lv' := [(3, .int (zI ((k4 : Int) + 1))), (2, .int (zI (sm (fun q => if over c q then 0 else c.2 14 (q * 5 + d)) k4))), (0, .ref (a 4)), (1, .int (zI d))]) S dX2_unpaidOf_33 hl (k := 0) rfl (by decide) rfl (fun ls hl => ?_)
        refine z_goto (tgt := 4) S dX2_unpaidOf_36 (by decide) ?_
        have e_3 : sm (fun q => if over c q then 0 else c.2 14 (q * 5 + d)) (k4 + 1) = sm (fun q => if over c q then 0 else c.2 14 (q * 5 + d)) k4 := by grind [sm, b01]
        exact ih4 _ (lv_sub hl [0, 1, 2, 3] (by show _ = ([(3, .int (zI ((k4 + 1 : Nat) : Int))), (2, .int (zI (sm (fun q => if over c q then 0 else c.2 14 (q * 5 + d)) (k4 + 1)))), (0, .ref (a 4)), (1, .int (zI d))] : List (Nat × Value)); rw [e_3]; first | done | rfl)) trivial
      · refine lv_iload_n S.1 S.2.1 dX2_unpaidOf_20 rfl (lv_at hl 1 rfl) ?_
        refine lv_aload_n S.1 S.2.1 dX2_unpaidOf_21 rfl (lv_at hl 2 rfl) ?_
        refine z_get (v := .ref (a 19)) S inA2 hK hP 4 rfl rfl 5 (by decide) fl_X2_34 rfl dX2_unpaidOf_22 ?_
        refine lv_iload_n S.1 S.2.1 dX2_unpaidOf_25 rfl (lv_at hl 0 rfl) ?_
        refine lv_iload_n S.1 S.2.1 dX2_unpaidOf_26 rfl (lv_at hl 3 rfl) ?_
        refine z_rS (As := [.int (zI (k4 : Int)), .int (zI d)]) (rest := [.ref (a 19), .int (zI (sm (fun q => if over c q then 0 else c.2 14 (q * 5 + d)) k4))]) S (m_X2_slip l D g (k4 : Int) d) ml_X2_51 sm_X2_slip ini_X2 cd_X2_slip ds_X2_slip ⟨Nat.le_of_ble_eq_true rfl, Nat.le_of_ble_eq_true rfl⟩ hK va_P_nil rfl hl.1 rfl (Nat.le_of_ble_eq_true rfl) ⟨Nat.zero_le _, Nat.zero_le _⟩ dX2_unpaidOf_27 ?_
        refine z_iald S hK hP 19 rfl (by decide) (by omega) dX2_unpaidOf_30 ?_
        have hb_4 := hI.r14 ((k4 : Int) * 5 + d)
        refine z_iadd S dX2_unpaidOf_31 ?_
        refine lv_istore_n (lv' := [(2, .int (zI ((sm (fun q => if over c q then 0 else c.2 14 (q * 5 + d)) k4) + (c.2 14 ((k4 : Int) * 5 + d))))), (3, .int (zI (k4 : Int))), (0, .ref (a 4)), (1, .int (zI d))]) S.1 S.2.1 dX2_unpaidOf_32 rfl hl (by decide) rfl (fun ls hl => ?_)
        refine z_iinc (lv' := [(3, .int (zI ((k4 : Int) + 1))), (2, .int (zI ((sm (fun q => if over c q then 0 else c.2 14 (q * 5 + d)) k4) + (c.2 14 ((k4 : Int) * 5 + d))))), (0, .ref (a 4)), (1, .int (zI d))]) S dX2_unpaidOf_33 hl (k := 1) rfl (by decide) rfl (fun ls hl => ?_)
        refine z_goto (tgt := 4) S dX2_unpaidOf_36 (by decide) ?_
        have e_5 : sm (fun q => if over c q then 0 else c.2 14 (q * 5 + d)) (k4 + 1) = (sm (fun q => if over c q then 0 else c.2 14 (q * 5 + d)) k4) + (c.2 14 ((k4 : Int) * 5 + d)) := by grind [sm, b01]
        exact ih4 _ (lv_sub hl [0, 1, 2, 3] (by show _ = ([(3, .int (zI ((k4 + 1 : Nat) : Int))), (2, .int (zI (sm (fun q => if over c q then 0 else c.2 14 (q * 5 + d)) (k4 + 1)))), (0, .ref (a 4)), (1, .int (zI d))] : List (Nat × Value)); rw [e_5]; first | done | rfl)) trivial
  · have hl : lv_has ls 4 [(3, .int (zI (((c.1 5).toNat : Nat) : Int))), (2, .int (zI (sm (fun q => if over c q then 0 else c.2 14 (q * 5 + d)) ((c.1 5).toNat)))), (0, .ref (a 4)), (1, .int (zI d))] := hl
    refine lv_iload_n S.1 S.2.1 dX2_unpaidOf_4 rfl (lv_at hl 0 rfl) ?_
    refine lv_aload_n S.1 S.2.1 dX2_unpaidOf_5 rfl (lv_at hl 2 rfl) ?_
    refine z_get (v := .int (zI (c.1 5))) S inA2 hK hP 4 rfl rfl 0 (by decide) fl_X2_9 rfl dX2_unpaidOf_6 ?_
    refine z_icmp_ge (tgt := 39) S dX2_unpaidOf_9 (by decide) (by omega) (fun h_6 => ?_) (fun h_6 => ?_)
    · refine lv_iload_n S.1 S.2.1 dX2_unpaidOf_39 rfl (lv_at hl 1 rfl) ?_
      exact z_ret S hr hlk (by first | rfl | grind) dX2_unpaidOf_40
    · exact absurd h_6 (by omega)
set_option maxHeartbeats 4000000 in
set_option maxRecDepth 100000 in
theorem m_X2_paidBetsOf (l : Launch) (D : va_G) (g : ClassId × ClassId × ClassId) (a : Nat → Nat) {B : Int} (c : CS) (hI : IC B c) (d : Int) (rt : Int) (h1 : 0 ≤ d ∧ d < 5) (h2 : 0 ≤ rt ∧ rt ≤ 1) : RD l yX2_paidBetsOf cX2_paidBetsOf 6 (some .int) 2 43 D g (CW g a c) [.ref (a 4), .int (zI d), .int (zI rt)] (pbets c d rt) := by
  refine z_enter RX2 (by decide) rfl (Nat.le_of_ble_eq_true rfl) ?_
  intro p e s m args below meth co S hr hlk hK hP ls hl
  have hl : lv_has ls 6 [(0, .ref (a 4)), (1, .int (zI d)), (2, .int (zI rt))] := hl
  have hs := hI.s
  refine z_iconst S dX2_paidBetsOf_0 ?_
  refine lv_istore_n (lv' := [(3, .int (zI 0)), (0, .ref (a 4)), (1, .int (zI d)), (2, .int (zI rt))]) S.1 S.2.1 dX2_paidBetsOf_1 rfl hl (by decide) rfl (fun ls hl => ?_)
  refine z_iconst S dX2_paidBetsOf_2 ?_
  refine lv_istore (lv' := [(4, .int (zI 0)), (3, .int (zI 0)), (0, .ref (a 4)), (1, .int (zI d)), (2, .int (zI rt))]) S.1 S.2.1 dX2_paidBetsOf_3 hl (by decide) rfl (fun ls hl => ?_)
  refine z_for (nL := 6) ((c.1 5).toNat) (fun (k5 : Nat) => [(4, .int (zI (k5 : Int))), (3, .int (zI (sm (fun q => b01 ((over c q ∧ 0 < c.2 14 (q * 5 + d)) ∧ b01 (c.2 15 (q * 5 + d) = b01 (fnd c q)) = rt)) k5))), (0, .ref (a 4)), (1, .int (zI d)), (2, .int (zI rt))]) (fun k5 => True) (fun k5 hk5 hJ5 ls hl ih5 => ?_) (fun hJ5 ls hl => ?_) 0 (by omega) trivial ls (lv_sub hl [0, 1, 2, 3, 4] rfl)
  · have hl : lv_has ls 6 [(4, .int (zI (k5 : Int))), (3, .int (zI (sm (fun q => b01 ((over c q ∧ 0 < c.2 14 (q * 5 + d)) ∧ b01 (c.2 15 (q * 5 + d) = b01 (fnd c q)) = rt)) k5))), (0, .ref (a 4)), (1, .int (zI d)), (2, .int (zI rt))] := hl
    refine lv_iload S.1 S.2.1 dX2_paidBetsOf_5 (lv_at hl 0 rfl) ?_
    refine lv_aload_n S.1 S.2.1 dX2_paidBetsOf_7 rfl (lv_at hl 2 rfl) ?_
    refine z_get (v := .int (zI (c.1 5))) S inA2 hK hP 4 rfl rfl 0 (by decide) fl_X2_9 rfl dX2_paidBetsOf_8 ?_
    refine z_icmp_ge (tgt := 75) S dX2_paidBetsOf_11 (by decide) (by omega) (fun h_1 => ?_) (fun h_1 => ?_)
    · exact absurd h_1 (by omega)
    · refine lv_aload_n S.1 S.2.1 dX2_paidBetsOf_14 rfl (lv_at hl 2 rfl) ?_
      refine z_get (v := .ref (a 20)) S inA2 hK hP 4 rfl rfl 6 (by decide) fl_X2_37 rfl dX2_paidBetsOf_15 ?_
      refine lv_iload S.1 S.2.1 dX2_paidBetsOf_18 (lv_at hl 0 rfl) ?_
      refine lv_iload_n S.1 S.2.1 dX2_paidBetsOf_20 rfl (lv_at hl 3 rfl) ?_
      refine z_rS (As := [.int (zI (k5 : Int)), .int (zI d)]) (rest := [.ref (a 20)]) S (m_X2_slip l D g (k5 : Int) d) ml_X2_51 sm_X2_slip ini_X2 cd_X2_slip ds_X2_slip ⟨Nat.le_of_ble_eq_true rfl, Nat.le_of_ble_eq_true rfl⟩ hK va_P_nil rfl hl.1 rfl (Nat.le_of_ble_eq_true rfl) ⟨Nat.zero_le _, Nat.zero_le _⟩ dX2_paidBetsOf_21 ?_
      refine z_zald S hK hP 20 rfl (by decide) (by omega) dX2_paidBetsOf_24 ?_
      have hb_2 := hI.r15 ((k5 : Int) * 5 + d)
      refine lv_aload_n S.1 S.2.1 dX2_paidBetsOf_25 rfl (lv_at hl 2 rfl) ?_
      refine lv_iload S.1 S.2.1 dX2_paidBetsOf_26 (lv_at hl 0 rfl) ?_
      refine z_rV (As := [.int (zI (k5 : Int))]) (rest := [.int (zI (c.2 15 ((k5 : Int) * 5 + d)))]) S (m_X2_hasFound l D g a c hI (k5 : Int) (by omega)) ml_X2_41 im_X2_hasFound se_X2_hasFound ini_X2 cd_X2_hasFound ds_X2_hasFound ⟨Nat.le_of_ble_eq_true rfl, Nat.le_of_ble_eq_true rfl⟩ hK hP (va_recv hK.1 hP (ci := 2) (q0 := 4) rfl rfl) rfl hl.1 rfl (Nat.le_of_ble_eq_true rfl) ⟨Nat.zero_le _, Nat.zero_le _⟩ dX2_paidBetsOf_28 ?_
      have hb_4 := b01_01 (fnd c (k5 : Int))
      refine z_icmp_ne (tgt := 38) S dX2_paidBetsOf_31 (by decide) (by omega) (fun h_3 => ?_) (fun h_3 => ?_)
      · refine z_iconst S dX2_paidBetsOf_38 ?_
        refine lv_istore (lv' := [(5, .int (zI 0)), (4, .int (zI (k5 : Int))), (3, .int (zI (sm (fun q => b01 ((over c q ∧ 0 < c.2 14 (q * 5 + d)) ∧ b01 (c.2 15 (q * 5 + d) = b01 (fnd c q)) = rt)) k5))), (0, .ref (a 4)), (1, .int (zI d)), (2, .int (zI rt))]) S.1 S.2.1 dX2_paidBetsOf_39 hl (by decide) rfl (fun ls hl => ?_)
        refine lv_aload_n S.1 S.2.1 dX2_paidBetsOf_41 rfl (lv_at hl 3 rfl) ?_
        refine lv_iload S.1 S.2.1 dX2_paidBetsOf_42 (lv_at hl 1 rfl) ?_
        refine z_rV (As := [.int (zI (k5 : Int))]) (rest := []) S (m_X2_isOver l D g a c hI (k5 : Int) (by omega)) ml_X2_69 im_X2_isOver se_X2_isOver ini_X2 cd_X2_isOver ds_X2_isOver ⟨Nat.le_of_ble_eq_true rfl, Nat.le_of_ble_eq_true rfl⟩ hK hP (va_recv hK.1 hP (ci := 2) (q0 := 4) rfl rfl) rfl hl.1 rfl (Nat.le_of_ble_eq_true rfl) ⟨Nat.zero_le _, Nat.zero_le _⟩ dX2_paidBetsOf_44 ?_
        refine z_ifb_eq (tgt := 69) S dX2_paidBetsOf_47 (by decide) (fun h_5 => ?_) (fun h_5 => ?_)
        · refine z_iinc (lv' := [(4, .int (zI ((k5 : Int) + 1))), (5, .int (zI 0)), (3, .int (zI (sm (fun q => b01 ((over c q ∧ 0 < c.2 14 (q * 5 + d)) ∧ b01 (c.2 15 (q * 5 + d) = b01 (fnd c q)) = rt)) k5))), (0, .ref (a 4)), (1, .int (zI d)), (2, .int (zI rt))]) S dX2_paidBetsOf_69 hl (k := 1) rfl (by decide) rfl (fun ls hl => ?_)
          refine z_goto (tgt := 5) S dX2_paidBetsOf_72 (by decide) ?_
          have e_6 : sm (fun q => b01 ((over c q ∧ 0 < c.2 14 (q * 5 + d)) ∧ b01 (c.2 15 (q * 5 + d) = b01 (fnd c q)) = rt)) (k5 + 1) = sm (fun q => b01 ((over c q ∧ 0 < c.2 14 (q * 5 + d)) ∧ b01 (c.2 15 (q * 5 + d) = b01 (fnd c q)) = rt)) k5 := by grind [sm, b01]
          exact ih5 _ (lv_sub hl [0, 2, 3, 4, 5] (by show _ = ([(4, .int (zI ((k5 + 1 : Nat) : Int))), (3, .int (zI (sm (fun q => b01 ((over c q ∧ 0 < c.2 14 (q * 5 + d)) ∧ b01 (c.2 15 (q * 5 + d) = b01 (fnd c q)) = rt)) (k5 + 1)))), (0, .ref (a 4)), (1, .int (zI d)), (2, .int (zI rt))] : List (Nat × Value)); rw [e_6]; first | done | rfl)) trivial
        · refine lv_aload_n S.1 S.2.1 dX2_paidBetsOf_50 rfl (lv_at hl 3 rfl) ?_
          refine lv_iload S.1 S.2.1 dX2_paidBetsOf_51 (lv_at hl 1 rfl) ?_
          refine lv_iload_n S.1 S.2.1 dX2_paidBetsOf_53 rfl (lv_at hl 4 rfl) ?_
          refine z_rV (As := [.int (zI (k5 : Int)), .int (zI d)]) (rest := []) S (m_X2_hasBet l D g a c hI (k5 : Int) d (by omega) (by omega)) ml_X2_72 im_X2_hasBet se_X2_hasBet ini_X2 cd_X2_hasBet ds_X2_hasBet ⟨Nat.le_of_ble_eq_true rfl, Nat.le_of_ble_eq_true rfl⟩ hK hP (va_recv hK.1 hP (ci := 2) (q0 := 4) rfl rfl) rfl hl.1 rfl (Nat.le_of_ble_eq_true rfl) ⟨Nat.zero_le _, Nat.zero_le _⟩ dX2_paidBetsOf_54 ?_
          refine z_ifb_eq (tgt := 69) S dX2_paidBetsOf_57 (by decide) (fun h_7 => ?_) (fun h_7 => ?_)
          · refine z_iinc (lv' := [(4, .int (zI ((k5 : Int) + 1))), (5, .int (zI 0)), (3, .int (zI (sm (fun q => b01 ((over c q ∧ 0 < c.2 14 (q * 5 + d)) ∧ b01 (c.2 15 (q * 5 + d) = b01 (fnd c q)) = rt)) k5))), (0, .ref (a 4)), (1, .int (zI d)), (2, .int (zI rt))]) S dX2_paidBetsOf_69 hl (k := 1) rfl (by decide) rfl (fun ls hl => ?_)
            refine z_goto (tgt := 5) S dX2_paidBetsOf_72 (by decide) ?_
            have e_8 : sm (fun q => b01 ((over c q ∧ 0 < c.2 14 (q * 5 + d)) ∧ b01 (c.2 15 (q * 5 + d) = b01 (fnd c q)) = rt)) (k5 + 1) = sm (fun q => b01 ((over c q ∧ 0 < c.2 14 (q * 5 + d)) ∧ b01 (c.2 15 (q * 5 + d) = b01 (fnd c q)) = rt)) k5 := by grind [sm, b01]
            exact ih5 _ (lv_sub hl [0, 2, 3, 4, 5] (by show _ = ([(4, .int (zI ((k5 + 1 : Nat) : Int))), (3, .int (zI (sm (fun q => b01 ((over c q ∧ 0 < c.2 14 (q * 5 + d)) ∧ b01 (c.2 15 (q * 5 + d) = b01 (fnd c q)) = rt)) (k5 + 1)))), (0, .ref (a 4)), (1, .int (zI d)), (2, .int (zI rt))] : List (Nat × Value)); rw [e_8]; first | done | rfl)) trivial
          · refine lv_iload S.1 S.2.1 dX2_paidBetsOf_60 (lv_at hl 0 rfl) ?_
            refine lv_iload_n S.1 S.2.1 dX2_paidBetsOf_62 rfl (lv_at hl 5 rfl) ?_
            refine z_icmp_ne (tgt := 69) S dX2_paidBetsOf_63 (by decide) (by omega) (fun h_9 => ?_) (fun h_9 => ?_)
            · refine z_iinc (lv' := [(4, .int (zI ((k5 : Int) + 1))), (5, .int (zI 0)), (3, .int (zI (sm (fun q => b01 ((over c q ∧ 0 < c.2 14 (q * 5 + d)) ∧ b01 (c.2 15 (q * 5 + d) = b01 (fnd c q)) = rt)) k5))), (0, .ref (a 4)), (1, .int (zI d)), (2, .int (zI rt))]) S dX2_paidBetsOf_69 hl (k := 1) rfl (by decide) rfl (fun ls hl => ?_)
              refine z_goto (tgt := 5) S dX2_paidBetsOf_72 (by decide) ?_
              have e_10 : sm (fun q => b01 ((over c q ∧ 0 < c.2 14 (q * 5 + d)) ∧ b01 (c.2 15 (q * 5 + d) = b01 (fnd c q)) = rt)) (k5 + 1) = sm (fun q => b01 ((over c q ∧ 0 < c.2 14 (q * 5 + d)) ∧ b01 (c.2 15 (q * 5 + d) = b01 (fnd c q)) = rt)) k5 := by grind [sm, b01]
              exact ih5 _ (lv_sub hl [0, 2, 3, 4, 5] (by show _ = ([(4, .int (zI ((k5 + 1 : Nat) : Int))), (3, .int (zI (sm (fun q => b01 ((over c q ∧ 0 < c.2 14 (q * 5 + d)) ∧ b01 (c.2 15 (q * 5 + d) = b01 (fnd c q)) = rt)) (k5 + 1)))), (0, .ref (a 4)), (1, .int (zI d)), (2, .int (zI rt))] : List (Nat × Value)); rw [e_10]; first | done | rfl)) trivial
            · refine z_iinc (lv' := [(3, .int (zI ((sm (fun q => b01 ((over c q ∧ 0 < c.2 14 (q * 5 + d)) ∧ b01 (c.2 15 (q * 5 + d) = b01 (fnd c q)) = rt)) k5) + 1))), (5, .int (zI 0)), (4, .int (zI (k5 : Int))), (0, .ref (a 4)), (1, .int (zI d)), (2, .int (zI rt))]) S dX2_paidBetsOf_66 hl (k := 2) rfl (by decide) rfl (fun ls hl => ?_)
              refine z_iinc (lv' := [(4, .int (zI ((k5 : Int) + 1))), (3, .int (zI ((sm (fun q => b01 ((over c q ∧ 0 < c.2 14 (q * 5 + d)) ∧ b01 (c.2 15 (q * 5 + d) = b01 (fnd c q)) = rt)) k5) + 1))), (5, .int (zI 0)), (0, .ref (a 4)), (1, .int (zI d)), (2, .int (zI rt))]) S dX2_paidBetsOf_69 hl (k := 2) rfl (by decide) rfl (fun ls hl => ?_)
              refine z_goto (tgt := 5) S dX2_paidBetsOf_72 (by decide) ?_
              have e_11 : sm (fun q => b01 ((over c q ∧ 0 < c.2 14 (q * 5 + d)) ∧ b01 (c.2 15 (q * 5 + d) = b01 (fnd c q)) = rt)) (k5 + 1) = (sm (fun q => b01 ((over c q ∧ 0 < c.2 14 (q * 5 + d)) ∧ b01 (c.2 15 (q * 5 + d) = b01 (fnd c q)) = rt)) k5) + 1 := by grind [sm, b01]
              exact ih5 _ (lv_sub hl [0, 1, 3, 4, 5] (by show _ = ([(4, .int (zI ((k5 + 1 : Nat) : Int))), (3, .int (zI (sm (fun q => b01 ((over c q ∧ 0 < c.2 14 (q * 5 + d)) ∧ b01 (c.2 15 (q * 5 + d) = b01 (fnd c q)) = rt)) (k5 + 1)))), (0, .ref (a 4)), (1, .int (zI d)), (2, .int (zI rt))] : List (Nat × Value)); rw [e_11]; first | done | rfl)) trivial
      · refine z_iconst S dX2_paidBetsOf_34 ?_
        refine z_goto (tgt := 39) S dX2_paidBetsOf_35 (by decide) ?_
        refine lv_istore (lv' := [(5, .int (zI 1)), (4, .int (zI (k5 : Int))), (3, .int (zI (sm (fun q => b01 ((over c q ∧ 0 < c.2 14 (q * 5 + d)) ∧ b01 (c.2 15 (q * 5 + d) = b01 (fnd c q)) = rt)) k5))), (0, .ref (a 4)), (1, .int (zI d)), (2, .int (zI rt))]) S.1 S.2.1 dX2_paidBetsOf_39 hl (by decide) rfl (fun ls hl => ?_)
        refine lv_aload_n S.1 S.2.1 dX2_paidBetsOf_41 rfl (lv_at hl 3 rfl) ?_
        refine lv_iload S.1 S.2.1 dX2_paidBetsOf_42 (lv_at hl 1 rfl) ?_
        refine z_rV (As := [.int (zI (k5 : Int))]) (rest := []) S (m_X2_isOver l D g a c hI (k5 : Int) (by omega)) ml_X2_69 im_X2_isOver se_X2_isOver ini_X2 cd_X2_isOver ds_X2_isOver ⟨Nat.le_of_ble_eq_true rfl, Nat.le_of_ble_eq_true rfl⟩ hK hP (va_recv hK.1 hP (ci := 2) (q0 := 4) rfl rfl) rfl hl.1 rfl (Nat.le_of_ble_eq_true rfl) ⟨Nat.zero_le _, Nat.zero_le _⟩ dX2_paidBetsOf_44 ?_
        refine z_ifb_eq (tgt := 69) S dX2_paidBetsOf_47 (by decide) (fun h_12 => ?_) (fun h_12 => ?_)
        · refine z_iinc (lv' := [(4, .int (zI ((k5 : Int) + 1))), (5, .int (zI 1)), (3, .int (zI (sm (fun q => b01 ((over c q ∧ 0 < c.2 14 (q * 5 + d)) ∧ b01 (c.2 15 (q * 5 + d) = b01 (fnd c q)) = rt)) k5))), (0, .ref (a 4)), (1, .int (zI d)), (2, .int (zI rt))]) S dX2_paidBetsOf_69 hl (k := 1) rfl (by decide) rfl (fun ls hl => ?_)
          refine z_goto (tgt := 5) S dX2_paidBetsOf_72 (by decide) ?_
          have e_13 : sm (fun q => b01 ((over c q ∧ 0 < c.2 14 (q * 5 + d)) ∧ b01 (c.2 15 (q * 5 + d) = b01 (fnd c q)) = rt)) (k5 + 1) = sm (fun q => b01 ((over c q ∧ 0 < c.2 14 (q * 5 + d)) ∧ b01 (c.2 15 (q * 5 + d) = b01 (fnd c q)) = rt)) k5 := by grind [sm, b01]
          exact ih5 _ (lv_sub hl [0, 2, 3, 4, 5] (by show _ = ([(4, .int (zI ((k5 + 1 : Nat) : Int))), (3, .int (zI (sm (fun q => b01 ((over c q ∧ 0 < c.2 14 (q * 5 + d)) ∧ b01 (c.2 15 (q * 5 + d) = b01 (fnd c q)) = rt)) (k5 + 1)))), (0, .ref (a 4)), (1, .int (zI d)), (2, .int (zI rt))] : List (Nat × Value)); rw [e_13]; first | done | rfl)) trivial
        · refine lv_aload_n S.1 S.2.1 dX2_paidBetsOf_50 rfl (lv_at hl 3 rfl) ?_
          refine lv_iload S.1 S.2.1 dX2_paidBetsOf_51 (lv_at hl 1 rfl) ?_
          refine lv_iload_n S.1 S.2.1 dX2_paidBetsOf_53 rfl (lv_at hl 4 rfl) ?_
          refine z_rV (As := [.int (zI (k5 : Int)), .int (zI d)]) (rest := []) S (m_X2_hasBet l D g a c hI (k5 : Int) d (by omega) (by omega)) ml_X2_72 im_X2_hasBet se_X2_hasBet ini_X2 cd_X2_hasBet ds_X2_hasBet ⟨Nat.le_of_ble_eq_true rfl, Nat.le_of_ble_eq_true rfl⟩ hK hP (va_recv hK.1 hP (ci := 2) (q0 := 4) rfl rfl) rfl hl.1 rfl (Nat.le_of_ble_eq_true rfl) ⟨Nat.zero_le _, Nat.zero_le _⟩ dX2_paidBetsOf_54 ?_
          refine z_ifb_eq (tgt := 69) S dX2_paidBetsOf_57 (by decide) (fun h_14 => ?_) (fun h_14 => ?_)
          · refine z_iinc (lv' := [(4, .int (zI ((k5 : Int) + 1))), (5, .int (zI 1)), (3, .int (zI (sm (fun q => b01 ((over c q ∧ 0 < c.2 14 (q * 5 + d)) ∧ b01 (c.2 15 (q * 5 + d) = b01 (fnd c q)) = rt)) k5))), (0, .ref (a 4)), (1, .int (zI d)), (2, .int (zI rt))]) S dX2_paidBetsOf_69 hl (k := 1) rfl (by decide) rfl (fun ls hl => ?_)
            refine z_goto (tgt := 5) S dX2_paidBetsOf_72 (by decide) ?_
            have e_15 : sm (fun q => b01 ((over c q ∧ 0 < c.2 14 (q * 5 + d)) ∧ b01 (c.2 15 (q * 5 + d) = b01 (fnd c q)) = rt)) (k5 + 1) = sm (fun q => b01 ((over c q ∧ 0 < c.2 14 (q * 5 + d)) ∧ b01 (c.2 15 (q * 5 + d) = b01 (fnd c q)) = rt)) k5 := by grind [sm, b01]
            exact ih5 _ (lv_sub hl [0, 2, 3, 4, 5] (by show _ = ([(4, .int (zI ((k5 + 1 : Nat) : Int))), (3, .int (zI (sm (fun q => b01 ((over c q ∧ 0 < c.2 14 (q * 5 + d)) ∧ b01 (c.2 15 (q * 5 + d) = b01 (fnd c q)) = rt)) (k5 + 1)))), (0, .ref (a 4)), (1, .int (zI d)), (2, .int (zI rt))] : List (Nat × Value)); rw [e_15]; first | done | rfl)) trivial
          · refine lv_iload S.1 S.2.1 dX2_paidBetsOf_60 (lv_at hl 0 rfl) ?_
            refine lv_iload_n S.1 S.2.1 dX2_paidBetsOf_62 rfl (lv_at hl 5 rfl) ?_
            refine z_icmp_ne (tgt := 69) S dX2_paidBetsOf_63 (by decide) (by omega) (fun h_16 => ?_) (fun h_16 => ?_)
            · refine z_iinc (lv' := [(4, .int (zI ((k5 : Int) + 1))), (5, .int (zI 1)), (3, .int (zI (sm (fun q => b01 ((over c q ∧ 0 < c.2 14 (q * 5 + d)) ∧ b01 (c.2 15 (q * 5 + d) = b01 (fnd c q)) = rt)) k5))), (0, .ref (a 4)), (1, .int (zI d)), (2, .int (zI rt))]) S dX2_paidBetsOf_69 hl (k := 1) rfl (by decide) rfl (fun ls hl => ?_)
              refine z_goto (tgt := 5) S dX2_paidBetsOf_72 (by decide) ?_
              have e_17 : sm (fun q => b01 ((over c q ∧ 0 < c.2 14 (q * 5 + d)) ∧ b01 (c.2 15 (q * 5 + d) = b01 (fnd c q)) = rt)) (k5 + 1) = sm (fun q => b01 ((over c q ∧ 0 < c.2 14 (q * 5 + d)) ∧ b01 (c.2 15 (q * 5 + d) = b01 (fnd c q)) = rt)) k5 := by grind [sm, b01]
              exact ih5 _ (lv_sub hl [0, 2, 3, 4, 5] (by show _ = ([(4, .int (zI ((k5 + 1 : Nat) : Int))), (3, .int (zI (sm (fun q => b01 ((over c q ∧ 0 < c.2 14 (q * 5 + d)) ∧ b01 (c.2 15 (q * 5 + d) = b01 (fnd c q)) = rt)) (k5 + 1)))), (0, .ref (a 4)), (1, .int (zI d)), (2, .int (zI rt))] : List (Nat × Value)); rw [e_17]; first | done | rfl)) trivial
            · refine z_iinc (lv' := [(3, .int (zI ((sm (fun q => b01 ((over c q ∧ 0 < c.2 14 (q * 5 + d)) ∧ b01 (c.2 15 (q * 5 + d) = b01 (fnd c q)) = rt)) k5) + 1))), (5, .int (zI 1)), (4, .int (zI (k5 : Int))), (0, .ref (a 4)), (1, .int (zI d)), (2, .int (zI rt))]) S dX2_paidBetsOf_66 hl (k := 2) rfl (by decide) rfl (fun ls hl => ?_)
              refine z_iinc (lv' := [(4, .int (zI ((k5 : Int) + 1))), (3, .int (zI ((sm (fun q => b01 ((over c q ∧ 0 < c.2 14 (q * 5 + d)) ∧ b01 (c.2 15 (q * 5 + d) = b01 (fnd c q)) = rt)) k5) + 1))), (5, .int (zI 1)), (0, .ref (a 4)), (1, .int (zI d)), (2, .int (zI rt))]) S dX2_paidBetsOf_69 hl (k := 2) rfl (by decide) rfl (fun ls hl => ?_)
              refine z_goto (tgt := 5) S dX2_paidBetsOf_72 (by decide) ?_
              have e_18 : sm (fun q => b01 ((over c q ∧ 0 < c.2 14 (q * 5 + d)) ∧ b01 (c.2 15 (q * 5 + d) = b01 (fnd c q)) = rt)) (k5 + 1) = (sm (fun q => b01 ((over c q ∧ 0 < c.2 14 (q * 5 + d)) ∧ b01 (c.2 15 (q * 5 + d) = b01 (fnd c q)) = rt)) k5) + 1 := by grind [sm, b01]
              exact ih5 _ (lv_sub hl [0, 1, 3, 4, 5] (by show _ = ([(4, .int (zI ((k5 + 1 : Nat) : Int))), (3, .int (zI (sm (fun q => b01 ((over c q ∧ 0 < c.2 14 (q * 5 + d)) ∧ b01 (c.2 15 (q * 5 + d) = b01 (fnd c q)) = rt)) (k5 + 1)))), (0, .ref (a 4)), (1, .int (zI d)), (2, .int (zI rt))] : List (Nat × Value)); rw [e_18]; first | done | rfl)) trivial
  · have hl : lv_has ls 6 [(4, .int (zI (((c.1 5).toNat : Nat) : Int))), (3, .int (zI (sm (fun q => b01 ((over c q ∧ 0 < c.2 14 (q * 5 + d)) ∧ b01 (c.2 15 (q * 5 + d) = b01 (fnd c q)) = rt)) ((c.1 5).toNat)))), (0, .ref (a 4)), (1, .int (zI d)), (2, .int (zI rt))] := hl
    refine lv_iload S.1 S.2.1 dX2_paidBetsOf_5 (lv_at hl 0 rfl) ?_
    refine lv_aload_n S.1 S.2.1 dX2_paidBetsOf_7 rfl (lv_at hl 2 rfl) ?_
    refine z_get (v := .int (zI (c.1 5))) S inA2 hK hP 4 rfl rfl 0 (by decide) fl_X2_9 rfl dX2_paidBetsOf_8 ?_
    refine z_icmp_ge (tgt := 75) S dX2_paidBetsOf_11 (by decide) (by omega) (fun h_19 => ?_) (fun h_19 => ?_)
    · refine lv_iload_n S.1 S.2.1 dX2_paidBetsOf_75 rfl (lv_at hl 1 rfl) ?_
      exact z_ret S hr hlk (by first | rfl | grind) dX2_paidBetsOf_76
    · exact absurd h_19 (by omega)
set_option maxHeartbeats 4000000 in
set_option maxRecDepth 100000 in
theorem m_X2_tell (l : Launch) (D : va_G) (g : ClassId × ClassId × ClassId) (a : Nat → Nat) {B : Int} (c : CS) (hI : IC B c) (q : Int) (what : Int) (h0 : 0 ≤ q ∧ q < 10) (h1 : 0 ≤ what ∧ what ≤ 6) : RD l yX2_tell cX2_tell 3 (some .int) 3 69 D g (CW g a c) [.ref (a 4), .int (zI q), .int (zI what)] (pitT c q what) := by
  refine z_enter RX2 (by decide) rfl (Nat.le_of_ble_eq_true rfl) ?_
  intro p e s m args below meth co S hr hlk hK hP ls hl
  have hl : lv_has ls 3 [(0, .ref (a 4)), (1, .int (zI q)), (2, .int (zI what))] := hl
  have hs := hI.s
  refine lv_iload_n S.1 S.2.1 dX2_tell_0 rfl (lv_at hl 2 rfl) ?_
  rcases (show what = 0 ∨ what = 1 ∨ what = 2 ∨ what = 3 ∨ what = 4 ∨ what = 5 ∨ (what < 0 ∨ 5 < what) by omega) with h_1 | h_1 | h_1 | h_1 | h_1 | h_1 | h_1
  · refine z_tabIn (off := 39) (tgt := 40) S 0 h_1 (by decide) dX2_tell_1 (by decide) (by decide) rfl (by decide) ?_
    refine lv_aload_n S.1 S.2.1 dX2_tell_40 rfl (lv_at hl 0 rfl) ?_
    refine z_get (v := .ref (a 16)) S inA2 hK hP 4 rfl rfl 2 (by decide) fl_X2_25 rfl dX2_tell_41 ?_
    refine lv_iload_n S.1 S.2.1 dX2_tell_44 rfl (lv_at hl 1 rfl) ?_
    refine z_iald S hK hP 16 rfl (by decide) (by omega) dX2_tell_45 ?_
    have hb_2 := hI.r11 q
    refine z_rN (As := [.int (zI (c.2 11 q))]) (rest := []) S (m_X4_columnOf l D g (c.2 11 q) (by omega)) nw_X2_76 sm_X4_columnOf ini_X4 cd_X4_columnOf ds_X4_columnOf ⟨Nat.le_of_ble_eq_true rfl, Nat.le_of_ble_eq_true rfl⟩ hK va_P_nil rfl hl.1 rfl (Nat.le_of_ble_eq_true rfl) ⟨Nat.zero_le _, Nat.zero_le _⟩ dX2_tell_46 ?_
    exact z_ret S hr hlk (by grind [pitT, b01]) dX2_tell_49
  · refine z_tabIn (off := 49) (tgt := 50) S 1 h_1 (by decide) dX2_tell_1 (by decide) (by decide) rfl (by decide) ?_
    refine lv_aload_n S.1 S.2.1 dX2_tell_50 rfl (lv_at hl 0 rfl) ?_
    refine z_get (v := .ref (a 16)) S inA2 hK hP 4 rfl rfl 2 (by decide) fl_X2_25 rfl dX2_tell_51 ?_
    refine lv_iload_n S.1 S.2.1 dX2_tell_54 rfl (lv_at hl 1 rfl) ?_
    refine z_iald S hK hP 16 rfl (by decide) (by omega) dX2_tell_55 ?_
    have hb_3 := hI.r11 q
    refine z_rN (As := [.int (zI (c.2 11 q))]) (rest := []) S (m_X4_rowOf l D g (c.2 11 q) (by omega)) nw_X2_79 sm_X4_rowOf ini_X4 cd_X4_rowOf ds_X4_rowOf ⟨Nat.le_of_ble_eq_true rfl, Nat.le_of_ble_eq_true rfl⟩ hK va_P_nil rfl hl.1 rfl (Nat.le_of_ble_eq_true rfl) ⟨Nat.zero_le _, Nat.zero_le _⟩ dX2_tell_56 ?_
    exact z_ret S hr hlk (by grind [pitT, b01]) dX2_tell_59
  · refine z_tabIn (off := 59) (tgt := 60) S 2 h_1 (by decide) dX2_tell_1 (by decide) (by decide) rfl (by decide) ?_
    refine lv_aload_n S.1 S.2.1 dX2_tell_60 rfl (lv_at hl 0 rfl) ?_
    refine z_get (v := .ref (a 18)) S inA2 hK hP 4 rfl rfl 4 (by decide) fl_X2_31 rfl dX2_tell_61 ?_
    refine lv_iload_n S.1 S.2.1 dX2_tell_64 rfl (lv_at hl 1 rfl) ?_
    refine z_iald S hK hP 18 rfl (by decide) (by omega) dX2_tell_65 ?_
    have hb_4 := hI.r13 q
    exact z_ret S hr hlk (by grind [pitT, b01]) dX2_tell_66
  · refine z_tabIn (off := 66) (tgt := 67) S 3 h_1 (by decide) dX2_tell_1 (by decide) (by decide) rfl (by decide) ?_
    refine lv_aload_n S.1 S.2.1 dX2_tell_67 rfl (lv_at hl 0 rfl) ?_
    refine lv_iload_n S.1 S.2.1 dX2_tell_68 rfl (lv_at hl 1 rfl) ?_
    refine z_rV (As := [.int (zI q)]) (rest := []) S (m_X2_hasFound l D g a c hI q (by omega)) ml_X2_41 im_X2_hasFound se_X2_hasFound ini_X2 cd_X2_hasFound ds_X2_hasFound ⟨Nat.le_of_ble_eq_true rfl, Nat.le_of_ble_eq_true rfl⟩ hK hP (va_recv hK.1 hP (ci := 2) (q0 := 4) rfl rfl) rfl hl.1 rfl (Nat.le_of_ble_eq_true rfl) ⟨Nat.zero_le _, Nat.zero_le _⟩ dX2_tell_69 ?_
    refine z_ifb_eq (tgt := 79) S dX2_tell_72 (by decide) (fun h_5 => ?_) (fun h_5 => ?_)
    · refine z_iconst S dX2_tell_79 ?_
      exact z_ret S hr hlk (by grind [pitT, b01]) dX2_tell_80
    · refine z_iconst S dX2_tell_75 ?_
      refine z_goto (tgt := 80) S dX2_tell_76 (by decide) ?_
      exact z_ret S hr hlk (by grind [pitT, b01]) dX2_tell_80
  · refine z_tabIn (off := 80) (tgt := 81) S 4 h_1 (by decide) dX2_tell_1 (by decide) (by decide) rfl (by decide) ?_
    refine lv_aload_n S.1 S.2.1 dX2_tell_81 rfl (lv_at hl 0 rfl) ?_
    refine lv_iload_n S.1 S.2.1 dX2_tell_82 rfl (lv_at hl 1 rfl) ?_
    refine z_rV (As := [.int (zI q)]) (rest := []) S (m_X2_isOver l D g a c hI q (by omega)) ml_X2_69 im_X2_isOver se_X2_isOver ini_X2 cd_X2_isOver ds_X2_isOver ⟨Nat.le_of_ble_eq_true rfl, Nat.le_of_ble_eq_true rfl⟩ hK hP (va_recv hK.1 hP (ci := 2) (q0 := 4) rfl rfl) rfl hl.1 rfl (Nat.le_of_ble_eq_true rfl) ⟨Nat.zero_le _, Nat.zero_le _⟩ dX2_tell_83 ?_
    refine z_ifb_eq (tgt := 93) S dX2_tell_86 (by decide) (fun h_6 => ?_) (fun h_6 => ?_)
    · refine z_iconst S dX2_tell_93 ?_
      exact z_ret S hr hlk (by grind [pitT, b01]) dX2_tell_94
    · refine z_iconst S dX2_tell_89 ?_
      refine z_goto (tgt := 94) S dX2_tell_90 (by decide) ?_
      exact z_ret S hr hlk (by grind [pitT, b01]) dX2_tell_94
  · refine z_tabIn (off := 94) (tgt := 95) S 5 h_1 (by decide) dX2_tell_1 (by decide) (by decide) rfl (by decide) ?_
    refine lv_aload_n S.1 S.2.1 dX2_tell_95 rfl (lv_at hl 0 rfl) ?_
    refine lv_iload_n S.1 S.2.1 dX2_tell_96 rfl (lv_at hl 1 rfl) ?_
    refine z_iconst S dX2_tell_97 ?_
    refine z_rV (As := [.int (zI q), .int (zI 1)]) (rest := []) S (m_X2_stakedOn l D g a c hI q 1 (by omega) (by omega)) ml_X2_58 im_X2_stakedOn se_X2_stakedOn ini_X2 cd_X2_stakedOn ds_X2_stakedOn ⟨Nat.le_of_ble_eq_true rfl, Nat.le_of_ble_eq_true rfl⟩ hK hP (va_recv hK.1 hP (ci := 2) (q0 := 4) rfl rfl) rfl hl.1 rfl (Nat.le_of_ble_eq_true rfl) ⟨Nat.zero_le _, Nat.zero_le _⟩ dX2_tell_98 ?_
    exact z_ret S hr hlk (by grind [pitT, b01]) dX2_tell_101
  · refine z_tabOut (tgt := 102) S (by omega) dX2_tell_1 h_1 (by decide) ?_
    refine lv_aload_n S.1 S.2.1 dX2_tell_102 rfl (lv_at hl 0 rfl) ?_
    refine lv_iload_n S.1 S.2.1 dX2_tell_103 rfl (lv_at hl 1 rfl) ?_
    refine z_iconst S dX2_tell_104 ?_
    refine z_rV (As := [.int (zI q), .int (zI 0)]) (rest := []) S (m_X2_stakedOn l D g a c hI q 0 (by omega) (by omega)) ml_X2_58 im_X2_stakedOn se_X2_stakedOn ini_X2 cd_X2_stakedOn ds_X2_stakedOn ⟨Nat.le_of_ble_eq_true rfl, Nat.le_of_ble_eq_true rfl⟩ hK hP (va_recv hK.1 hP (ci := 2) (q0 := 4) rfl rfl) rfl hl.1 rfl (Nat.le_of_ble_eq_true rfl) ⟨Nat.zero_le _, Nat.zero_le _⟩ dX2_tell_105 ?_
    exact z_ret S hr hlk (by grind [pitT, b01]) dX2_tell_108
