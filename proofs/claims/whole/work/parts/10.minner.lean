set_option maxHeartbeats 4000000 in
set_option maxRecDepth 100000 in
theorem m_X5_thrown (l : Launch) (D : va_G) (g : ClassId × ClassId × ClassId) (b : Nat → Nat) {B : Int} (c : CS) (hI : IM B c) : RD l yX5_thrown cX5_thrown 1 (some .int) 0 0 D g (MW g b c) [.ref (b 0)] (c.1 0) := by
  refine z_enter RX5 (by decide) rfl (Nat.le_of_ble_eq_true rfl) ?_
  intro p e s m args below meth co S hr hlk hK hP ls hl
  have hl : lv_has ls 1 [(0, .ref (b 0))] := hl
  have hs := hI.s
  refine lv_aload_n S.1 S.2.1 dX5_thrown_0 rfl (lv_at hl 0 rfl) ?_
  refine z_get (v := .int (zI (c.1 0))) S inA5 hK hP 0 rfl rfl 0 (by decide) fl_X5_53 rfl dX5_thrown_1 ?_
  exact z_ret S hr hlk (by first | rfl | grind) dX5_thrown_4
set_option maxHeartbeats 4000000 in
set_option maxRecDepth 100000 in
theorem m_X5_no (l : Launch) (D : va_G) (g : ClassId × ClassId × ClassId) (b : Nat → Nat) {B : Int} (c : CS) (hI : IM B c) (hda : CD 14 b) (nn : Int) : WRi l yX5_no cX5_no 2 (some .int) 0 0 D g (CA 14 b) (MW g b c) [.ref (b 0), .int (zI nn)] (MW g b (sS c 0 nn)) (0) := by
  refine z_enter RX5 (by decide) rfl (Nat.le_of_ble_eq_true rfl) ?_
  intro p e s m args below meth co S hr hlk hK hP ls hl
  have hl : lv_has ls 2 [(0, .ref (b 0)), (1, .int (zI nn))] := hl
  have hs := hI.s
  have hS : va_S (CA 14 b) s.heap s.heap [] := va_S.rf
  refine lv_aload_n S.1 S.2.1 dX5_no_0 rfl (lv_at hl 0 rfl) ?_
  refine lv_iload_n S.1 S.2.1 dX5_no_1 rfl (lv_at hl 1 rfl) ?_
  refine z_put S inA5 tyX5 tyX5_ok nmX5 hK hP (MW_D hda _) hS 0 rfl rfl 0 (by decide) fl_X5_53 rfl (by decide +kernel) (Nat.le_of_ble_eq_true rfl) dX5_no_2 (fun H locs hP hS => ?_)
  have hP : va_P D vwCl (MW g b (sS c 0 nn)) H := hP
  refine z_iconst S dX5_no_5 ?_
  have hw : MW g b (sS c 0 nn) = MW g b (sS c 0 nn) := by exact rfl
  rw [hw] at hP
  exact z_retw S hr hlk (by first | rfl | grind) hP hS dX5_no_6
set_option maxHeartbeats 4000000 in
set_option maxRecDepth 100000 in
theorem m_X5_isIn (l : Launch) (D : va_G) (g : ClassId × ClassId × ClassId) (nb : Int) (lst : Int) (mst : Int) (h0 : I32 nb ∧ I32 lst ∧ I32 mst) : RD l yX5_isIn cX5_isIn 3 (some .boolean) 0 0 D g [] [.int (zI nb), .int (zI lst), .int (zI mst)] (b01 (lst ≤ nb ∧ nb ≤ mst)) := by
  refine z_enter RX5 (by decide) rfl (Nat.le_of_ble_eq_true rfl) ?_
  intro p e s m args below meth co S hr hlk hK hP ls hl
  have hl : lv_has ls 3 [(0, .int (zI nb)), (1, .int (zI lst)), (2, .int (zI mst))] := hl
  refine lv_iload_n S.1 S.2.1 dX5_isIn_0 rfl (lv_at hl 0 rfl) ?_
  refine lv_iload_n S.1 S.2.1 dX5_isIn_1 rfl (lv_at hl 1 rfl) ?_
  refine z_icmp_lt (tgt := 14) S dX5_isIn_2 (by decide) (by omega) (fun h_1 => ?_) (fun h_1 => ?_)
  · refine z_iconst S dX5_isIn_14 ?_
    exact z_retb S hr hlk (Or.inl rfl) ((b01_f (by omega)).symm) dX5_isIn_15
  · refine lv_iload_n S.1 S.2.1 dX5_isIn_5 rfl (lv_at hl 0 rfl) ?_
    refine lv_iload_n S.1 S.2.1 dX5_isIn_6 rfl (lv_at hl 2 rfl) ?_
    refine z_icmp_gt (tgt := 14) S dX5_isIn_7 (by decide) (by omega) (fun h_2 => ?_) (fun h_2 => ?_)
    · refine z_iconst S dX5_isIn_14 ?_
      exact z_retb S hr hlk (Or.inl rfl) ((b01_f (by omega)).symm) dX5_isIn_15
    · refine z_iconst S dX5_isIn_10 ?_
      refine z_goto (tgt := 15) S dX5_isIn_11 (by decide) ?_
      exact z_retb S hr hlk (Or.inr rfl) ((b01_t (by omega)).symm) dX5_isIn_15
set_option maxHeartbeats 4000000 in
set_option maxRecDepth 100000 in
theorem m_X5_isSpot (l : Launch) (D : va_G) (g : ClassId × ClassId × ClassId) (x : Int) (y : Int) (h0 : I32 x ∧ I32 y) : RD l yX5_isSpot cX5_isSpot 2 (some .boolean) 1 22 D g [] [.int (zI x), .int (zI y)] (b01 (inF x y)) := by
  refine z_enter RX5 (by decide) rfl (Nat.le_of_ble_eq_true rfl) ?_
  intro p e s m args below meth co S hr hlk hK hP ls hl
  have hl : lv_has ls 2 [(0, .int (zI x)), (1, .int (zI y))] := hl
  refine lv_iload_n S.1 S.2.1 dX5_isSpot_0 rfl (lv_at hl 0 rfl) ?_
  refine z_iconst S dX5_isSpot_1 ?_
  refine z_bipush S (by decide) dX5_isSpot_2 ?_
  refine z_rS (As := [.int (zI x), .int (zI 0), .int (zI 19)]) (rest := []) S (m_X5_isIn l D g x 0 19 (by omega)) ml_X5_56 sm_X5_isIn ini_X5 cd_X5_isIn ds_X5_isIn ⟨Nat.le_of_ble_eq_true rfl, Nat.le_of_ble_eq_true rfl⟩ hK va_P_nil rfl hl.1 rfl (Nat.le_of_ble_eq_true rfl) ⟨Nat.zero_le _, Nat.zero_le _⟩ dX5_isSpot_4 ?_
  refine z_ifb_eq (tgt := 24) S dX5_isSpot_7 (by decide) (fun h_1 => ?_) (fun h_1 => ?_)
  · refine z_iconst S dX5_isSpot_24 ?_
    exact z_retb S hr hlk (Or.inl rfl) ((b01_f (by omega)).symm) dX5_isSpot_25
  · refine lv_iload_n S.1 S.2.1 dX5_isSpot_10 rfl (lv_at hl 1 rfl) ?_
    refine z_iconst S dX5_isSpot_11 ?_
    refine z_bipush S (by decide) dX5_isSpot_12 ?_
    refine z_rS (As := [.int (zI y), .int (zI 0), .int (zI 19)]) (rest := []) S (m_X5_isIn l D g y 0 19 (by omega)) ml_X5_56 sm_X5_isIn ini_X5 cd_X5_isIn ds_X5_isIn ⟨Nat.le_of_ble_eq_true rfl, Nat.le_of_ble_eq_true rfl⟩ hK va_P_nil rfl hl.1 rfl (Nat.le_of_ble_eq_true rfl) ⟨Nat.zero_le _, Nat.zero_le _⟩ dX5_isSpot_14 ?_
    refine z_ifb_eq (tgt := 24) S dX5_isSpot_17 (by decide) (fun h_2 => ?_) (fun h_2 => ?_)
    · refine z_iconst S dX5_isSpot_24 ?_
      exact z_retb S hr hlk (Or.inl rfl) ((b01_f (by omega)).symm) dX5_isSpot_25
    · refine z_iconst S dX5_isSpot_20 ?_
      refine z_goto (tgt := 25) S dX5_isSpot_21 (by decide) ?_
      exact z_retb S hr hlk (Or.inr rfl) ((b01_t (by omega)).symm) dX5_isSpot_25
set_option maxHeartbeats 4000000 in
set_option maxRecDepth 100000 in
theorem m_X5_far (l : Launch) (D : va_G) (g : ClassId × ClassId × ClassId) (on : Int) (ot : Int) (h0 : 0 ≤ on ∧ on < 400) (h1 : 0 ≤ ot ∧ ot < 400) : RD l yX5_far cX5_far 2 (some .int) 1 21 D g [] [.int (zI on), .int (zI ot)] (dist on ot) := by
  refine z_enter RX5 (by decide) rfl (Nat.le_of_ble_eq_true rfl) ?_
  intro p e s m args below meth co S hr hlk hK hP ls hl
  have hl : lv_has ls 2 [(0, .int (zI on)), (1, .int (zI ot))] := hl
  refine lv_iload_n S.1 S.2.1 dX5_far_0 rfl (lv_at hl 0 rfl) ?_
  refine z_bipush S (by decide) dX5_far_1 ?_
  refine z_iremn S (by omega) dX5_far_3 ?_
  refine lv_iload_n S.1 S.2.1 dX5_far_4 rfl (lv_at hl 1 rfl) ?_
  refine z_bipush S (by decide) dX5_far_5 ?_
  refine z_iremn S (by omega) dX5_far_7 ?_
  refine z_isub S dX5_far_8 ?_
  refine z_abs S ml_X5_66 hl.1 (Nat.le_of_ble_eq_true rfl) (Nat.le_of_ble_eq_true rfl) ⟨Nat.zero_le _, Nat.zero_le _⟩ (by omega) dX5_far_9 ?_
  refine lv_iload_n S.1 S.2.1 dX5_far_12 rfl (lv_at hl 0 rfl) ?_
  refine z_bipush S (by decide) dX5_far_13 ?_
  refine z_idivn S (by omega) dX5_far_15 ?_
  refine lv_iload_n S.1 S.2.1 dX5_far_16 rfl (lv_at hl 1 rfl) ?_
  refine z_bipush S (by decide) dX5_far_17 ?_
  refine z_idivn S (by omega) dX5_far_19 ?_
  refine z_isub S dX5_far_20 ?_
  refine z_abs S ml_X5_66 hl.1 (Nat.le_of_ble_eq_true rfl) (Nat.le_of_ble_eq_true rfl) ⟨Nat.zero_le _, Nat.zero_le _⟩ (by omega) dX5_far_21 ?_
  refine z_iadd S dX5_far_24 ?_
  exact z_ret S hr hlk (by first | rfl | grind) dX5_far_25
set_option maxHeartbeats 4000000 in
set_option maxRecDepth 100000 in
theorem m_X5_isDowser (l : Launch) (D : va_G) (g : ClassId × ClassId × ClassId) (b : Nat → Nat) {B : Int} (c : CS) (hI : IM B c) (d : Int) (h0 : I32 d) : RD l yX5_isDowser cX5_isDowser 2 (some .boolean) 1 22 D g (MW g b c) [.ref (b 0), .int (zI d)] (b01 (mD c d)) := by
  refine z_enter RX5 (by decide) rfl (Nat.le_of_ble_eq_true rfl) ?_
  intro p e s m args below meth co S hr hlk hK hP ls hl
  have hl : lv_has ls 2 [(0, .ref (b 0)), (1, .int (zI d))] := hl
  have hs := hI.s
  refine lv_iload_n S.1 S.2.1 dX5_isDowser_0 rfl (lv_at hl 1 rfl) ?_
  refine z_iconst S dX5_isDowser_1 ?_
  refine lv_aload_n S.1 S.2.1 dX5_isDowser_2 rfl (lv_at hl 0 rfl) ?_
  refine z_get (v := .int (zI (c.1 4))) S inA5 hK hP 0 rfl rfl 7 (by decide) fl_X5_60 rfl dX5_isDowser_3 ?_
  refine z_iconst S dX5_isDowser_6 ?_
  refine z_isub S dX5_isDowser_7 ?_
  refine z_rS (As := [.int (zI d), .int (zI 0), .int (zI ((c.1 4) - 1))]) (rest := []) S (m_X5_isIn l D g d 0 ((c.1 4) - 1) (by omega)) ml_X5_56 sm_X5_isIn ini_X5 cd_X5_isIn ds_X5_isIn ⟨Nat.le_of_ble_eq_true rfl, Nat.le_of_ble_eq_true rfl⟩ hK va_P_nil rfl hl.1 rfl (Nat.le_of_ble_eq_true rfl) ⟨Nat.zero_le _, Nat.zero_le _⟩ dX5_isDowser_8 ?_
  exact z_retb S hr hlk (by have := b01_01 (0 ≤ d ∧ d ≤ ((c.1 4) - 1)); omega) (rfl) dX5_isDowser_11
set_option maxHeartbeats 4000000 in
set_option maxRecDepth 100000 in
theorem m_X5_isPit (l : Launch) (D : va_G) (g : ClassId × ClassId × ClassId) (b : Nat → Nat) {B : Int} (c : CS) (hI : IM B c) (q : Int) (h0 : I32 q) : RD l yX5_isPit cX5_isPit 2 (some .boolean) 1 22 D g (MW g b c) [.ref (b 0), .int (zI q)] (b01 (mP c q)) := by
  refine z_enter RX5 (by decide) rfl (Nat.le_of_ble_eq_true rfl) ?_
  intro p e s m args below meth co S hr hlk hK hP ls hl
  have hl : lv_has ls 2 [(0, .ref (b 0)), (1, .int (zI q))] := hl
  have hs := hI.s
  refine lv_iload_n S.1 S.2.1 dX5_isPit_0 rfl (lv_at hl 1 rfl) ?_
  refine z_iconst S dX5_isPit_1 ?_
  refine lv_aload_n S.1 S.2.1 dX5_isPit_2 rfl (lv_at hl 0 rfl) ?_
  refine z_get (v := .int (zI (c.1 6))) S inA5 hK hP 0 rfl rfl 15 (by decide) fl_X5_63 rfl dX5_isPit_3 ?_
  refine z_iconst S dX5_isPit_6 ?_
  refine z_isub S dX5_isPit_7 ?_
  refine z_rS (As := [.int (zI q), .int (zI 0), .int (zI ((c.1 6) - 1))]) (rest := []) S (m_X5_isIn l D g q 0 ((c.1 6) - 1) (by omega)) ml_X5_56 sm_X5_isIn ini_X5 cd_X5_isIn ds_X5_isIn ⟨Nat.le_of_ble_eq_true rfl, Nat.le_of_ble_eq_true rfl⟩ hK va_P_nil rfl hl.1 rfl (Nat.le_of_ble_eq_true rfl) ⟨Nat.zero_le _, Nat.zero_le _⟩ dX5_isPit_8 ?_
  exact z_retb S hr hlk (by have := b01_01 (0 ≤ q ∧ q ≤ ((c.1 6) - 1)); omega) (rfl) dX5_isPit_11
set_option maxHeartbeats 4000000 in
set_option maxRecDepth 100000 in
theorem m_X5_water (l : Launch) (D : va_G) (g : ClassId × ClassId × ClassId) (b : Nat → Nat) {B : Int} (c : CS) (hI : IM B c) (sp : Int) (h0 : 0 ≤ sp ∧ sp < 400) : RD l yX5_water cX5_water 4 (some .int) 0 0 D g (MW g b c) [.ref (b 0), .int (zI sp)] (mWat c sp (c.1 3).toNat) := by
  refine z_enter RX5 (by decide) rfl (Nat.le_of_ble_eq_true rfl) ?_
  intro p e s m args below meth co S hr hlk hK hP ls hl
  have hl : lv_has ls 4 [(0, .ref (b 0)), (1, .int (zI sp))] := hl
  have hs := hI.s
  refine z_iconst S dX5_water_0 ?_
  refine lv_istore_n (lv' := [(2, .int (zI 0)), (0, .ref (b 0)), (1, .int (zI sp))]) S.1 S.2.1 dX5_water_1 rfl hl (by decide) rfl (fun ls hl => ?_)
  refine z_iconst S dX5_water_2 ?_
  refine lv_istore_n (lv' := [(3, .int (zI 0)), (2, .int (zI 0)), (0, .ref (b 0)), (1, .int (zI sp))]) S.1 S.2.1 dX5_water_3 rfl hl (by decide) rfl (fun ls hl => ?_)
  refine z_for (nL := 4) ((c.1 3).toNat) (fun (k4 : Nat) => [(3, .int (zI (k4 : Int))), (2, .int (zI (mWat c sp k4))), (0, .ref (b 0)), (1, .int (zI sp))]) (fun k4 => True) (fun k4 hk4 hJ4 ls hl ih4 => ?_) (fun hJ4 ls hl => ?_) 0 (by omega) trivial ls (lv_sub hl [0, 1, 2, 3] rfl)
  · have hl : lv_has ls 4 [(3, .int (zI (k4 : Int))), (2, .int (zI (mWat c sp k4))), (0, .ref (b 0)), (1, .int (zI sp))] := hl
    refine lv_iload_n S.1 S.2.1 dX5_water_4 rfl (lv_at hl 0 rfl) ?_
    refine lv_aload_n S.1 S.2.1 dX5_water_5 rfl (lv_at hl 2 rfl) ?_
    refine z_get (v := .int (zI (c.1 3))) S inA5 hK hP 0 rfl rfl 3 (by decide) fl_X5_72 rfl dX5_water_6 ?_
    refine z_icmp_ge (tgt := 47) S dX5_water_9 (by decide) (by omega) (fun h_1 => ?_) (fun h_1 => ?_)
    · exact absurd h_1 (by omega)
    · refine lv_iload_n S.1 S.2.1 dX5_water_12 rfl (lv_at hl 1 rfl) ?_
      refine lv_aload_n S.1 S.2.1 dX5_water_13 rfl (lv_at hl 2 rfl) ?_
      refine z_get (v := .ref (b 3)) S inA5 hK hP 0 rfl rfl 6 (by decide) fl_X5_20 rfl dX5_water_14 ?_
      refine z_sipush S (by decide) dX5_water_17 ?_
      refine lv_iload_n S.1 S.2.1 dX5_water_20 rfl (lv_at hl 0 rfl) ?_
      refine z_imul S dX5_water_21 ?_
      refine lv_iload_n S.1 S.2.1 dX5_water_22 rfl (lv_at hl 3 rfl) ?_
      refine z_iadd S dX5_water_23 ?_
      refine z_iald S hK hP 3 rfl (by decide) (by omega) dX5_water_24 ?_
      have hb_2 := hI.r2 ((400 * (k4 : Int)) + sp)
      refine z_iconst S dX5_water_25 ?_
      refine z_icmp_ne (tgt := 38) S dX5_water_26 (by decide) (by omega) (fun h_3 => ?_) (fun h_3 => ?_)
      · refine z_iconst S dX5_water_38 ?_
        refine z_iadd S dX5_water_39 ?_
        refine lv_istore_n (lv' := [(2, .int (zI ((mWat c sp k4) + 0))), (3, .int (zI (k4 : Int))), (0, .ref (b 0)), (1, .int (zI sp))]) S.1 S.2.1 dX5_water_40 rfl hl (by decide) rfl (fun ls hl => ?_)
        refine z_iinc (lv' := [(3, .int (zI ((k4 : Int) + 1))), (2, .int (zI ((mWat c sp k4) + 0))), (0, .ref (b 0)), (1, .int (zI sp))]) S dX5_water_41 hl (k := 1) rfl (by decide) rfl (fun ls hl => ?_)
        refine z_goto (tgt := 4) S dX5_water_44 (by decide) ?_
        have e_4 : mWat c sp (k4 + 1) = (mWat c sp k4) + 0 := by grind [mWat, sm]
        exact ih4 _ (lv_sub hl [0, 1, 2, 3] (by show _ = ([(3, .int (zI ((k4 + 1 : Nat) : Int))), (2, .int (zI (mWat c sp (k4 + 1)))), (0, .ref (b 0)), (1, .int (zI sp))] : List (Nat × Value)); rw [e_4]; first | done | rfl)) trivial
      · refine lv_aload_n S.1 S.2.1 dX5_water_29 rfl (lv_at hl 2 rfl) ?_
        refine z_get (v := .ref (b 2)) S inA5 hK hP 0 rfl rfl 5 (by decide) fl_X5_17 rfl dX5_water_30 ?_
        refine lv_iload_n S.1 S.2.1 dX5_water_33 rfl (lv_at hl 0 rfl) ?_
        refine z_iald S hK hP 2 rfl (by decide) (by omega) dX5_water_34 ?_
        have hb_5 := hI.r1 (k4 : Int)
        refine z_goto (tgt := 39) S dX5_water_35 (by decide) ?_
        refine z_iadd S dX5_water_39 ?_
        refine lv_istore_n (lv' := [(2, .int (zI ((mWat c sp k4) + (c.2 1 (k4 : Int))))), (3, .int (zI (k4 : Int))), (0, .ref (b 0)), (1, .int (zI sp))]) S.1 S.2.1 dX5_water_40 rfl hl (by decide) rfl (fun ls hl => ?_)
        refine z_iinc (lv' := [(3, .int (zI ((k4 : Int) + 1))), (2, .int (zI ((mWat c sp k4) + (c.2 1 (k4 : Int))))), (0, .ref (b 0)), (1, .int (zI sp))]) S dX5_water_41 hl (k := 1) rfl (by decide) rfl (fun ls hl => ?_)
        refine z_goto (tgt := 4) S dX5_water_44 (by decide) ?_
        have e_6 : mWat c sp (k4 + 1) = (mWat c sp k4) + (c.2 1 (k4 : Int)) := by grind [mWat, sm]
        exact ih4 _ (lv_sub hl [0, 1, 2, 3] (by show _ = ([(3, .int (zI ((k4 + 1 : Nat) : Int))), (2, .int (zI (mWat c sp (k4 + 1)))), (0, .ref (b 0)), (1, .int (zI sp))] : List (Nat × Value)); rw [e_6]; first | done | rfl)) trivial
  · have hl : lv_has ls 4 [(3, .int (zI (((c.1 3).toNat : Nat) : Int))), (2, .int (zI (mWat c sp ((c.1 3).toNat)))), (0, .ref (b 0)), (1, .int (zI sp))] := hl
    refine lv_iload_n S.1 S.2.1 dX5_water_4 rfl (lv_at hl 0 rfl) ?_
    refine lv_aload_n S.1 S.2.1 dX5_water_5 rfl (lv_at hl 2 rfl) ?_
    refine z_get (v := .int (zI (c.1 3))) S inA5 hK hP 0 rfl rfl 3 (by decide) fl_X5_72 rfl dX5_water_6 ?_
    refine z_icmp_ge (tgt := 47) S dX5_water_9 (by decide) (by omega) (fun h_7 => ?_) (fun h_7 => ?_)
    · refine lv_iload_n S.1 S.2.1 dX5_water_47 rfl (lv_at hl 1 rfl) ?_
      exact z_ret S hr hlk (by first | rfl | grind) dX5_water_48
    · exact absurd h_7 (by omega)
set_option maxHeartbeats 4000000 in
set_option maxRecDepth 100000 in
theorem m_X5_depth (l : Launch) (D : va_G) (g : ClassId × ClassId × ClassId) (b : Nat → Nat) {B : Int} (c : CS) (hI : IM B c) (sp : Int) (h0 : 0 ≤ sp ∧ sp < 400) : RD l yX5_depth cX5_depth 4 (some .int) 0 0 D g (MW g b c) [.ref (b 0), .int (zI sp)] (mDep c sp (c.1 3).toNat) := by
  refine z_enter RX5 (by decide) rfl (Nat.le_of_ble_eq_true rfl) ?_
  intro p e s m args below meth co S hr hlk hK hP ls hl
  have hl : lv_has ls 4 [(0, .ref (b 0)), (1, .int (zI sp))] := hl
  have hs := hI.s
  refine z_iconst S dX5_depth_0 ?_
  refine lv_istore_n (lv' := [(2, .int (zI 0)), (0, .ref (b 0)), (1, .int (zI sp))]) S.1 S.2.1 dX5_depth_1 rfl hl (by decide) rfl (fun ls hl => ?_)
  refine z_iconst S dX5_depth_2 ?_
  refine lv_istore_n (lv' := [(3, .int (zI 0)), (2, .int (zI 0)), (0, .ref (b 0)), (1, .int (zI sp))]) S.1 S.2.1 dX5_depth_3 rfl hl (by decide) rfl (fun ls hl => ?_)
  refine z_for (nL := 4) ((c.1 3).toNat) (fun (k4 : Nat) => [(3, .int (zI (k4 : Int))), (2, .int (zI (mDep c sp k4))), (0, .ref (b 0)), (1, .int (zI sp))]) (fun k4 => True) (fun k4 hk4 hJ4 ls hl ih4 => ?_) (fun hJ4 ls hl => ?_) 0 (by omega) trivial ls (lv_sub hl [0, 1, 2, 3] rfl)
  · have hl : lv_has ls 4 [(3, .int (zI (k4 : Int))), (2, .int (zI (mDep c sp k4))), (0, .ref (b 0)), (1, .int (zI sp))] := hl
    have hb0 := mDep_b hI sp k4
    refine lv_iload_n S.1 S.2.1 dX5_depth_4 rfl (lv_at hl 0 rfl) ?_
    refine lv_aload_n S.1 S.2.1 dX5_depth_5 rfl (lv_at hl 2 rfl) ?_
    refine z_get (v := .int (zI (c.1 3))) S inA5 hK hP 0 rfl rfl 3 (by decide) fl_X5_72 rfl dX5_depth_6 ?_
    refine z_icmp_ge (tgt := 55) S dX5_depth_9 (by decide) (by omega) (fun h_1 => ?_) (fun h_1 => ?_)
    · exact absurd h_1 (by omega)
    · refine lv_aload_n S.1 S.2.1 dX5_depth_12 rfl (lv_at hl 2 rfl) ?_
      refine z_get (v := .ref (b 3)) S inA5 hK hP 0 rfl rfl 6 (by decide) fl_X5_20 rfl dX5_depth_13 ?_
      refine z_sipush S (by decide) dX5_depth_16 ?_
      refine lv_iload_n S.1 S.2.1 dX5_depth_19 rfl (lv_at hl 0 rfl) ?_
      refine z_imul S dX5_depth_20 ?_
      refine lv_iload_n S.1 S.2.1 dX5_depth_21 rfl (lv_at hl 3 rfl) ?_
      refine z_iadd S dX5_depth_22 ?_
      refine z_iald S hK hP 3 rfl (by decide) (by omega) dX5_depth_23 ?_
      have hb_2 := hI.r2 ((400 * (k4 : Int)) + sp)
      refine z_iconst S dX5_depth_24 ?_
      refine z_icmp_ne (tgt := 49) S dX5_depth_25 (by decide) (by omega) (fun h_3 => ?_) (fun h_3 => ?_)
      · refine z_iinc (lv' := [(3, .int (zI ((k4 : Int) + 1))), (2, .int (zI (mDep c sp k4))), (0, .ref (b 0)), (1, .int (zI sp))]) S dX5_depth_49 hl (k := 0) rfl (by decide) rfl (fun ls hl => ?_)
        refine z_goto (tgt := 4) S dX5_depth_52 (by decide) ?_
        have e_4 : mDep c sp (k4 + 1) = mDep c sp k4 := by grind [mDep]
        exact ih4 _ (lv_sub hl [0, 1, 2, 3] (by show _ = ([(3, .int (zI ((k4 + 1 : Nat) : Int))), (2, .int (zI (mDep c sp (k4 + 1)))), (0, .ref (b 0)), (1, .int (zI sp))] : List (Nat × Value)); rw [e_4]; first | done | rfl)) trivial
      · refine lv_iload_n S.1 S.2.1 dX5_depth_28 rfl (lv_at hl 1 rfl) ?_
        refine z_if_eq (tgt := 42) S dX5_depth_29 (by decide) (by omega) (fun h_5 => ?_) (fun h_5 => ?_)
        · refine lv_aload_n S.1 S.2.1 dX5_depth_42 rfl (lv_at hl 2 rfl) ?_
          refine z_get (v := .ref (b 1)) S inA5 hK hP 0 rfl rfl 4 (by decide) fl_X5_13 rfl dX5_depth_43 ?_
          refine lv_iload_n S.1 S.2.1 dX5_depth_46 rfl (lv_at hl 0 rfl) ?_
          refine z_iald S hK hP 1 rfl (by decide) (by omega) dX5_depth_47 ?_
          have hb_6 := hI.r0 (k4 : Int)
          refine lv_istore_n (lv' := [(2, .int (zI (c.2 0 (k4 : Int)))), (3, .int (zI (k4 : Int))), (0, .ref (b 0)), (1, .int (zI sp))]) S.1 S.2.1 dX5_depth_48 rfl hl (by decide) rfl (fun ls hl => ?_)
          refine z_iinc (lv' := [(3, .int (zI ((k4 : Int) + 1))), (2, .int (zI (c.2 0 (k4 : Int)))), (0, .ref (b 0)), (1, .int (zI sp))]) S dX5_depth_49 hl (k := 1) rfl (by decide) rfl (fun ls hl => ?_)
          refine z_goto (tgt := 4) S dX5_depth_52 (by decide) ?_
          have e_7 : mDep c sp (k4 + 1) = c.2 0 (k4 : Int) := by grind [mDep]
          exact ih4 _ (lv_sub hl [0, 1, 2, 3] (by show _ = ([(3, .int (zI ((k4 + 1 : Nat) : Int))), (2, .int (zI (mDep c sp (k4 + 1)))), (0, .ref (b 0)), (1, .int (zI sp))] : List (Nat × Value)); rw [e_7]; first | done | rfl)) trivial
        · refine lv_aload_n S.1 S.2.1 dX5_depth_32 rfl (lv_at hl 2 rfl) ?_
          refine z_get (v := .ref (b 1)) S inA5 hK hP 0 rfl rfl 4 (by decide) fl_X5_13 rfl dX5_depth_33 ?_
          refine lv_iload_n S.1 S.2.1 dX5_depth_36 rfl (lv_at hl 0 rfl) ?_
          refine z_iald S hK hP 1 rfl (by decide) (by omega) dX5_depth_37 ?_
          have hb_8 := hI.r0 (k4 : Int)
          refine lv_iload_n S.1 S.2.1 dX5_depth_38 rfl (lv_at hl 1 rfl) ?_
          refine z_icmp_ge (tgt := 49) S dX5_depth_39 (by decide) (by omega) (fun h_9 => ?_) (fun h_9 => ?_)
          · refine z_iinc (lv' := [(3, .int (zI ((k4 : Int) + 1))), (2, .int (zI (mDep c sp k4))), (0, .ref (b 0)), (1, .int (zI sp))]) S dX5_depth_49 hl (k := 0) rfl (by decide) rfl (fun ls hl => ?_)
            refine z_goto (tgt := 4) S dX5_depth_52 (by decide) ?_
            have e_10 : mDep c sp (k4 + 1) = mDep c sp k4 := by grind [mDep]
            exact ih4 _ (lv_sub hl [0, 1, 2, 3] (by show _ = ([(3, .int (zI ((k4 + 1 : Nat) : Int))), (2, .int (zI (mDep c sp (k4 + 1)))), (0, .ref (b 0)), (1, .int (zI sp))] : List (Nat × Value)); rw [e_10]; first | done | rfl)) trivial
          · refine lv_aload_n S.1 S.2.1 dX5_depth_42 rfl (lv_at hl 2 rfl) ?_
            refine z_get (v := .ref (b 1)) S inA5 hK hP 0 rfl rfl 4 (by decide) fl_X5_13 rfl dX5_depth_43 ?_
            refine lv_iload_n S.1 S.2.1 dX5_depth_46 rfl (lv_at hl 0 rfl) ?_
            refine z_iald S hK hP 1 rfl (by decide) (by omega) dX5_depth_47 ?_
            have hb_11 := hI.r0 (k4 : Int)
            refine lv_istore_n (lv' := [(2, .int (zI (c.2 0 (k4 : Int)))), (3, .int (zI (k4 : Int))), (0, .ref (b 0)), (1, .int (zI sp))]) S.1 S.2.1 dX5_depth_48 rfl hl (by decide) rfl (fun ls hl => ?_)
            refine z_iinc (lv' := [(3, .int (zI ((k4 : Int) + 1))), (2, .int (zI (c.2 0 (k4 : Int)))), (0, .ref (b 0)), (1, .int (zI sp))]) S dX5_depth_49 hl (k := 1) rfl (by decide) rfl (fun ls hl => ?_)
            refine z_goto (tgt := 4) S dX5_depth_52 (by decide) ?_
            have e_12 : mDep c sp (k4 + 1) = c.2 0 (k4 : Int) := by grind [mDep]
            exact ih4 _ (lv_sub hl [0, 1, 2, 3] (by show _ = ([(3, .int (zI ((k4 + 1 : Nat) : Int))), (2, .int (zI (mDep c sp (k4 + 1)))), (0, .ref (b 0)), (1, .int (zI sp))] : List (Nat × Value)); rw [e_12]; first | done | rfl)) trivial
  · have hl : lv_has ls 4 [(3, .int (zI (((c.1 3).toNat : Nat) : Int))), (2, .int (zI (mDep c sp ((c.1 3).toNat)))), (0, .ref (b 0)), (1, .int (zI sp))] := hl
    refine lv_iload_n S.1 S.2.1 dX5_depth_4 rfl (lv_at hl 0 rfl) ?_
    refine lv_aload_n S.1 S.2.1 dX5_depth_5 rfl (lv_at hl 2 rfl) ?_
    refine z_get (v := .int (zI (c.1 3))) S inA5 hK hP 0 rfl rfl 3 (by decide) fl_X5_72 rfl dX5_depth_6 ?_
    refine z_icmp_ge (tgt := 55) S dX5_depth_9 (by decide) (by omega) (fun h_13 => ?_) (fun h_13 => ?_)
    · refine lv_iload_n S.1 S.2.1 dX5_depth_55 rfl (lv_at hl 1 rfl) ?_
      exact z_ret S hr hlk (by first | rfl | grind) dX5_depth_56
    · exact absurd h_13 (by omega)
set_option maxHeartbeats 4000000 in
set_option maxRecDepth 100000 in
theorem m_X5_bends (l : Launch) (D : va_G) (g : ClassId × ClassId × ClassId) (b : Nat → Nat) {B : Int} (c : CS) (hI : IM B c) (d : Int) (sp : Int) (h0 : 0 ≤ d ∧ d < 5) (h1 : 0 ≤ sp ∧ sp < 400) : RD l yX5_bends cX5_bends 7 (some .int) 1 21 D g (MW g b c) [.ref (b 0), .int (zI d), .int (zI sp)] (mBnd c d sp) := by
  refine z_enter RX5 (by decide) rfl (Nat.le_of_ble_eq_true rfl) ?_
  intro p e s m args below meth co S hr hlk hK hP ls hl
  have hl : lv_has ls 7 [(0, .ref (b 0)), (1, .int (zI d)), (2, .int (zI sp))] := hl
  have hs := hI.s
  refine lv_aload_n S.1 S.2.1 dX5_bends_0 rfl (lv_at hl 0 rfl) ?_
  refine z_get (v := .ref (b 5)) S inA5 hK hP 0 rfl rfl 9 (by decide) fl_X5_26 rfl dX5_bends_1 ?_
  refine lv_iload_n S.1 S.2.1 dX5_bends_4 rfl (lv_at hl 1 rfl) ?_
  refine z_iald S hK hP 5 rfl (by decide) (by omega) dX5_bends_5 ?_
  have hb_1 := hI.r4 d
  refine lv_istore_n (lv' := [(3, .int (zI (c.2 4 d))), (0, .ref (b 0)), (1, .int (zI d)), (2, .int (zI sp))]) S.1 S.2.1 dX5_bends_6 rfl hl (by decide) rfl (fun ls hl => ?_)
  refine z_iconst S dX5_bends_7 ?_
  refine lv_istore (lv' := [(4, .int (zI 0)), (3, .int (zI (c.2 4 d))), (0, .ref (b 0)), (1, .int (zI d)), (2, .int (zI sp))]) S.1 S.2.1 dX5_bends_8 hl (by decide) rfl (fun ls hl => ?_)
  refine z_for (nL := 7) ((c.1 3).toNat) (fun (k10 : Nat) => [(4, .int (zI (k10 : Int))), (3, .int (zI (mB c d sp k10))), (0, .ref (b 0)), (1, .int (zI d)), (2, .int (zI sp))]) (fun k10 => True) (fun k10 hk10 hJ10 ls hl ih10 => ?_) (fun hJ10 ls hl => ?_) 0 (by omega) trivial ls (lv_sub hl [0, 1, 2, 3, 4] rfl)
  · have hl : lv_has ls 7 [(4, .int (zI (k10 : Int))), (3, .int (zI (mB c d sp k10))), (0, .ref (b 0)), (1, .int (zI d)), (2, .int (zI sp))] := hl
    have hb0 := mB_b hI d sp k10
    have hb1 := mw_b hI d (k10 : Int)
    have hb2 := hI.v (k10 : Int) (by omega)
    refine lv_iload S.1 S.2.1 dX5_bends_10 (lv_at hl 0 rfl) ?_
    refine lv_aload_n S.1 S.2.1 dX5_bends_12 rfl (lv_at hl 2 rfl) ?_
    refine z_get (v := .int (zI (c.1 3))) S inA5 hK hP 0 rfl rfl 3 (by decide) fl_X5_72 rfl dX5_bends_13 ?_
    refine z_icmp_ge (tgt := 92) S dX5_bends_16 (by decide) (by omega) (fun h_2 => ?_) (fun h_2 => ?_)
    · exact absurd h_2 (by omega)
    · refine lv_aload_n S.1 S.2.1 dX5_bends_19 rfl (lv_at hl 2 rfl) ?_
      refine z_get (v := .ref (b 2)) S inA5 hK hP 0 rfl rfl 5 (by decide) fl_X5_17 rfl dX5_bends_20 ?_
      refine lv_iload S.1 S.2.1 dX5_bends_23 (lv_at hl 0 rfl) ?_
      refine z_iald S hK hP 2 rfl (by decide) (by omega) dX5_bends_25 ?_
      have hb_3 := hI.r1 (k10 : Int)
      refine lv_aload_n S.1 S.2.1 dX5_bends_26 rfl (lv_at hl 2 rfl) ?_
      refine z_get (v := .ref (b 4)) S inA5 hK hP 0 rfl rfl 8 (by decide) fl_X5_23 rfl dX5_bends_27 ?_
      refine lv_iload_n S.1 S.2.1 dX5_bends_30 rfl (lv_at hl 3 rfl) ?_
      refine z_iald S hK hP 4 rfl (by decide) (by omega) dX5_bends_31 ?_
      have hb_4 := hI.r3 d
      refine z_imul S dX5_bends_32 ?_
      refine lv_aload_n S.1 S.2.1 dX5_bends_33 rfl (lv_at hl 2 rfl) ?_
      refine z_get (v := .ref (b 1)) S inA5 hK hP 0 rfl rfl 4 (by decide) fl_X5_13 rfl dX5_bends_34 ?_
      refine lv_iload S.1 S.2.1 dX5_bends_37 (lv_at hl 0 rfl) ?_
      refine z_iald S hK hP 1 rfl (by decide) (by omega) dX5_bends_39 ?_
      have hb_5 := hI.r0 (k10 : Int)
      refine z_idivn S (by omega) dX5_bends_40 ?_
      refine lv_istore (lv' := [(5, .int (zI (((c.2 1 (k10 : Int)) * (c.2 3 d)) / (c.2 0 (k10 : Int))))), (4, .int (zI (k10 : Int))), (3, .int (zI (mB c d sp k10))), (0, .ref (b 0)), (1, .int (zI d)), (2, .int (zI sp))]) S.1 S.2.1 dX5_bends_41 hl (by decide) rfl (fun ls hl => ?_)
      refine lv_aload_n S.1 S.2.1 dX5_bends_43 rfl (lv_at hl 3 rfl) ?_
      refine z_get (v := .ref (b 3)) S inA5 hK hP 0 rfl rfl 6 (by decide) fl_X5_20 rfl dX5_bends_44 ?_
      refine z_sipush S (by decide) dX5_bends_47 ?_
      refine lv_iload S.1 S.2.1 dX5_bends_50 (lv_at hl 1 rfl) ?_
      refine z_imul S dX5_bends_52 ?_
      refine lv_iload_n S.1 S.2.1 dX5_bends_53 rfl (lv_at hl 5 rfl) ?_
      refine z_iadd S dX5_bends_54 ?_
      refine z_iald S hK hP 3 rfl (by decide) (by omega) dX5_bends_55 ?_
      have hb_6 := hI.r2 ((400 * (k10 : Int)) + sp)
      refine lv_istore (lv' := [(6, .int (zI (c.2 2 ((400 * (k10 : Int)) + sp)))), (5, .int (zI (((c.2 1 (k10 : Int)) * (c.2 3 d)) / (c.2 0 (k10 : Int))))), (4, .int (zI (k10 : Int))), (3, .int (zI (mB c d sp k10))), (0, .ref (b 0)), (1, .int (zI d)), (2, .int (zI sp))]) S.1 S.2.1 dX5_bends_56 hl (by decide) rfl (fun ls hl => ?_)
      refine lv_iload_n S.1 S.2.1 dX5_bends_58 rfl (lv_at hl 3 rfl) ?_
      refine lv_iload S.1 S.2.1 dX5_bends_59 (lv_at hl 0 rfl) ?_
      refine z_iconst S dX5_bends_61 ?_
      refine z_icmp_ne (tgt := 70) S dX5_bends_62 (by decide) (by omega) (fun h_7 => ?_) (fun h_7 => ?_)
      · refine lv_iload S.1 S.2.1 dX5_bends_70 (lv_at hl 0 rfl) ?_
        refine z_iconst S dX5_bends_72 ?_
        refine z_icmp_ne (tgt := 83) S dX5_bends_73 (by decide) (by omega) (fun h_8 => ?_) (fun h_8 => ?_)
        · refine z_iconst S dX5_bends_83 ?_
          refine z_iadd S dX5_bends_84 ?_
          refine lv_istore_n (lv' := [(3, .int (zI ((mB c d sp k10) + 0))), (6, .int (zI (c.2 2 ((400 * (k10 : Int)) + sp)))), (5, .int (zI (((c.2 1 (k10 : Int)) * (c.2 3 d)) / (c.2 0 (k10 : Int))))), (4, .int (zI (k10 : Int))), (0, .ref (b 0)), (1, .int (zI d)), (2, .int (zI sp))]) S.1 S.2.1 dX5_bends_85 rfl hl (by decide) rfl (fun ls hl => ?_)
          refine z_iinc (lv' := [(4, .int (zI ((k10 : Int) + 1))), (3, .int (zI ((mB c d sp k10) + 0))), (6, .int (zI (c.2 2 ((400 * (k10 : Int)) + sp)))), (5, .int (zI (((c.2 1 (k10 : Int)) * (c.2 3 d)) / (c.2 0 (k10 : Int))))), (0, .ref (b 0)), (1, .int (zI d)), (2, .int (zI sp))]) S dX5_bends_86 hl (k := 3) rfl (by decide) rfl (fun ls hl => ?_)
          refine z_goto (tgt := 10) S dX5_bends_89 (by decide) ?_
          have e_9 : mB c d sp (k10 + 1) = (mB c d sp k10) + 0 := by grind [mB, mtrm]
          exact ih10 _ (lv_sub hl [0, 1, 4, 5, 6] (by show _ = ([(4, .int (zI ((k10 + 1 : Nat) : Int))), (3, .int (zI (mB c d sp (k10 + 1)))), (0, .ref (b 0)), (1, .int (zI d)), (2, .int (zI sp))] : List (Nat × Value)); rw [e_9]; first | done | rfl)) trivial
        · refine lv_iload S.1 S.2.1 dX5_bends_76 (lv_at hl 1 rfl) ?_
          refine z_iconst S dX5_bends_78 ?_
          refine z_idivn S (by omega) dX5_bends_79 ?_
          refine z_goto (tgt := 84) S dX5_bends_80 (by decide) ?_
          refine z_iadd S dX5_bends_84 ?_
          refine lv_istore_n (lv' := [(3, .int (zI ((mB c d sp k10) + ((((c.2 1 (k10 : Int)) * (c.2 3 d)) / (c.2 0 (k10 : Int))) / 2)))), (6, .int (zI (c.2 2 ((400 * (k10 : Int)) + sp)))), (5, .int (zI (((c.2 1 (k10 : Int)) * (c.2 3 d)) / (c.2 0 (k10 : Int))))), (4, .int (zI (k10 : Int))), (0, .ref (b 0)), (1, .int (zI d)), (2, .int (zI sp))]) S.1 S.2.1 dX5_bends_85 rfl hl (by decide) rfl (fun ls hl => ?_)
          refine z_iinc (lv' := [(4, .int (zI ((k10 : Int) + 1))), (3, .int (zI ((mB c d sp k10) + ((((c.2 1 (k10 : Int)) * (c.2 3 d)) / (c.2 0 (k10 : Int))) / 2)))), (6, .int (zI (c.2 2 ((400 * (k10 : Int)) + sp)))), (5, .int (zI (((c.2 1 (k10 : Int)) * (c.2 3 d)) / (c.2 0 (k10 : Int))))), (0, .ref (b 0)), (1, .int (zI d)), (2, .int (zI sp))]) S dX5_bends_86 hl (k := 3) rfl (by decide) rfl (fun ls hl => ?_)
          refine z_goto (tgt := 10) S dX5_bends_89 (by decide) ?_
          have e_10 : mB c d sp (k10 + 1) = (mB c d sp k10) + ((((c.2 1 (k10 : Int)) * (c.2 3 d)) / (c.2 0 (k10 : Int))) / 2) := by grind [mB, mtrm]
          exact ih10 _ (lv_sub hl [0, 1, 4, 5, 6] (by show _ = ([(4, .int (zI ((k10 + 1 : Nat) : Int))), (3, .int (zI (mB c d sp (k10 + 1)))), (0, .ref (b 0)), (1, .int (zI d)), (2, .int (zI sp))] : List (Nat × Value)); rw [e_10]; first | done | rfl)) trivial
      · refine lv_iload S.1 S.2.1 dX5_bends_65 (lv_at hl 1 rfl) ?_
        refine z_goto (tgt := 84) S dX5_bends_67 (by decide) ?_
        refine z_iadd S dX5_bends_84 ?_
        refine lv_istore_n (lv' := [(3, .int (zI ((mB c d sp k10) + (((c.2 1 (k10 : Int)) * (c.2 3 d)) / (c.2 0 (k10 : Int)))))), (6, .int (zI (c.2 2 ((400 * (k10 : Int)) + sp)))), (5, .int (zI (((c.2 1 (k10 : Int)) * (c.2 3 d)) / (c.2 0 (k10 : Int))))), (4, .int (zI (k10 : Int))), (0, .ref (b 0)), (1, .int (zI d)), (2, .int (zI sp))]) S.1 S.2.1 dX5_bends_85 rfl hl (by decide) rfl (fun ls hl => ?_)
        refine z_iinc (lv' := [(4, .int (zI ((k10 : Int) + 1))), (3, .int (zI ((mB c d sp k10) + (((c.2 1 (k10 : Int)) * (c.2 3 d)) / (c.2 0 (k10 : Int)))))), (6, .int (zI (c.2 2 ((400 * (k10 : Int)) + sp)))), (5, .int (zI (((c.2 1 (k10 : Int)) * (c.2 3 d)) / (c.2 0 (k10 : Int))))), (0, .ref (b 0)), (1, .int (zI d)), (2, .int (zI sp))]) S dX5_bends_86 hl (k := 3) rfl (by decide) rfl (fun ls hl => ?_)
        refine z_goto (tgt := 10) S dX5_bends_89 (by decide) ?_
        have e_11 : mB c d sp (k10 + 1) = (mB c d sp k10) + (((c.2 1 (k10 : Int)) * (c.2 3 d)) / (c.2 0 (k10 : Int))) := by grind [mB, mtrm]
        exact ih10 _ (lv_sub hl [0, 1, 4, 5, 6] (by show _ = ([(4, .int (zI ((k10 + 1 : Nat) : Int))), (3, .int (zI (mB c d sp (k10 + 1)))), (0, .ref (b 0)), (1, .int (zI d)), (2, .int (zI sp))] : List (Nat × Value)); rw [e_11]; first | done | rfl)) trivial
  · have hl : lv_has ls 7 [(4, .int (zI (((c.1 3).toNat : Nat) : Int))), (3, .int (zI (mB c d sp ((c.1 3).toNat)))), (0, .ref (b 0)), (1, .int (zI d)), (2, .int (zI sp))] := hl
    have hb0 := mB_b hI d sp ((c.1 3).toNat)
    refine lv_iload S.1 S.2.1 dX5_bends_10 (lv_at hl 0 rfl) ?_
    refine lv_aload_n S.1 S.2.1 dX5_bends_12 rfl (lv_at hl 2 rfl) ?_
    refine z_get (v := .int (zI (c.1 3))) S inA5 hK hP 0 rfl rfl 3 (by decide) fl_X5_72 rfl dX5_bends_13 ?_
    refine z_icmp_ge (tgt := 92) S dX5_bends_16 (by decide) (by omega) (fun h_12 => ?_) (fun h_12 => ?_)
    · refine z_iconst S dX5_bends_92 ?_
      refine lv_iload_n S.1 S.2.1 dX5_bends_93 rfl (lv_at hl 1 rfl) ?_
      refine z_max S ml_X5_75 hl.1 (Nat.le_of_ble_eq_true rfl) (Nat.le_of_ble_eq_true rfl) ⟨Nat.zero_le _, Nat.zero_le _⟩ (by omega) dX5_bends_94 ?_
      exact z_ret S hr hlk (by first | rfl | grind) dX5_bends_97
    · exact absurd h_12 (by omega)
set_option maxHeartbeats 4000000 in
set_option maxRecDepth 100000 in
theorem m_X5_pitAt (l : Launch) (D : va_G) (g : ClassId × ClassId × ClassId) (b : Nat → Nat) {B : Int} (c : CS) (hI : IM B c) (sp : Int) (h0 : 0 ≤ sp ∧ sp < 400) : RD l yX5_pitAt cX5_pitAt 3 (some .int) 0 0 D g (MW g b c) [.ref (b 0), .int (zI sp)] (mPA c sp) := by
  refine z_enter RX5 (by decide) rfl (Nat.le_of_ble_eq_true rfl) ?_
  intro p e s m args below meth co S hr hlk hK hP ls hl
  have hl : lv_has ls 3 [(0, .ref (b 0)), (1, .int (zI sp))] := hl
  have hs := hI.s
  refine z_iconst S dX5_pitAt_0 ?_
  refine lv_istore_n (lv' := [(2, .int (zI 0)), (0, .ref (b 0)), (1, .int (zI sp))]) S.1 S.2.1 dX5_pitAt_1 rfl hl (by decide) rfl (fun ls hl => ?_)
  refine z_for (nL := 3) ((c.1 6).toNat) (fun (k2 : Nat) => [(2, .int (zI (k2 : Int))), (0, .ref (b 0)), (1, .int (zI sp))]) (fun k2 => ff (fun k => c.2 9 k = sp) k2 = -1) (fun k2 hk2 hJ2 ls hl ih2 => ?_) (fun hJ2 ls hl => ?_) 0 (by omega) rfl ls (lv_sub hl [0, 1, 2] rfl)
  · have hl : lv_has ls 3 [(2, .int (zI (k2 : Int))), (0, .ref (b 0)), (1, .int (zI sp))] := hl
    have hJ2 : ff (fun k => c.2 9 k = sp) k2 = -1 := hJ2
    refine lv_iload_n S.1 S.2.1 dX5_pitAt_2 rfl (lv_at hl 0 rfl) ?_
    refine lv_aload_n S.1 S.2.1 dX5_pitAt_3 rfl (lv_at hl 1 rfl) ?_
    refine z_get (v := .int (zI (c.1 6))) S inA5 hK hP 0 rfl rfl 15 (by decide) fl_X5_63 rfl dX5_pitAt_4 ?_
    refine z_icmp_ge (tgt := 28) S dX5_pitAt_7 (by decide) (by omega) (fun h_1 => ?_) (fun h_1 => ?_)
    · exact absurd h_1 (by omega)
    · refine lv_aload_n S.1 S.2.1 dX5_pitAt_10 rfl (lv_at hl 1 rfl) ?_
      refine z_get (v := .ref (b 10)) S inA5 hK hP 0 rfl rfl 16 (by decide) fl_X5_41 rfl dX5_pitAt_11 ?_
      refine lv_iload_n S.1 S.2.1 dX5_pitAt_14 rfl (lv_at hl 0 rfl) ?_
      refine z_iald S hK hP 10 rfl (by decide) (by omega) dX5_pitAt_15 ?_
      have hb_2 := hI.r9 (k2 : Int)
      refine lv_iload_n S.1 S.2.1 dX5_pitAt_16 rfl (lv_at hl 2 rfl) ?_
      refine z_icmp_ne (tgt := 22) S dX5_pitAt_17 (by decide) (by omega) (fun h_3 => ?_) (fun h_3 => ?_)
      · refine z_iinc (lv' := [(2, .int (zI ((k2 : Int) + 1))), (0, .ref (b 0)), (1, .int (zI sp))]) S dX5_pitAt_22 hl (k := 0) rfl (by decide) rfl (fun ls hl => ?_)
        refine z_goto (tgt := 2) S dX5_pitAt_25 (by decide) ?_
        exact ih2 _ (lv_sub hl [0, 1, 2] rfl) (ff_no hJ2 (by show ¬ c.2 9 (k2 : Int) = sp; omega))
      · refine lv_iload_n S.1 S.2.1 dX5_pitAt_20 rfl (lv_at hl 0 rfl) ?_
        exact z_ret S hr hlk ((ff_hit hJ2 (by show c.2 9 (k2 : Int) = sp; omega) _ (by omega)).symm) dX5_pitAt_21
  · have hl : lv_has ls 3 [(2, .int (zI (((c.1 6).toNat : Nat) : Int))), (0, .ref (b 0)), (1, .int (zI sp))] := hl
    have hJ2 : ff (fun k => c.2 9 k = sp) ((c.1 6).toNat) = -1 := hJ2
    refine lv_iload_n S.1 S.2.1 dX5_pitAt_2 rfl (lv_at hl 0 rfl) ?_
    refine lv_aload_n S.1 S.2.1 dX5_pitAt_3 rfl (lv_at hl 1 rfl) ?_
    refine z_get (v := .int (zI (c.1 6))) S inA5 hK hP 0 rfl rfl 15 (by decide) fl_X5_63 rfl dX5_pitAt_4 ?_
    refine z_icmp_ge (tgt := 28) S dX5_pitAt_7 (by decide) (by omega) (fun h_4 => ?_) (fun h_4 => ?_)
    · refine z_iconst S dX5_pitAt_28 ?_
      exact z_ret S hr hlk (hJ2.symm) dX5_pitAt_29
    · exact absurd h_4 (by omega)
set_option maxHeartbeats 4000000 in
set_option maxRecDepth 100000 in
theorem m_X5_pegsNear (l : Launch) (D : va_G) (g : ClassId × ClassId × ClassId) (b : Nat → Nat) {B : Int} (c : CS) (hI : IM B c) (sp : Int) (h0 : 0 ≤ sp ∧ sp < 400) : RD l yX5_pegsNear cX5_pegsNear 4 (some .int) 2 42 D g (MW g b c) [.ref (b 0), .int (zI sp)] (mPN c sp) := by
  refine z_enter RX5 (by decide) rfl (Nat.le_of_ble_eq_true rfl) ?_
  intro p e s m args below meth co S hr hlk hK hP ls hl
  have hl : lv_has ls 4 [(0, .ref (b 0)), (1, .int (zI sp))] := hl
  have hs := hI.s
  refine z_iconst S dX5_pegsNear_0 ?_
  refine lv_istore_n (lv' := [(2, .int (zI 0)), (0, .ref (b 0)), (1, .int (zI sp))]) S.1 S.2.1 dX5_pegsNear_1 rfl hl (by decide) rfl (fun ls hl => ?_)
  refine z_iconst S dX5_pegsNear_2 ?_
  refine lv_istore_n (lv' := [(3, .int (zI 0)), (2, .int (zI 0)), (0, .ref (b 0)), (1, .int (zI sp))]) S.1 S.2.1 dX5_pegsNear_3 rfl hl (by decide) rfl (fun ls hl => ?_)
  refine z_for (nL := 4) (400) (fun (k4 : Nat) => [(3, .int (zI (k4 : Int))), (2, .int (zI (sm (fun k => b01 (0 < c.2 8 k ∧ dist k sp = 1)) k4))), (0, .ref (b 0)), (1, .int (zI sp))]) (fun k4 => True) (fun k4 hk4 hJ4 ls hl ih4 => ?_) (fun hJ4 ls hl => ?_) 0 (by omega) trivial ls (lv_sub hl [0, 1, 2, 3] rfl)
  · have hl : lv_has ls 4 [(3, .int (zI (k4 : Int))), (2, .int (zI (sm (fun k => b01 (0 < c.2 8 k ∧ dist k sp = 1)) k4))), (0, .ref (b 0)), (1, .int (zI sp))] := hl
    have hb0 := dist_b (i := (k4 : Int)) (j := sp) (by omega)
    refine lv_iload_n S.1 S.2.1 dX5_pegsNear_4 rfl (lv_at hl 0 rfl) ?_
    refine z_sipush S (by decide) dX5_pegsNear_5 ?_
    refine z_icmp_ge (tgt := 43) S dX5_pegsNear_8 (by decide) (by omega) (fun h_1 => ?_) (fun h_1 => ?_)
    · exact absurd h_1 (by omega)
    · refine lv_iload_n S.1 S.2.1 dX5_pegsNear_11 rfl (lv_at hl 1 rfl) ?_
      refine lv_aload_n S.1 S.2.1 dX5_pegsNear_12 rfl (lv_at hl 2 rfl) ?_
      refine z_get (v := .ref (b 9)) S inA5 hK hP 0 rfl rfl 14 (by decide) fl_X5_38 rfl dX5_pegsNear_13 ?_
      refine lv_iload_n S.1 S.2.1 dX5_pegsNear_16 rfl (lv_at hl 0 rfl) ?_
      refine z_iald S hK hP 9 rfl (by decide) (by omega) dX5_pegsNear_17 ?_
      have hb_2 := hI.r8 (k4 : Int)
      refine z_if_le (tgt := 34) S dX5_pegsNear_18 (by decide) (by omega) (fun h_3 => ?_) (fun h_3 => ?_)
      · refine z_iconst S dX5_pegsNear_34 ?_
        refine z_iadd S dX5_pegsNear_35 ?_
        refine lv_istore_n (lv' := [(2, .int (zI ((sm (fun k => b01 (0 < c.2 8 k ∧ dist k sp = 1)) k4) + 0))), (3, .int (zI (k4 : Int))), (0, .ref (b 0)), (1, .int (zI sp))]) S.1 S.2.1 dX5_pegsNear_36 rfl hl (by decide) rfl (fun ls hl => ?_)
        refine z_iinc (lv' := [(3, .int (zI ((k4 : Int) + 1))), (2, .int (zI ((sm (fun k => b01 (0 < c.2 8 k ∧ dist k sp = 1)) k4) + 0))), (0, .ref (b 0)), (1, .int (zI sp))]) S dX5_pegsNear_37 hl (k := 1) rfl (by decide) rfl (fun ls hl => ?_)
        refine z_goto (tgt := 4) S dX5_pegsNear_40 (by decide) ?_
        have e_4 : sm (fun k => b01 (0 < c.2 8 k ∧ dist k sp = 1)) (k4 + 1) = (sm (fun k => b01 (0 < c.2 8 k ∧ dist k sp = 1)) k4) + 0 := by grind [sm, b01]
        exact ih4 _ (lv_sub hl [0, 1, 2, 3] (by show _ = ([(3, .int (zI ((k4 + 1 : Nat) : Int))), (2, .int (zI (sm (fun k => b01 (0 < c.2 8 k ∧ dist k sp = 1)) (k4 + 1)))), (0, .ref (b 0)), (1, .int (zI sp))] : List (Nat × Value)); rw [e_4]; first | done | rfl)) trivial
      · refine lv_iload_n S.1 S.2.1 dX5_pegsNear_21 rfl (lv_at hl 0 rfl) ?_
        refine lv_iload_n S.1 S.2.1 dX5_pegsNear_22 rfl (lv_at hl 3 rfl) ?_
        refine z_rS (As := [.int (zI (k4 : Int)), .int (zI sp)]) (rest := [.int (zI (sm (fun k => b01 (0 < c.2 8 k ∧ dist k sp = 1)) k4))]) S (m_X5_far l D g (k4 : Int) sp (by omega) (by omega)) ml_X5_79 sm_X5_far ini_X5 cd_X5_far ds_X5_far ⟨Nat.le_of_ble_eq_true rfl, Nat.le_of_ble_eq_true rfl⟩ hK va_P_nil rfl hl.1 rfl (Nat.le_of_ble_eq_true rfl) ⟨Nat.zero_le _, Nat.zero_le _⟩ dX5_pegsNear_23 ?_
        refine z_iconst S dX5_pegsNear_26 ?_
        refine z_icmp_ne (tgt := 34) S dX5_pegsNear_27 (by decide) (by omega) (fun h_5 => ?_) (fun h_5 => ?_)
        · refine z_iconst S dX5_pegsNear_34 ?_
          refine z_iadd S dX5_pegsNear_35 ?_
          refine lv_istore_n (lv' := [(2, .int (zI ((sm (fun k => b01 (0 < c.2 8 k ∧ dist k sp = 1)) k4) + 0))), (3, .int (zI (k4 : Int))), (0, .ref (b 0)), (1, .int (zI sp))]) S.1 S.2.1 dX5_pegsNear_36 rfl hl (by decide) rfl (fun ls hl => ?_)
          refine z_iinc (lv' := [(3, .int (zI ((k4 : Int) + 1))), (2, .int (zI ((sm (fun k => b01 (0 < c.2 8 k ∧ dist k sp = 1)) k4) + 0))), (0, .ref (b 0)), (1, .int (zI sp))]) S dX5_pegsNear_37 hl (k := 1) rfl (by decide) rfl (fun ls hl => ?_)
          refine z_goto (tgt := 4) S dX5_pegsNear_40 (by decide) ?_
          have e_6 : sm (fun k => b01 (0 < c.2 8 k ∧ dist k sp = 1)) (k4 + 1) = (sm (fun k => b01 (0 < c.2 8 k ∧ dist k sp = 1)) k4) + 0 := by grind [sm, b01]
          exact ih4 _ (lv_sub hl [0, 1, 2, 3] (by show _ = ([(3, .int (zI ((k4 + 1 : Nat) : Int))), (2, .int (zI (sm (fun k => b01 (0 < c.2 8 k ∧ dist k sp = 1)) (k4 + 1)))), (0, .ref (b 0)), (1, .int (zI sp))] : List (Nat × Value)); rw [e_6]; first | done | rfl)) trivial
        · refine z_iconst S dX5_pegsNear_30 ?_
          refine z_goto (tgt := 35) S dX5_pegsNear_31 (by decide) ?_
          refine z_iadd S dX5_pegsNear_35 ?_
          refine lv_istore_n (lv' := [(2, .int (zI ((sm (fun k => b01 (0 < c.2 8 k ∧ dist k sp = 1)) k4) + 1))), (3, .int (zI (k4 : Int))), (0, .ref (b 0)), (1, .int (zI sp))]) S.1 S.2.1 dX5_pegsNear_36 rfl hl (by decide) rfl (fun ls hl => ?_)
          refine z_iinc (lv' := [(3, .int (zI ((k4 : Int) + 1))), (2, .int (zI ((sm (fun k => b01 (0 < c.2 8 k ∧ dist k sp = 1)) k4) + 1))), (0, .ref (b 0)), (1, .int (zI sp))]) S dX5_pegsNear_37 hl (k := 1) rfl (by decide) rfl (fun ls hl => ?_)
          refine z_goto (tgt := 4) S dX5_pegsNear_40 (by decide) ?_
          have e_7 : sm (fun k => b01 (0 < c.2 8 k ∧ dist k sp = 1)) (k4 + 1) = (sm (fun k => b01 (0 < c.2 8 k ∧ dist k sp = 1)) k4) + 1 := by grind [sm, b01]
          exact ih4 _ (lv_sub hl [0, 1, 2, 3] (by show _ = ([(3, .int (zI ((k4 + 1 : Nat) : Int))), (2, .int (zI (sm (fun k => b01 (0 < c.2 8 k ∧ dist k sp = 1)) (k4 + 1)))), (0, .ref (b 0)), (1, .int (zI sp))] : List (Nat × Value)); rw [e_7]; first | done | rfl)) trivial
  · have hl : lv_has ls 4 [(3, .int (zI ((400 : Nat) : Int))), (2, .int (zI (sm (fun k => b01 (0 < c.2 8 k ∧ dist k sp = 1)) 400))), (0, .ref (b 0)), (1, .int (zI sp))] := hl
    refine lv_iload_n S.1 S.2.1 dX5_pegsNear_4 rfl (lv_at hl 0 rfl) ?_
    refine z_sipush S (by decide) dX5_pegsNear_5 ?_
    refine z_icmp_ge (tgt := 43) S dX5_pegsNear_8 (by decide) (by omega) (fun h_8 => ?_) (fun h_8 => ?_)
    · refine lv_iload_n S.1 S.2.1 dX5_pegsNear_43 rfl (lv_at hl 1 rfl) ?_
      exact z_ret S hr hlk (by first | rfl | grind) dX5_pegsNear_44
    · exact absurd h_8 (by omega)
set_option maxHeartbeats 4000000 in
set_option maxRecDepth 100000 in
theorem m_X5_nearest (l : Launch) (D : va_G) (g : ClassId × ClassId × ClassId) (b : Nat → Nat) {B : Int} (c : CS) (hI : IM B c) (sp : Int) (h0 : 0 ≤ sp ∧ sp < 400) : RD l yX5_nearest cX5_nearest 4 (some .int) 2 42 D g (MW g b c) [.ref (b 0), .int (zI sp)] (mNr c sp 400) := by
  refine z_enter RX5 (by decide) rfl (Nat.le_of_ble_eq_true rfl) ?_
  intro p e s m args below meth co S hr hlk hK hP ls hl
  have hl : lv_has ls 4 [(0, .ref (b 0)), (1, .int (zI sp))] := hl
  have hs := hI.s
  refine z_iconst S dX5_nearest_0 ?_
  refine lv_istore_n (lv' := [(2, .int (zI (-1))), (0, .ref (b 0)), (1, .int (zI sp))]) S.1 S.2.1 dX5_nearest_1 rfl hl (by decide) rfl (fun ls hl => ?_)
  refine z_iconst S dX5_nearest_2 ?_
  refine lv_istore_n (lv' := [(3, .int (zI 0)), (2, .int (zI (-1))), (0, .ref (b 0)), (1, .int (zI sp))]) S.1 S.2.1 dX5_nearest_3 rfl hl (by decide) rfl (fun ls hl => ?_)
  refine z_for (nL := 4) (400) (fun (k4 : Nat) => [(3, .int (zI (k4 : Int))), (2, .int (zI (mNr c sp k4))), (0, .ref (b 0)), (1, .int (zI sp))]) (fun k4 => True) (fun k4 hk4 hJ4 ls hl ih4 => ?_) (fun hJ4 ls hl => ?_) 0 (by omega) trivial ls (lv_sub hl [0, 1, 2, 3] rfl)
  · have hl : lv_has ls 4 [(3, .int (zI (k4 : Int))), (2, .int (zI (mNr c sp k4))), (0, .ref (b 0)), (1, .int (zI sp))] := hl
    have hb0 := mNr_b (c := c) h0 k4 (by omega)
    have hb1 := dist_b (i := (k4 : Int)) (j := sp) (by omega)
    refine lv_iload_n S.1 S.2.1 dX5_nearest_4 rfl (lv_at hl 0 rfl) ?_
    refine z_sipush S (by decide) dX5_nearest_5 ?_
    refine z_icmp_ge (tgt := 46) S dX5_nearest_8 (by decide) (by omega) (fun h_1 => ?_) (fun h_1 => ?_)
    · exact absurd h_1 (by omega)
    · refine lv_aload_n S.1 S.2.1 dX5_nearest_11 rfl (lv_at hl 2 rfl) ?_
      refine z_get (v := .ref (b 9)) S inA5 hK hP 0 rfl rfl 14 (by decide) fl_X5_38 rfl dX5_nearest_12 ?_
      refine lv_iload_n S.1 S.2.1 dX5_nearest_15 rfl (lv_at hl 0 rfl) ?_
      refine z_iald S hK hP 9 rfl (by decide) (by omega) dX5_nearest_16 ?_
      have hb_2 := hI.r8 (k4 : Int)
      refine z_if_le (tgt := 40) S dX5_nearest_17 (by decide) (by omega) (fun h_3 => ?_) (fun h_3 => ?_)
      · refine z_iinc (lv' := [(3, .int (zI ((k4 : Int) + 1))), (2, .int (zI (mNr c sp k4))), (0, .ref (b 0)), (1, .int (zI sp))]) S dX5_nearest_40 hl (k := 0) rfl (by decide) rfl (fun ls hl => ?_)
        refine z_goto (tgt := 4) S dX5_nearest_43 (by decide) ?_
        have e_4 : mNr c sp (k4 + 1) = mNr c sp k4 := by grind [mNr]
        exact ih4 _ (lv_sub hl [0, 1, 2, 3] (by show _ = ([(3, .int (zI ((k4 + 1 : Nat) : Int))), (2, .int (zI (mNr c sp (k4 + 1)))), (0, .ref (b 0)), (1, .int (zI sp))] : List (Nat × Value)); rw [e_4]; first | done | rfl)) trivial
      · refine lv_iload_n S.1 S.2.1 dX5_nearest_20 rfl (lv_at hl 1 rfl) ?_
        refine z_iconst S dX5_nearest_21 ?_
        refine z_icmp_eq (tgt := 34) S dX5_nearest_22 (by decide) (by omega) (fun h_5 => ?_) (fun h_5 => ?_)
        · refine lv_iload_n S.1 S.2.1 dX5_nearest_34 rfl (lv_at hl 0 rfl) ?_
          refine lv_iload_n S.1 S.2.1 dX5_nearest_35 rfl (lv_at hl 3 rfl) ?_
          refine z_rS (As := [.int (zI (k4 : Int)), .int (zI sp)]) (rest := []) S (m_X5_far l D g (k4 : Int) sp (by omega) (by omega)) ml_X5_79 sm_X5_far ini_X5 cd_X5_far ds_X5_far ⟨Nat.le_of_ble_eq_true rfl, Nat.le_of_ble_eq_true rfl⟩ hK va_P_nil rfl hl.1 rfl (Nat.le_of_ble_eq_true rfl) ⟨Nat.zero_le _, Nat.zero_le _⟩ dX5_nearest_36 ?_
          refine lv_istore_n (lv' := [(2, .int (zI (dist (k4 : Int) sp))), (3, .int (zI (k4 : Int))), (0, .ref (b 0)), (1, .int (zI sp))]) S.1 S.2.1 dX5_nearest_39 rfl hl (by decide) rfl (fun ls hl => ?_)
          refine z_iinc (lv' := [(3, .int (zI ((k4 : Int) + 1))), (2, .int (zI (dist (k4 : Int) sp))), (0, .ref (b 0)), (1, .int (zI sp))]) S dX5_nearest_40 hl (k := 1) rfl (by decide) rfl (fun ls hl => ?_)
          refine z_goto (tgt := 4) S dX5_nearest_43 (by decide) ?_
          have e_6 : mNr c sp (k4 + 1) = dist (k4 : Int) sp := by grind [mNr]
          exact ih4 _ (lv_sub hl [0, 1, 2, 3] (by show _ = ([(3, .int (zI ((k4 + 1 : Nat) : Int))), (2, .int (zI (mNr c sp (k4 + 1)))), (0, .ref (b 0)), (1, .int (zI sp))] : List (Nat × Value)); rw [e_6]; first | done | rfl)) trivial
        · refine lv_iload_n S.1 S.2.1 dX5_nearest_25 rfl (lv_at hl 0 rfl) ?_
          refine lv_iload_n S.1 S.2.1 dX5_nearest_26 rfl (lv_at hl 3 rfl) ?_
          refine z_rS (As := [.int (zI (k4 : Int)), .int (zI sp)]) (rest := []) S (m_X5_far l D g (k4 : Int) sp (by omega) (by omega)) ml_X5_79 sm_X5_far ini_X5 cd_X5_far ds_X5_far ⟨Nat.le_of_ble_eq_true rfl, Nat.le_of_ble_eq_true rfl⟩ hK va_P_nil rfl hl.1 rfl (Nat.le_of_ble_eq_true rfl) ⟨Nat.zero_le _, Nat.zero_le _⟩ dX5_nearest_27 ?_
          refine lv_iload_n S.1 S.2.1 dX5_nearest_30 rfl (lv_at hl 1 rfl) ?_
          refine z_icmp_ge (tgt := 40) S dX5_nearest_31 (by decide) (by omega) (fun h_7 => ?_) (fun h_7 => ?_)
          · refine z_iinc (lv' := [(3, .int (zI ((k4 : Int) + 1))), (2, .int (zI (mNr c sp k4))), (0, .ref (b 0)), (1, .int (zI sp))]) S dX5_nearest_40 hl (k := 0) rfl (by decide) rfl (fun ls hl => ?_)
            refine z_goto (tgt := 4) S dX5_nearest_43 (by decide) ?_
            have e_8 : mNr c sp (k4 + 1) = mNr c sp k4 := by grind [mNr]
            exact ih4 _ (lv_sub hl [0, 1, 2, 3] (by show _ = ([(3, .int (zI ((k4 + 1 : Nat) : Int))), (2, .int (zI (mNr c sp (k4 + 1)))), (0, .ref (b 0)), (1, .int (zI sp))] : List (Nat × Value)); rw [e_8]; first | done | rfl)) trivial
          · refine lv_iload_n S.1 S.2.1 dX5_nearest_34 rfl (lv_at hl 0 rfl) ?_
            refine lv_iload_n S.1 S.2.1 dX5_nearest_35 rfl (lv_at hl 3 rfl) ?_
            refine z_rS (As := [.int (zI (k4 : Int)), .int (zI sp)]) (rest := []) S (m_X5_far l D g (k4 : Int) sp (by omega) (by omega)) ml_X5_79 sm_X5_far ini_X5 cd_X5_far ds_X5_far ⟨Nat.le_of_ble_eq_true rfl, Nat.le_of_ble_eq_true rfl⟩ hK va_P_nil rfl hl.1 rfl (Nat.le_of_ble_eq_true rfl) ⟨Nat.zero_le _, Nat.zero_le _⟩ dX5_nearest_36 ?_
            refine lv_istore_n (lv' := [(2, .int (zI (dist (k4 : Int) sp))), (3, .int (zI (k4 : Int))), (0, .ref (b 0)), (1, .int (zI sp))]) S.1 S.2.1 dX5_nearest_39 rfl hl (by decide) rfl (fun ls hl => ?_)
            refine z_iinc (lv' := [(3, .int (zI ((k4 : Int) + 1))), (2, .int (zI (dist (k4 : Int) sp))), (0, .ref (b 0)), (1, .int (zI sp))]) S dX5_nearest_40 hl (k := 1) rfl (by decide) rfl (fun ls hl => ?_)
            refine z_goto (tgt := 4) S dX5_nearest_43 (by decide) ?_
            have e_9 : mNr c sp (k4 + 1) = dist (k4 : Int) sp := by grind [mNr]
            exact ih4 _ (lv_sub hl [0, 1, 2, 3] (by show _ = ([(3, .int (zI ((k4 + 1 : Nat) : Int))), (2, .int (zI (mNr c sp (k4 + 1)))), (0, .ref (b 0)), (1, .int (zI sp))] : List (Nat × Value)); rw [e_9]; first | done | rfl)) trivial
  · have hl : lv_has ls 4 [(3, .int (zI ((400 : Nat) : Int))), (2, .int (zI (mNr c sp 400))), (0, .ref (b 0)), (1, .int (zI sp))] := hl
    refine lv_iload_n S.1 S.2.1 dX5_nearest_4 rfl (lv_at hl 0 rfl) ?_
    refine z_sipush S (by decide) dX5_nearest_5 ?_
    refine z_icmp_ge (tgt := 46) S dX5_nearest_8 (by decide) (by omega) (fun h_10 => ?_) (fun h_10 => ?_)
    · refine lv_iload_n S.1 S.2.1 dX5_nearest_46 rfl (lv_at hl 1 rfl) ?_
      exact z_ret S hr hlk (by first | rfl | grind) dX5_nearest_47
    · exact absurd h_10 (by omega)
set_option maxHeartbeats 4000000 in
set_option maxRecDepth 100000 in
theorem m_X5_isBeside (l : Launch) (D : va_G) (g : ClassId × ClassId × ClassId) (b : Nat → Nat) {B : Int} (c : CS) (hI : IM B c) (v : Int) (sp : Int) (h0 : 0 ≤ v ∧ v < 6) (h1 : 0 ≤ sp ∧ sp < 400) : RD l yX5_isBeside cX5_isBeside 4 (some .boolean) 2 42 D g (MW g b c) [.ref (b 0), .int (zI v), .int (zI sp)] (b01 (isBes c v sp)) := by
  refine z_enter RX5 (by decide) rfl (Nat.le_of_ble_eq_true rfl) ?_
  intro p e s m args below meth co S hr hlk hK hP ls hl
  have hl : lv_has ls 4 [(0, .ref (b 0)), (1, .int (zI v)), (2, .int (zI sp))] := hl
  have hs := hI.s
  refine z_iconst S dX5_isBeside_0 ?_
  refine lv_istore_n (lv' := [(3, .int (zI 0)), (0, .ref (b 0)), (1, .int (zI v)), (2, .int (zI sp))]) S.1 S.2.1 dX5_isBeside_1 rfl hl (by decide) rfl (fun ls hl => ?_)
  refine z_for (nL := 4) (400) (fun (k2 : Nat) => [(3, .int (zI (k2 : Int))), (0, .ref (b 0)), (1, .int (zI v)), (2, .int (zI sp))]) (fun k2 => ff (besP c v sp) k2 = -1) (fun k2 hk2 hJ2 ls hl ih2 => ?_) (fun hJ2 ls hl => ?_) 0 (by omega) rfl ls (lv_sub hl [0, 1, 2, 3] rfl)
  · have hl : lv_has ls 4 [(3, .int (zI (k2 : Int))), (0, .ref (b 0)), (1, .int (zI v)), (2, .int (zI sp))] := hl
    have hJ2 : ff (besP c v sp) k2 = -1 := hJ2
    have hb1 := dist_b (i := (k2 : Int)) (j := sp) (by omega)
    refine lv_iload_n S.1 S.2.1 dX5_isBeside_2 rfl (lv_at hl 0 rfl) ?_
    refine z_sipush S (by decide) dX5_isBeside_3 ?_
    refine z_icmp_ge (tgt := 42) S dX5_isBeside_6 (by decide) (by omega) (fun h_1 => ?_) (fun h_1 => ?_)
    · exact absurd h_1 (by omega)
    · refine lv_aload_n S.1 S.2.1 dX5_isBeside_9 rfl (lv_at hl 1 rfl) ?_
      refine z_get (v := .ref (b 3)) S inA5 hK hP 0 rfl rfl 6 (by decide) fl_X5_20 rfl dX5_isBeside_10 ?_
      refine z_sipush S (by decide) dX5_isBeside_13 ?_
      refine lv_iload_n S.1 S.2.1 dX5_isBeside_16 rfl (lv_at hl 2 rfl) ?_
      refine z_imul S dX5_isBeside_17 ?_
      refine lv_iload_n S.1 S.2.1 dX5_isBeside_18 rfl (lv_at hl 0 rfl) ?_
      refine z_iadd S dX5_isBeside_19 ?_
      refine z_iald S hK hP 3 rfl (by decide) (by omega) dX5_isBeside_20 ?_
      have hb_2 := hI.r2 ((400 * v) + (k2 : Int))
      refine z_iconst S dX5_isBeside_21 ?_
      refine z_icmp_ne (tgt := 36) S dX5_isBeside_22 (by decide) (by omega) (fun h_3 => ?_) (fun h_3 => ?_)
      · refine z_iinc (lv' := [(3, .int (zI ((k2 : Int) + 1))), (0, .ref (b 0)), (1, .int (zI v)), (2, .int (zI sp))]) S dX5_isBeside_36 hl (k := 0) rfl (by decide) rfl (fun ls hl => ?_)
        refine z_goto (tgt := 2) S dX5_isBeside_39 (by decide) ?_
        exact ih2 _ (lv_sub hl [0, 1, 2, 3] rfl) (ff_no hJ2 (by show ¬ (c.2 2 (400 * v + (k2 : Int)) = 2 ∧ dist (k2 : Int) sp = 1); omega))
      · refine lv_iload_n S.1 S.2.1 dX5_isBeside_25 rfl (lv_at hl 0 rfl) ?_
        refine lv_iload_n S.1 S.2.1 dX5_isBeside_26 rfl (lv_at hl 3 rfl) ?_
        refine z_rS (As := [.int (zI (k2 : Int)), .int (zI sp)]) (rest := []) S (m_X5_far l D g (k2 : Int) sp (by omega) (by omega)) ml_X5_79 sm_X5_far ini_X5 cd_X5_far ds_X5_far ⟨Nat.le_of_ble_eq_true rfl, Nat.le_of_ble_eq_true rfl⟩ hK va_P_nil rfl hl.1 rfl (Nat.le_of_ble_eq_true rfl) ⟨Nat.zero_le _, Nat.zero_le _⟩ dX5_isBeside_27 ?_
        refine z_iconst S dX5_isBeside_30 ?_
        refine z_icmp_ne (tgt := 36) S dX5_isBeside_31 (by decide) (by omega) (fun h_4 => ?_) (fun h_4 => ?_)
        · refine z_iinc (lv' := [(3, .int (zI ((k2 : Int) + 1))), (0, .ref (b 0)), (1, .int (zI v)), (2, .int (zI sp))]) S dX5_isBeside_36 hl (k := 0) rfl (by decide) rfl (fun ls hl => ?_)
          refine z_goto (tgt := 2) S dX5_isBeside_39 (by decide) ?_
          exact ih2 _ (lv_sub hl [0, 1, 2, 3] rfl) (ff_no hJ2 (by show ¬ (c.2 2 (400 * v + (k2 : Int)) = 2 ∧ dist (k2 : Int) sp = 1); omega))
        · refine z_iconst S dX5_isBeside_34 ?_
          exact z_retb S hr hlk (Or.inr rfl) ((b01_t (by show ff (besP c v sp) 400 ≠ -1; rw [ff_hit hJ2 (by show c.2 2 (400 * v + (k2 : Int)) = 2 ∧ dist (k2 : Int) sp = 1; omega) 400 (by omega)]; omega)).symm) dX5_isBeside_35
  · have hl : lv_has ls 4 [(3, .int (zI ((400 : Nat) : Int))), (0, .ref (b 0)), (1, .int (zI v)), (2, .int (zI sp))] := hl
    have hJ2 : ff (besP c v sp) 400 = -1 := hJ2
    refine lv_iload_n S.1 S.2.1 dX5_isBeside_2 rfl (lv_at hl 0 rfl) ?_
    refine z_sipush S (by decide) dX5_isBeside_3 ?_
    refine z_icmp_ge (tgt := 42) S dX5_isBeside_6 (by decide) (by omega) (fun h_5 => ?_) (fun h_5 => ?_)
    · refine z_iconst S dX5_isBeside_42 ?_
      exact z_retb S hr hlk (Or.inl rfl) ((b01_f (fun z => z hJ2)).symm) dX5_isBeside_43
    · exact absurd h_5 (by omega)
set_option maxHeartbeats 4000000 in
set_option maxRecDepth 100000 in
theorem m_X5_layOut (l : Launch) (D : va_G) (g : ClassId × ClassId × ClassId) (b : Nat → Nat) {B : Int} (c : CS) (hI : IM B c) (hda : CD 14 b) (v : Int) (fr : Int) (tt : Int) (h0 : 0 ≤ v ∧ v < 6) (h1 : 0 ≤ fr ∧ fr < 400) (h2 : 0 ≤ tt ∧ tt < 400) (h3 : ∀ k : Int, 0 ≤ k → k ≤ mst fr tt → 0 ≤ fr + k * mby fr tt (mst fr tt) ∧ fr + k * mby fr tt (mst fr tt) < 400) : WRv l yX5_layOut cX5_layOut 7 none 3 65 D g (CA 14 b) (MW g b c) [.ref (b 0), .int (zI v), .int (zI fr), .int (zI tt)] (MW g b (mLay c v fr tt)) := by
  refine z_enter RX5 (by decide) rfl (Nat.le_of_ble_eq_true rfl) ?_
  intro p e s m args below meth co S hr hlk hK hP ls hl
  have hl : lv_has ls 7 [(0, .ref (b 0)), (1, .int (zI v)), (2, .int (zI fr)), (3, .int (zI tt))] := hl
  have hs := hI.s
  have hS : va_S (CA 14 b) s.heap s.heap [] := va_S.rf
  have hb1 := ab_le (x := tt % 20 - fr % 20) (n := 19) (by omega)
  have hb2 := ab_le (x := tt / 20 - fr / 20) (n := 19) (by omega)
  have hst0 : mst fr tt = max (ab (tt % 20 - fr % 20)) (ab (tt / 20 - fr / 20)) := rfl
  refine lv_iload_n S.1 S.2.1 dX5_layOut_0 rfl (lv_at hl 3 rfl) ?_
  refine z_bipush S (by decide) dX5_layOut_1 ?_
  refine z_iremn S (by omega) dX5_layOut_3 ?_
  refine lv_iload_n S.1 S.2.1 dX5_layOut_4 rfl (lv_at hl 2 rfl) ?_
  refine z_bipush S (by decide) dX5_layOut_5 ?_
  refine z_iremn S (by omega) dX5_layOut_7 ?_
  refine z_isub S dX5_layOut_8 ?_
  refine z_abs S ml_X5_66 hl.1 (Nat.le_of_ble_eq_true rfl) (Nat.le_of_ble_eq_true rfl) ⟨Nat.zero_le _, Nat.zero_le _⟩ (by omega) dX5_layOut_9 ?_
  refine lv_iload_n S.1 S.2.1 dX5_layOut_12 rfl (lv_at hl 3 rfl) ?_
  refine z_bipush S (by decide) dX5_layOut_13 ?_
  refine z_idivn S (by omega) dX5_layOut_15 ?_
  refine lv_iload_n S.1 S.2.1 dX5_layOut_16 rfl (lv_at hl 2 rfl) ?_
  refine z_bipush S (by decide) dX5_layOut_17 ?_
  refine z_idivn S (by omega) dX5_layOut_19 ?_
  refine z_isub S dX5_layOut_20 ?_
  refine z_abs S ml_X5_66 hl.1 (Nat.le_of_ble_eq_true rfl) (Nat.le_of_ble_eq_true rfl) ⟨Nat.zero_le _, Nat.zero_le _⟩ (by omega) dX5_layOut_21 ?_
  refine z_max S ml_X5_75 hl.1 (Nat.le_of_ble_eq_true rfl) (Nat.le_of_ble_eq_true rfl) ⟨Nat.zero_le _, Nat.zero_le _⟩ (by omega) dX5_layOut_24 ?_
  refine lv_istore (lv' := [(4, .int (zI (max (ab ((tt % 20) - (fr % 20))) (ab ((tt / 20) - (fr / 20)))))), (0, .ref (b 0)), (1, .int (zI v)), (2, .int (zI fr)), (3, .int (zI tt))]) S.1 S.2.1 dX5_layOut_27 hl (by decide) rfl (fun ls hl => ?_)
  refine lv_iload S.1 S.2.1 dX5_layOut_29 (lv_at hl 0 rfl) ?_
  refine z_if_ne (tgt := 38) S dX5_layOut_31 (by decide) (by omega) (fun h_1 => ?_) (fun h_1 => ?_)
  · refine lv_iload_n S.1 S.2.1 dX5_layOut_38 rfl (lv_at hl 4 rfl) ?_
    refine lv_iload_n S.1 S.2.1 dX5_layOut_39 rfl (lv_at hl 3 rfl) ?_
    refine z_isub S dX5_layOut_40 ?_
    refine lv_iload S.1 S.2.1 dX5_layOut_41 (lv_at hl 0 rfl) ?_
    refine z_idiv S (by omega) dX5_layOut_43 ?_
    refine lv_istore (lv' := [(5, .int (zI ((tt - fr).tdiv (max (ab ((tt % 20) - (fr % 20))) (ab ((tt / 20) - (fr / 20))))))), (4, .int (zI (max (ab ((tt % 20) - (fr % 20))) (ab ((tt / 20) - (fr / 20)))))), (0, .ref (b 0)), (1, .int (zI v)), (2, .int (zI fr)), (3, .int (zI tt))]) S.1 S.2.1 dX5_layOut_44 hl (by decide) rfl (fun ls hl => ?_)
    have hby : ((tt - fr).tdiv (max (ab ((tt % 20) - (fr % 20))) (ab ((tt / 20) - (fr / 20))))) = mby fr tt (mst fr tt) := by unfold mby; first | rw [if_pos (by rw [hst0]; omega)] | (rw [if_neg (by rw [hst0]; omega)]; rfl)
    refine z_iconst S dX5_layOut_46 ?_
    refine lv_istore (lv' := [(6, .int (zI 0)), (5, .int (zI ((tt - fr).tdiv (max (ab ((tt % 20) - (fr % 20))) (ab ((tt / 20) - (fr / 20))))))), (4, .int (zI (max (ab ((tt % 20) - (fr % 20))) (ab ((tt / 20) - (fr / 20)))))), (0, .ref (b 0)), (1, .int (zI v)), (2, .int (zI fr)), (3, .int (zI tt))]) S.1 S.2.1 dX5_layOut_47 hl (by decide) rfl (fun ls hl => ?_)
    have e_2 : mby fr tt (mst fr tt) = (tt - fr).tdiv (max (ab ((tt % 20) - (fr % 20))) (ab ((tt / 20) - (fr / 20)))) := by exact hby.symm
    refine z_forW (D := D) (nL := 7) (A := (CA 14 b)) (H0 := s.heap) ((mst fr tt + 1).toNat) (fun (k49 : Nat) => [(6, .int (zI (k49 : Int))), (5, .int (zI (mby fr tt (mst fr tt)))), (4, .int (zI (mst fr tt))), (0, .ref (b 0)), (1, .int (zI v)), (2, .int (zI fr)), (3, .int (zI tt))]) (fun (k49 : Nat) => MW g b (mL1 c v fr (mby fr tt (mst fr tt)) k49)) (fun k49 => True) (fun k49 hk49 hJ49 H locs hP hS ls hl ih49 => ?_) (fun hJ49 H locs hP hS ls hl => ?_) 0 (by omega) trivial _ _ hP hS ls (lv_sub hl [0, 1, 2, 3, 4, 5, 6] (by show _ = ([(6, .int (zI ((0 : Nat) : Int))), (5, .int (zI (mby fr tt (mst fr tt)))), (4, .int (zI (mst fr tt))), (0, .ref (b 0)), (1, .int (zI v)), (2, .int (zI fr)), (3, .int (zI tt))] : List (Nat × Value)); rw [e_2]; first | done | rfl))
    · have hl : lv_has ls 7 [(6, .int (zI (k49 : Int))), (5, .int (zI (mby fr tt (mst fr tt)))), (4, .int (zI (mst fr tt))), (0, .ref (b 0)), (1, .int (zI v)), (2, .int (zI fr)), (3, .int (zI tt))] := hl
      have hP : va_P D vwCl (MW g b (mL1 c v fr (mby fr tt (mst fr tt)) k49)) H := hP
      have hb3 := h3 (k49 : Int) (by omega) (by omega)
      refine lv_iload S.1 S.2.1 dX5_layOut_49 (lv_at hl 0 rfl) ?_
      refine lv_iload S.1 S.2.1 dX5_layOut_51 (lv_at hl 2 rfl) ?_
      refine z_icmp_gt (tgt := 81) S dX5_layOut_53 (by decide) (by omega) (fun h_3 => ?_) (fun h_3 => ?_)
      · exact absurd h_3 (by omega)
      · refine lv_aload_n S.1 S.2.1 dX5_layOut_56 rfl (lv_at hl 3 rfl) ?_
        refine z_get (v := .ref (b 3)) S inA5 hK hP 0 rfl rfl 6 (by decide) fl_X5_20 rfl dX5_layOut_57 ?_
        refine z_sipush S (by decide) dX5_layOut_60 ?_
        refine lv_iload_n S.1 S.2.1 dX5_layOut_63 rfl (lv_at hl 4 rfl) ?_
        refine z_imul S dX5_layOut_64 ?_
        refine lv_iload_n S.1 S.2.1 dX5_layOut_65 rfl (lv_at hl 5 rfl) ?_
        refine z_iadd S dX5_layOut_66 ?_
        refine lv_iload S.1 S.2.1 dX5_layOut_67 (lv_at hl 0 rfl) ?_
        refine lv_iload S.1 S.2.1 dX5_layOut_69 (lv_at hl 1 rfl) ?_
        refine z_imul S dX5_layOut_71 ?_
        refine z_iadd S dX5_layOut_72 ?_
        refine z_iconst S dX5_layOut_73 ?_
        refine z_iast S hK hP (MW_D hda _) hS 3 rfl (by decide) (by omega) dX5_layOut_74 (fun H locs hP hS => ?_)
        have hP : va_P D vwCl (MW g b (sA (mL1 c v fr (mby fr tt (mst fr tt)) k49) 2 (upZ ((mL1 c v fr (mby fr tt (mst fr tt)) k49).2 2) (((400 * v) + fr) + ((k49 : Int) * (mby fr tt (mst fr tt)))) 2))) H := hP
        refine z_iinc (lv' := [(6, .int (zI ((k49 : Int) + 1))), (5, .int (zI (mby fr tt (mst fr tt)))), (4, .int (zI (mst fr tt))), (0, .ref (b 0)), (1, .int (zI v)), (2, .int (zI fr)), (3, .int (zI tt))]) S dX5_layOut_75 hl (k := 0) rfl (by decide) rfl (fun ls hl => ?_)
        refine z_goto (tgt := 49) S dX5_layOut_78 (by decide) ?_
        have hw : MW g b (sA (mL1 c v fr (mby fr tt (mst fr tt)) k49) 2 (upZ ((mL1 c v fr (mby fr tt (mst fr tt)) k49).2 2) (((400 * v) + fr) + ((k49 : Int) * (mby fr tt (mst fr tt)))) 2)) = MW g b (mL1 c v fr (mby fr tt (mst fr tt)) (k49 + 1)) := by exact rfl
        rw [hw] at hP
        exact ih49 _ _ hP hS _ (lv_sub hl [0, 1, 2, 3, 4, 5, 6] rfl) trivial
    · have hl : lv_has ls 7 [(6, .int (zI (((mst fr tt + 1).toNat : Nat) : Int))), (5, .int (zI (mby fr tt (mst fr tt)))), (4, .int (zI (mst fr tt))), (0, .ref (b 0)), (1, .int (zI v)), (2, .int (zI fr)), (3, .int (zI tt))] := hl
      have hP : va_P D vwCl (MW g b (mL1 c v fr (mby fr tt (mst fr tt)) ((mst fr tt + 1).toNat))) H := hP
      refine lv_iload S.1 S.2.1 dX5_layOut_49 (lv_at hl 0 rfl) ?_
      refine lv_iload S.1 S.2.1 dX5_layOut_51 (lv_at hl 2 rfl) ?_
      refine z_icmp_gt (tgt := 81) S dX5_layOut_53 (by decide) (by omega) (fun h_4 => ?_) (fun h_4 => ?_)
      · refine z_iconst S dX5_layOut_81 ?_
        refine lv_istore (lv' := [(6, .int (zI 0)), (5, .int (zI (mby fr tt (mst fr tt)))), (4, .int (zI (mst fr tt))), (0, .ref (b 0)), (1, .int (zI v)), (2, .int (zI fr)), (3, .int (zI tt))]) S.1 S.2.1 dX5_layOut_82 hl (by decide) rfl (fun ls hl => ?_)
        refine z_forW (D := D) (nL := 7) (A := (CA 14 b)) (H0 := s.heap) (400) (fun (k84 : Nat) => [(6, .int (zI (k84 : Int))), (5, .int (zI (mby fr tt (mst fr tt)))), (4, .int (zI (mst fr tt))), (0, .ref (b 0)), (1, .int (zI v)), (2, .int (zI fr)), (3, .int (zI tt))]) (fun (k84 : Nat) => MW g b (mL2 (mL1 c v fr (mby fr tt (mst fr tt)) (mst fr tt + 1).toNat) v k84)) (fun k84 => True) (fun k84 hk84 hJ84 H locs hP hS ls hl ih84 => ?_) (fun hJ84 H locs hP hS ls hl => ?_) 0 (by omega) trivial _ _ hP hS ls (lv_sub hl [0, 1, 2, 3, 4, 5, 6] rfl)
        · have hl : lv_has ls 7 [(6, .int (zI (k84 : Int))), (5, .int (zI (mby fr tt (mst fr tt)))), (4, .int (zI (mst fr tt))), (0, .ref (b 0)), (1, .int (zI v)), (2, .int (zI fr)), (3, .int (zI tt))] := hl
          have hP : va_P D vwCl (MW g b (mL2 (mL1 c v fr (mby fr tt (mst fr tt)) (mst fr tt + 1).toNat) v k84)) H := hP
          refine lv_iload S.1 S.2.1 dX5_layOut_84 (lv_at hl 0 rfl) ?_
          refine z_sipush S (by decide) dX5_layOut_86 ?_
          refine z_icmp_ge (tgt := 138) S dX5_layOut_89 (by decide) (by omega) (fun h_5 => ?_) (fun h_5 => ?_)
          · exact absurd h_5 (by omega)
          · refine lv_aload_n S.1 S.2.1 dX5_layOut_92 rfl (lv_at hl 3 rfl) ?_
            refine z_get (v := .ref (b 3)) S inA5 hK hP 0 rfl rfl 6 (by decide) fl_X5_20 rfl dX5_layOut_93 ?_
            refine z_sipush S (by decide) dX5_layOut_96 ?_
            refine lv_iload_n S.1 S.2.1 dX5_layOut_99 rfl (lv_at hl 4 rfl) ?_
            refine z_imul S dX5_layOut_100 ?_
            refine lv_iload S.1 S.2.1 dX5_layOut_101 (lv_at hl 0 rfl) ?_
            refine z_iadd S dX5_layOut_103 ?_
            refine z_iald S hK hP 3 rfl (by decide) (by omega) dX5_layOut_104 ?_
            have hb_6 := (mL2_IM (mL1_IM hI v fr (mby fr tt (mst fr tt)) (mst fr tt + 1).toNat) v k84).r2 ((400 * v) + (k84 : Int))
            refine z_if_ne (tgt := 132) S dX5_layOut_105 (by decide) (by omega) (fun h_7 => ?_) (fun h_7 => ?_)
            · refine z_iinc (lv' := [(6, .int (zI ((k84 : Int) + 1))), (5, .int (zI (mby fr tt (mst fr tt)))), (4, .int (zI (mst fr tt))), (0, .ref (b 0)), (1, .int (zI v)), (2, .int (zI fr)), (3, .int (zI tt))]) S dX5_layOut_132 hl (k := 0) rfl (by decide) rfl (fun ls hl => ?_)
              refine z_goto (tgt := 84) S dX5_layOut_135 (by decide) ?_
              have hw : MW g b (mL2 (mL1 c v fr (mby fr tt (mst fr tt)) (mst fr tt + 1).toNat) v k84) = MW g b (mL2 (mL1 c v fr (mby fr tt (mst fr tt)) (mst fr tt + 1).toNat) v (k84 + 1)) := by first | rw [mL2, if_pos (by omega)] | rw [mL2, if_neg (by omega)]
              rw [hw] at hP
              exact ih84 _ _ hP hS _ (lv_sub hl [0, 1, 2, 3, 4, 5, 6] rfl) trivial
            · refine lv_aload_n S.1 S.2.1 dX5_layOut_108 rfl (lv_at hl 3 rfl) ?_
              refine lv_iload_n S.1 S.2.1 dX5_layOut_109 rfl (lv_at hl 4 rfl) ?_
              refine lv_iload S.1 S.2.1 dX5_layOut_110 (lv_at hl 0 rfl) ?_
              refine z_rV (As := [.int (zI v), .int (zI (k84 : Int))]) (rest := []) S (m_X5_isBeside l D g b (mL2 (mL1 c v fr (mby fr tt (mst fr tt)) (mst fr tt + 1).toNat) v k84) (mL2_IM (mL1_IM hI v fr (mby fr tt (mst fr tt)) (mst fr tt + 1).toNat) v k84) v (k84 : Int) (by omega) (by omega)) ml_X5_82 im_X5_isBeside se_X5_isBeside ini_X5 cd_X5_isBeside ds_X5_isBeside ⟨Nat.le_of_ble_eq_true rfl, Nat.le_of_ble_eq_true rfl⟩ hK hP (va_recv hK.1 hP (ci := 5) (q0 := 0) rfl rfl) rfl hl.1 rfl (Nat.le_of_ble_eq_true rfl) ⟨Nat.zero_le _, Nat.zero_le _⟩ dX5_layOut_112 ?_
              refine z_ifb_eq (tgt := 132) S dX5_layOut_115 (by decide) (fun h_8 => ?_) (fun h_8 => ?_)
              · refine z_iinc (lv' := [(6, .int (zI ((k84 : Int) + 1))), (5, .int (zI (mby fr tt (mst fr tt)))), (4, .int (zI (mst fr tt))), (0, .ref (b 0)), (1, .int (zI v)), (2, .int (zI fr)), (3, .int (zI tt))]) S dX5_layOut_132 hl (k := 0) rfl (by decide) rfl (fun ls hl => ?_)
                refine z_goto (tgt := 84) S dX5_layOut_135 (by decide) ?_
                have hw : MW g b (mL2 (mL1 c v fr (mby fr tt (mst fr tt)) (mst fr tt + 1).toNat) v k84) = MW g b (mL2 (mL1 c v fr (mby fr tt (mst fr tt)) (mst fr tt + 1).toNat) v (k84 + 1)) := by first | rw [mL2, if_pos (by omega)] | rw [mL2, if_neg (by omega)]
                rw [hw] at hP
                exact ih84 _ _ hP hS _ (lv_sub hl [0, 1, 2, 3, 4, 5, 6] rfl) trivial
              · refine lv_aload_n S.1 S.2.1 dX5_layOut_118 rfl (lv_at hl 3 rfl) ?_
                refine z_get (v := .ref (b 3)) S inA5 hK hP 0 rfl rfl 6 (by decide) fl_X5_20 rfl dX5_layOut_119 ?_
                refine z_sipush S (by decide) dX5_layOut_122 ?_
                refine lv_iload_n S.1 S.2.1 dX5_layOut_125 rfl (lv_at hl 4 rfl) ?_
                refine z_imul S dX5_layOut_126 ?_
                refine lv_iload S.1 S.2.1 dX5_layOut_127 (lv_at hl 0 rfl) ?_
                refine z_iadd S dX5_layOut_129 ?_
                refine z_iconst S dX5_layOut_130 ?_
                refine z_iast S hK hP (MW_D hda _) hS 3 rfl (by decide) (by omega) dX5_layOut_131 (fun H locs hP hS => ?_)
                have hP : va_P D vwCl (MW g b (sA (mL2 (mL1 c v fr (mby fr tt (mst fr tt)) (mst fr tt + 1).toNat) v k84) 2 (upZ ((mL2 (mL1 c v fr (mby fr tt (mst fr tt)) (mst fr tt + 1).toNat) v k84).2 2) ((400 * v) + (k84 : Int)) 1))) H := hP
                refine z_iinc (lv' := [(6, .int (zI ((k84 : Int) + 1))), (5, .int (zI (mby fr tt (mst fr tt)))), (4, .int (zI (mst fr tt))), (0, .ref (b 0)), (1, .int (zI v)), (2, .int (zI fr)), (3, .int (zI tt))]) S dX5_layOut_132 hl (k := 0) rfl (by decide) rfl (fun ls hl => ?_)
                refine z_goto (tgt := 84) S dX5_layOut_135 (by decide) ?_
                have hw : MW g b (sA (mL2 (mL1 c v fr (mby fr tt (mst fr tt)) (mst fr tt + 1).toNat) v k84) 2 (upZ ((mL2 (mL1 c v fr (mby fr tt (mst fr tt)) (mst fr tt + 1).toNat) v k84).2 2) ((400 * v) + (k84 : Int)) 1)) = MW g b (mL2 (mL1 c v fr (mby fr tt (mst fr tt)) (mst fr tt + 1).toNat) v (k84 + 1)) := by first | rw [mL2, if_pos (by omega)] | rw [mL2, if_neg (by omega)]
                rw [hw] at hP
                exact ih84 _ _ hP hS _ (lv_sub hl [0, 1, 2, 3, 4, 5, 6] rfl) trivial
        · have hl : lv_has ls 7 [(6, .int (zI ((400 : Nat) : Int))), (5, .int (zI (mby fr tt (mst fr tt)))), (4, .int (zI (mst fr tt))), (0, .ref (b 0)), (1, .int (zI v)), (2, .int (zI fr)), (3, .int (zI tt))] := hl
          have hP : va_P D vwCl (MW g b (mL2 (mL1 c v fr (mby fr tt (mst fr tt)) (mst fr tt + 1).toNat) v 400)) H := hP
          refine lv_iload S.1 S.2.1 dX5_layOut_84 (lv_at hl 0 rfl) ?_
          refine z_sipush S (by decide) dX5_layOut_86 ?_
          refine z_icmp_ge (tgt := 138) S dX5_layOut_89 (by decide) (by omega) (fun h_9 => ?_) (fun h_9 => ?_)
          · have hw : MW g b (mL2 (mL1 c v fr (mby fr tt (mst fr tt)) (mst fr tt + 1).toNat) v 400) = MW g b (mLay c v fr tt) := by exact rfl
            rw [hw] at hP
            exact z_retv S hr hlk hP hS dX5_layOut_138
          · exact absurd h_9 (by omega)
      · exact absurd h_4 (by omega)
  · refine z_iconst S dX5_layOut_34 ?_
    refine z_goto (tgt := 44) S dX5_layOut_35 (by decide) ?_
    refine lv_istore (lv' := [(5, .int (zI 0)), (4, .int (zI (max (ab ((tt % 20) - (fr % 20))) (ab ((tt / 20) - (fr / 20)))))), (0, .ref (b 0)), (1, .int (zI v)), (2, .int (zI fr)), (3, .int (zI tt))]) S.1 S.2.1 dX5_layOut_44 hl (by decide) rfl (fun ls hl => ?_)
    have hby : 0 = mby fr tt (mst fr tt) := by unfold mby; first | rw [if_pos (by rw [hst0]; omega)] | (rw [if_neg (by rw [hst0]; omega)]; rfl)
    refine z_iconst S dX5_layOut_46 ?_
    refine lv_istore (lv' := [(6, .int (zI 0)), (5, .int (zI 0)), (4, .int (zI (max (ab ((tt % 20) - (fr % 20))) (ab ((tt / 20) - (fr / 20)))))), (0, .ref (b 0)), (1, .int (zI v)), (2, .int (zI fr)), (3, .int (zI tt))]) S.1 S.2.1 dX5_layOut_47 hl (by decide) rfl (fun ls hl => ?_)
    have e_10 : mby fr tt (mst fr tt) = 0 := by exact hby.symm
    refine z_forW (D := D) (nL := 7) (A := (CA 14 b)) (H0 := s.heap) ((mst fr tt + 1).toNat) (fun (k49 : Nat) => [(6, .int (zI (k49 : Int))), (5, .int (zI (mby fr tt (mst fr tt)))), (4, .int (zI (mst fr tt))), (0, .ref (b 0)), (1, .int (zI v)), (2, .int (zI fr)), (3, .int (zI tt))]) (fun (k49 : Nat) => MW g b (mL1 c v fr (mby fr tt (mst fr tt)) k49)) (fun k49 => True) (fun k49 hk49 hJ49 H locs hP hS ls hl ih49 => ?_) (fun hJ49 H locs hP hS ls hl => ?_) 0 (by omega) trivial _ _ hP hS ls (lv_sub hl [0, 1, 2, 3, 4, 5, 6] (by show _ = ([(6, .int (zI ((0 : Nat) : Int))), (5, .int (zI (mby fr tt (mst fr tt)))), (4, .int (zI (mst fr tt))), (0, .ref (b 0)), (1, .int (zI v)), (2, .int (zI fr)), (3, .int (zI tt))] : List (Nat × Value)); rw [e_10]; first | done | rfl))
    · have hl : lv_has ls 7 [(6, .int (zI (k49 : Int))), (5, .int (zI (mby fr tt (mst fr tt)))), (4, .int (zI (mst fr tt))), (0, .ref (b 0)), (1, .int (zI v)), (2, .int (zI fr)), (3, .int (zI tt))] := hl
      have hP : va_P D vwCl (MW g b (mL1 c v fr (mby fr tt (mst fr tt)) k49)) H := hP
      have hb3 := h3 (k49 : Int) (by omega) (by omega)
      refine lv_iload S.1 S.2.1 dX5_layOut_49 (lv_at hl 0 rfl) ?_
      refine lv_iload S.1 S.2.1 dX5_layOut_51 (lv_at hl 2 rfl) ?_
      refine z_icmp_gt (tgt := 81) S dX5_layOut_53 (by decide) (by omega) (fun h_11 => ?_) (fun h_11 => ?_)
      · exact absurd h_11 (by omega)
      · refine lv_aload_n S.1 S.2.1 dX5_layOut_56 rfl (lv_at hl 3 rfl) ?_
        refine z_get (v := .ref (b 3)) S inA5 hK hP 0 rfl rfl 6 (by decide) fl_X5_20 rfl dX5_layOut_57 ?_
        refine z_sipush S (by decide) dX5_layOut_60 ?_
        refine lv_iload_n S.1 S.2.1 dX5_layOut_63 rfl (lv_at hl 4 rfl) ?_
        refine z_imul S dX5_layOut_64 ?_
        refine lv_iload_n S.1 S.2.1 dX5_layOut_65 rfl (lv_at hl 5 rfl) ?_
        refine z_iadd S dX5_layOut_66 ?_
        refine lv_iload S.1 S.2.1 dX5_layOut_67 (lv_at hl 0 rfl) ?_
        refine lv_iload S.1 S.2.1 dX5_layOut_69 (lv_at hl 1 rfl) ?_
        refine z_imul S dX5_layOut_71 ?_
        refine z_iadd S dX5_layOut_72 ?_
        refine z_iconst S dX5_layOut_73 ?_
        refine z_iast S hK hP (MW_D hda _) hS 3 rfl (by decide) (by omega) dX5_layOut_74 (fun H locs hP hS => ?_)
        have hP : va_P D vwCl (MW g b (sA (mL1 c v fr (mby fr tt (mst fr tt)) k49) 2 (upZ ((mL1 c v fr (mby fr tt (mst fr tt)) k49).2 2) (((400 * v) + fr) + ((k49 : Int) * (mby fr tt (mst fr tt)))) 2))) H := hP
        refine z_iinc (lv' := [(6, .int (zI ((k49 : Int) + 1))), (5, .int (zI (mby fr tt (mst fr tt)))), (4, .int (zI (mst fr tt))), (0, .ref (b 0)), (1, .int (zI v)), (2, .int (zI fr)), (3, .int (zI tt))]) S dX5_layOut_75 hl (k := 0) rfl (by decide) rfl (fun ls hl => ?_)
        refine z_goto (tgt := 49) S dX5_layOut_78 (by decide) ?_
        have hw : MW g b (sA (mL1 c v fr (mby fr tt (mst fr tt)) k49) 2 (upZ ((mL1 c v fr (mby fr tt (mst fr tt)) k49).2 2) (((400 * v) + fr) + ((k49 : Int) * (mby fr tt (mst fr tt)))) 2)) = MW g b (mL1 c v fr (mby fr tt (mst fr tt)) (k49 + 1)) := by exact rfl
        rw [hw] at hP
        exact ih49 _ _ hP hS _ (lv_sub hl [0, 1, 2, 3, 4, 5, 6] rfl) trivial
    · have hl : lv_has ls 7 [(6, .int (zI (((mst fr tt + 1).toNat : Nat) : Int))), (5, .int (zI (mby fr tt (mst fr tt)))), (4, .int (zI (mst fr tt))), (0, .ref (b 0)), (1, .int (zI v)), (2, .int (zI fr)), (3, .int (zI tt))] := hl
      have hP : va_P D vwCl (MW g b (mL1 c v fr (mby fr tt (mst fr tt)) ((mst fr tt + 1).toNat))) H := hP
      refine lv_iload S.1 S.2.1 dX5_layOut_49 (lv_at hl 0 rfl) ?_
      refine lv_iload S.1 S.2.1 dX5_layOut_51 (lv_at hl 2 rfl) ?_
      refine z_icmp_gt (tgt := 81) S dX5_layOut_53 (by decide) (by omega) (fun h_12 => ?_) (fun h_12 => ?_)
      · refine z_iconst S dX5_layOut_81 ?_
        refine lv_istore (lv' := [(6, .int (zI 0)), (5, .int (zI (mby fr tt (mst fr tt)))), (4, .int (zI (mst fr tt))), (0, .ref (b 0)), (1, .int (zI v)), (2, .int (zI fr)), (3, .int (zI tt))]) S.1 S.2.1 dX5_layOut_82 hl (by decide) rfl (fun ls hl => ?_)
        refine z_forW (D := D) (nL := 7) (A := (CA 14 b)) (H0 := s.heap) (400) (fun (k84 : Nat) => [(6, .int (zI (k84 : Int))), (5, .int (zI (mby fr tt (mst fr tt)))), (4, .int (zI (mst fr tt))), (0, .ref (b 0)), (1, .int (zI v)), (2, .int (zI fr)), (3, .int (zI tt))]) (fun (k84 : Nat) => MW g b (mL2 (mL1 c v fr (mby fr tt (mst fr tt)) (mst fr tt + 1).toNat) v k84)) (fun k84 => True) (fun k84 hk84 hJ84 H locs hP hS ls hl ih84 => ?_) (fun hJ84 H locs hP hS ls hl => ?_) 0 (by omega) trivial _ _ hP hS ls (lv_sub hl [0, 1, 2, 3, 4, 5, 6] rfl)
        · have hl : lv_has ls 7 [(6, .int (zI (k84 : Int))), (5, .int (zI (mby fr tt (mst fr tt)))), (4, .int (zI (mst fr tt))), (0, .ref (b 0)), (1, .int (zI v)), (2, .int (zI fr)), (3, .int (zI tt))] := hl
          have hP : va_P D vwCl (MW g b (mL2 (mL1 c v fr (mby fr tt (mst fr tt)) (mst fr tt + 1).toNat) v k84)) H := hP
          refine lv_iload S.1 S.2.1 dX5_layOut_84 (lv_at hl 0 rfl) ?_
          refine z_sipush S (by decide) dX5_layOut_86 ?_
          refine z_icmp_ge (tgt := 138) S dX5_layOut_89 (by decide) (by omega) (fun h_13 => ?_) (fun h_13 => ?_)
          · exact absurd h_13 (by omega)
          · refine lv_aload_n S.1 S.2.1 dX5_layOut_92 rfl (lv_at hl 3 rfl) ?_
            refine z_get (v := .ref (b 3)) S inA5 hK hP 0 rfl rfl 6 (by decide) fl_X5_20 rfl dX5_layOut_93 ?_
            refine z_sipush S (by decide) dX5_layOut_96 ?_
            refine lv_iload_n S.1 S.2.1 dX5_layOut_99 rfl (lv_at hl 4 rfl) ?_
            refine z_imul S dX5_layOut_100 ?_
            refine lv_iload S.1 S.2.1 dX5_layOut_101 (lv_at hl 0 rfl) ?_
            refine z_iadd S dX5_layOut_103 ?_
            refine z_iald S hK hP 3 rfl (by decide) (by omega) dX5_layOut_104 ?_
            have hb_14 := (mL2_IM (mL1_IM hI v fr (mby fr tt (mst fr tt)) (mst fr tt + 1).toNat) v k84).r2 ((400 * v) + (k84 : Int))
            refine z_if_ne (tgt := 132) S dX5_layOut_105 (by decide) (by omega) (fun h_15 => ?_) (fun h_15 => ?_)
            · refine z_iinc (lv' := [(6, .int (zI ((k84 : Int) + 1))), (5, .int (zI (mby fr tt (mst fr tt)))), (4, .int (zI (mst fr tt))), (0, .ref (b 0)), (1, .int (zI v)), (2, .int (zI fr)), (3, .int (zI tt))]) S dX5_layOut_132 hl (k := 0) rfl (by decide) rfl (fun ls hl => ?_)
              refine z_goto (tgt := 84) S dX5_layOut_135 (by decide) ?_
              have hw : MW g b (mL2 (mL1 c v fr (mby fr tt (mst fr tt)) (mst fr tt + 1).toNat) v k84) = MW g b (mL2 (mL1 c v fr (mby fr tt (mst fr tt)) (mst fr tt + 1).toNat) v (k84 + 1)) := by first | rw [mL2, if_pos (by omega)] | rw [mL2, if_neg (by omega)]
              rw [hw] at hP
              exact ih84 _ _ hP hS _ (lv_sub hl [0, 1, 2, 3, 4, 5, 6] rfl) trivial
            · refine lv_aload_n S.1 S.2.1 dX5_layOut_108 rfl (lv_at hl 3 rfl) ?_
              refine lv_iload_n S.1 S.2.1 dX5_layOut_109 rfl (lv_at hl 4 rfl) ?_
              refine lv_iload S.1 S.2.1 dX5_layOut_110 (lv_at hl 0 rfl) ?_
              refine z_rV (As := [.int (zI v), .int (zI (k84 : Int))]) (rest := []) S (m_X5_isBeside l D g b (mL2 (mL1 c v fr (mby fr tt (mst fr tt)) (mst fr tt + 1).toNat) v k84) (mL2_IM (mL1_IM hI v fr (mby fr tt (mst fr tt)) (mst fr tt + 1).toNat) v k84) v (k84 : Int) (by omega) (by omega)) ml_X5_82 im_X5_isBeside se_X5_isBeside ini_X5 cd_X5_isBeside ds_X5_isBeside ⟨Nat.le_of_ble_eq_true rfl, Nat.le_of_ble_eq_true rfl⟩ hK hP (va_recv hK.1 hP (ci := 5) (q0 := 0) rfl rfl) rfl hl.1 rfl (Nat.le_of_ble_eq_true rfl) ⟨Nat.zero_le _, Nat.zero_le _⟩ dX5_layOut_112 ?_
              refine z_ifb_eq (tgt := 132) S dX5_layOut_115 (by decide) (fun h_16 => ?_) (fun h_16 => ?_)
              · refine z_iinc (lv' := [(6, .int (zI ((k84 : Int) + 1))), (5, .int (zI (mby fr tt (mst fr tt)))), (4, .int (zI (mst fr tt))), (0, .ref (b 0)), (1, .int (zI v)), (2, .int (zI fr)), (3, .int (zI tt))]) S dX5_layOut_132 hl (k := 0) rfl (by decide) rfl (fun ls hl => ?_)
                refine z_goto (tgt := 84) S dX5_layOut_135 (by decide) ?_
                have hw : MW g b (mL2 (mL1 c v fr (mby fr tt (mst fr tt)) (mst fr tt + 1).toNat) v k84) = MW g b (mL2 (mL1 c v fr (mby fr tt (mst fr tt)) (mst fr tt + 1).toNat) v (k84 + 1)) := by first | rw [mL2, if_pos (by omega)] | rw [mL2, if_neg (by omega)]
                rw [hw] at hP
                exact ih84 _ _ hP hS _ (lv_sub hl [0, 1, 2, 3, 4, 5, 6] rfl) trivial
              · refine lv_aload_n S.1 S.2.1 dX5_layOut_118 rfl (lv_at hl 3 rfl) ?_
                refine z_get (v := .ref (b 3)) S inA5 hK hP 0 rfl rfl 6 (by decide) fl_X5_20 rfl dX5_layOut_119 ?_
                refine z_sipush S (by decide) dX5_layOut_122 ?_
                refine lv_iload_n S.1 S.2.1 dX5_layOut_125 rfl (lv_at hl 4 rfl) ?_
                refine z_imul S dX5_layOut_126 ?_
                refine lv_iload S.1 S.2.1 dX5_layOut_127 (lv_at hl 0 rfl) ?_
                refine z_iadd S dX5_layOut_129 ?_
                refine z_iconst S dX5_layOut_130 ?_
                refine z_iast S hK hP (MW_D hda _) hS 3 rfl (by decide) (by omega) dX5_layOut_131 (fun H locs hP hS => ?_)
                have hP : va_P D vwCl (MW g b (sA (mL2 (mL1 c v fr (mby fr tt (mst fr tt)) (mst fr tt + 1).toNat) v k84) 2 (upZ ((mL2 (mL1 c v fr (mby fr tt (mst fr tt)) (mst fr tt + 1).toNat) v k84).2 2) ((400 * v) + (k84 : Int)) 1))) H := hP
                refine z_iinc (lv' := [(6, .int (zI ((k84 : Int) + 1))), (5, .int (zI (mby fr tt (mst fr tt)))), (4, .int (zI (mst fr tt))), (0, .ref (b 0)), (1, .int (zI v)), (2, .int (zI fr)), (3, .int (zI tt))]) S dX5_layOut_132 hl (k := 0) rfl (by decide) rfl (fun ls hl => ?_)
                refine z_goto (tgt := 84) S dX5_layOut_135 (by decide) ?_
                have hw : MW g b (sA (mL2 (mL1 c v fr (mby fr tt (mst fr tt)) (mst fr tt + 1).toNat) v k84) 2 (upZ ((mL2 (mL1 c v fr (mby fr tt (mst fr tt)) (mst fr tt + 1).toNat) v k84).2 2) ((400 * v) + (k84 : Int)) 1)) = MW g b (mL2 (mL1 c v fr (mby fr tt (mst fr tt)) (mst fr tt + 1).toNat) v (k84 + 1)) := by first | rw [mL2, if_pos (by omega)] | rw [mL2, if_neg (by omega)]
                rw [hw] at hP
                exact ih84 _ _ hP hS _ (lv_sub hl [0, 1, 2, 3, 4, 5, 6] rfl) trivial
        · have hl : lv_has ls 7 [(6, .int (zI ((400 : Nat) : Int))), (5, .int (zI (mby fr tt (mst fr tt)))), (4, .int (zI (mst fr tt))), (0, .ref (b 0)), (1, .int (zI v)), (2, .int (zI fr)), (3, .int (zI tt))] := hl
          have hP : va_P D vwCl (MW g b (mL2 (mL1 c v fr (mby fr tt (mst fr tt)) (mst fr tt + 1).toNat) v 400)) H := hP
          refine lv_iload S.1 S.2.1 dX5_layOut_84 (lv_at hl 0 rfl) ?_
          refine z_sipush S (by decide) dX5_layOut_86 ?_
          refine z_icmp_ge (tgt := 138) S dX5_layOut_89 (by decide) (by omega) (fun h_17 => ?_) (fun h_17 => ?_)
          · have hw : MW g b (mL2 (mL1 c v fr (mby fr tt (mst fr tt)) (mst fr tt + 1).toNat) v 400) = MW g b (mLay c v fr tt) := by exact rfl
            rw [hw] at hP
            exact z_retv S hr hlk hP hS dX5_layOut_138
          · exact absurd h_17 (by omega)
      · exact absurd h_12 (by omega)
set_option maxHeartbeats 4000000 in
set_option maxRecDepth 100000 in
theorem m_X5_marks (l : Launch) (D : va_G) (g : ClassId × ClassId × ClassId) (b : Nat → Nat) {B : Int} (c : CS) (hI : IM B c) (hda : CD 14 b) (d : Int) (sp : Int) (h0 : 0 ≤ d ∧ d < 5) (h1 : 0 ≤ sp ∧ sp < 400) : WRi l yX5_marks cX5_marks 3 (some .int) 2 47 D g (CA 14 b) (MW g b c) [.ref (b 0), .int (zI d), .int (zI sp)] (MW g b (mMkC c d sp)) (b01 (mMk c d sp)) := by
  refine z_enter RX5 (by decide) rfl (Nat.le_of_ble_eq_true rfl) ?_
  intro p e s m args below meth co S hr hlk hK hP ls hl
  have hl : lv_has ls 3 [(0, .ref (b 0)), (1, .int (zI d)), (2, .int (zI sp))] := hl
  have hs := hI.s
  have hS : va_S (CA 14 b) s.heap s.heap [] := va_S.rf
  refine lv_aload_n S.1 S.2.1 dX5_marks_0 rfl (lv_at hl 0 rfl) ?_
  refine z_get (v := .int (zI (c.1 5))) S inA5 hK hP 0 rfl rfl 13 (by decide) fl_X5_96 rfl dX5_marks_1 ?_
  refine z_bipush S (by decide) dX5_marks_4 ?_
  refine z_icmp_eq (tgt := 31) S dX5_marks_6 (by decide) (by omega) (fun h_1 => ?_) (fun h_1 => ?_)
  · refine z_iconst S dX5_marks_31 ?_
    have hw : MW g b c = MW g b (mMkC c d sp) := by first | rw [mMkC, if_pos (by omega)] | rw [mMkC, if_neg (by omega)]
    rw [hw] at hP
    exact z_retw S hr hlk (by first | rfl | exact (b01_t (by omega)).symm | exact (b01_f (by omega)).symm) hP hS dX5_marks_32
  · refine lv_aload_n S.1 S.2.1 dX5_marks_9 rfl (lv_at hl 0 rfl) ?_
    refine z_get (v := .ref (b 9)) S inA5 hK hP 0 rfl rfl 14 (by decide) fl_X5_38 rfl dX5_marks_10 ?_
    refine lv_iload_n S.1 S.2.1 dX5_marks_13 rfl (lv_at hl 2 rfl) ?_
    refine z_iald S hK hP 9 rfl (by decide) (by omega) dX5_marks_14 ?_
    have hb_2 := hI.r8 sp
    refine z_if_gt (tgt := 31) S dX5_marks_15 (by decide) (by omega) (fun h_3 => ?_) (fun h_3 => ?_)
    · refine z_iconst S dX5_marks_31 ?_
      have hw : MW g b c = MW g b (mMkC c d sp) := by first | rw [mMkC, if_pos (by omega)] | rw [mMkC, if_neg (by omega)]
      rw [hw] at hP
      exact z_retw S hr hlk (by first | rfl | exact (b01_t (by omega)).symm | exact (b01_f (by omega)).symm) hP hS dX5_marks_32
    · refine lv_aload_n S.1 S.2.1 dX5_marks_18 rfl (lv_at hl 0 rfl) ?_
      refine lv_iload_n S.1 S.2.1 dX5_marks_19 rfl (lv_at hl 1 rfl) ?_
      refine lv_iload_n S.1 S.2.1 dX5_marks_20 rfl (lv_at hl 2 rfl) ?_
      refine z_rV (As := [.int (zI d), .int (zI sp)]) (rest := []) S (m_X5_bends l D g b c hI d sp (by omega) (by omega)) ml_X5_99 im_X5_bends se_X5_bends ini_X5 cd_X5_bends ds_X5_bends ⟨Nat.le_of_ble_eq_true rfl, Nat.le_of_ble_eq_true rfl⟩ hK hP (va_recv hK.1 hP (ci := 5) (q0 := 0) rfl rfl) rfl hl.1 rfl (Nat.le_of_ble_eq_true rfl) ⟨Nat.zero_le _, Nat.zero_le _⟩ dX5_marks_21 ?_
      have hb0 := mBnd_b hI d sp
      refine lv_aload_n S.1 S.2.1 dX5_marks_24 rfl (lv_at hl 0 rfl) ?_
      refine z_get (v := .int (zI (c.1 1))) S inA5 hK hP 0 rfl rfl 1 (by decide) fl_X5_9 rfl dX5_marks_25 ?_
      refine z_icmp_ge (tgt := 33) S dX5_marks_28 (by decide) (by omega) (fun h_4 => ?_) (fun h_4 => ?_)
      · refine lv_aload_n S.1 S.2.1 dX5_marks_33 rfl (lv_at hl 0 rfl) ?_
        refine z_get (v := .ref (b 9)) S inA5 hK hP 0 rfl rfl 14 (by decide) fl_X5_38 rfl dX5_marks_34 ?_
        refine lv_iload_n S.1 S.2.1 dX5_marks_37 rfl (lv_at hl 2 rfl) ?_
        refine lv_iload_n S.1 S.2.1 dX5_marks_38 rfl (lv_at hl 1 rfl) ?_
        refine z_iconst S dX5_marks_39 ?_
        refine z_iadd S dX5_marks_40 ?_
        refine z_iast S hK hP (MW_D hda _) hS 9 rfl (by decide) (by omega) dX5_marks_41 (fun H locs hP hS => ?_)
        have hP : va_P D vwCl (MW g b (sA c 8 (upZ (c.2 8) sp (d + 1)))) H := hP
        refine lv_aload_n S.1 S.2.1 dX5_marks_42 rfl (lv_at hl 0 rfl) ?_
        refine lv_dup S.1 S.2.1 dX5_marks_43 rfl ?_
        refine z_get (v := .int (zI (c.1 5))) S inA5 hK hP 0 rfl rfl 13 (by decide) fl_X5_96 rfl dX5_marks_44 ?_
        refine z_iconst S dX5_marks_47 ?_
        refine z_iadd S dX5_marks_48 ?_
        refine z_put S inA5 tyX5 tyX5_ok nmX5 hK hP (MW_D hda _) hS 0 rfl rfl 13 (by decide) fl_X5_96 rfl (by decide +kernel) (Nat.le_of_ble_eq_true rfl) dX5_marks_49 (fun H locs hP hS => ?_)
        have hP : va_P D vwCl (MW g b (sS (sA c 8 (upZ (c.2 8) sp (d + 1))) 5 ((c.1 5) + 1))) H := hP
        refine z_iconst S dX5_marks_52 ?_
        have hw : MW g b (sS (sA c 8 (upZ (c.2 8) sp (d + 1))) 5 ((c.1 5) + 1)) = MW g b (mMkC c d sp) := by first | rw [mMkC, if_pos (by omega)] | rw [mMkC, if_neg (by omega)]
        rw [hw] at hP
        exact z_retw S hr hlk (by first | rfl | exact (b01_t (by omega)).symm | exact (b01_f (by omega)).symm) hP hS dX5_marks_53
      · refine z_iconst S dX5_marks_31 ?_
        have hw : MW g b c = MW g b (mMkC c d sp) := by first | rw [mMkC, if_pos (by omega)] | rw [mMkC, if_neg (by omega)]
        rw [hw] at hP
        exact z_retw S hr hlk (by first | rfl | exact (b01_t (by omega)).symm | exact (b01_f (by omega)).symm) hP hS dX5_marks_32
set_option maxHeartbeats 4000000 in
set_option maxRecDepth 100000 in
theorem m_X5_hasFound (l : Launch) (D : va_G) (g : ClassId × ClassId × ClassId) (b : Nat → Nat) {B : Int} (c : CS) (hI : IM B c) (q : Int) (h0 : 0 ≤ q ∧ q < 10) : RD l yX5_hasFound cX5_hasFound 2 (some .boolean) 0 0 D g (MW g b c) [.ref (b 0), .int (zI q)] (b01 (mF c q)) := by
  refine z_enter RX5 (by decide) rfl (Nat.le_of_ble_eq_true rfl) ?_
  intro p e s m args below meth co S hr hlk hK hP ls hl
  have hl : lv_has ls 2 [(0, .ref (b 0)), (1, .int (zI q))] := hl
  have hs := hI.s
  refine lv_aload_n S.1 S.2.1 dX5_hasFound_0 rfl (lv_at hl 0 rfl) ?_
  refine z_get (v := .ref (b 11)) S inA5 hK hP 0 rfl rfl 17 (by decide) fl_X5_44 rfl dX5_hasFound_1 ?_
  refine lv_iload_n S.1 S.2.1 dX5_hasFound_4 rfl (lv_at hl 1 rfl) ?_
  refine z_iald S hK hP 11 rfl (by decide) (by omega) dX5_hasFound_5 ?_
  have hb_1 := hI.r10 q
  refine z_if_le (tgt := 28) S dX5_hasFound_6 (by decide) (by omega) (fun h_2 => ?_) (fun h_2 => ?_)
  · refine z_iconst S dX5_hasFound_28 ?_
    exact z_retb S hr hlk (Or.inl rfl) ((b01_f (by omega)).symm) dX5_hasFound_29
  · refine lv_aload_n S.1 S.2.1 dX5_hasFound_9 rfl (lv_at hl 0 rfl) ?_
    refine z_get (v := .ref (b 12)) S inA5 hK hP 0 rfl rfl 18 (by decide) fl_X5_47 rfl dX5_hasFound_10 ?_
    refine lv_iload_n S.1 S.2.1 dX5_hasFound_13 rfl (lv_at hl 1 rfl) ?_
    refine z_iald S hK hP 12 rfl (by decide) (by omega) dX5_hasFound_14 ?_
    have hb_3 := hI.r11 q
    refine lv_aload_n S.1 S.2.1 dX5_hasFound_15 rfl (lv_at hl 0 rfl) ?_
    refine z_get (v := .ref (b 11)) S inA5 hK hP 0 rfl rfl 17 (by decide) fl_X5_44 rfl dX5_hasFound_16 ?_
    refine lv_iload_n S.1 S.2.1 dX5_hasFound_19 rfl (lv_at hl 1 rfl) ?_
    refine z_iald S hK hP 11 rfl (by decide) (by omega) dX5_hasFound_20 ?_
    have hb_4 := hI.r10 q
    refine z_icmp_lt (tgt := 28) S dX5_hasFound_21 (by decide) (by omega) (fun h_5 => ?_) (fun h_5 => ?_)
    · refine z_iconst S dX5_hasFound_28 ?_
      exact z_retb S hr hlk (Or.inl rfl) ((b01_f (by omega)).symm) dX5_hasFound_29
    · refine z_iconst S dX5_hasFound_24 ?_
      refine z_goto (tgt := 29) S dX5_hasFound_25 (by decide) ?_
      exact z_retb S hr hlk (Or.inr rfl) ((b01_t (by omega)).symm) dX5_hasFound_29
set_option maxHeartbeats 4000000 in
set_option maxRecDepth 100000 in
theorem m_X5_isOver (l : Launch) (D : va_G) (g : ClassId × ClassId × ClassId) (b : Nat → Nat) {B : Int} (c : CS) (hI : IM B c) (q : Int) (h0 : 0 ≤ q ∧ q < 10) : RD l yX5_isOver cX5_isOver 2 (some .boolean) 1 21 D g (MW g b c) [.ref (b 0), .int (zI q)] (b01 (mO c q)) := by
  refine z_enter RX5 (by decide) rfl (Nat.le_of_ble_eq_true rfl) ?_
  intro p e s m args below meth co S hr hlk hK hP ls hl
  have hl : lv_has ls 2 [(0, .ref (b 0)), (1, .int (zI q))] := hl
  have hs := hI.s
  refine lv_aload_n S.1 S.2.1 dX5_isOver_0 rfl (lv_at hl 0 rfl) ?_
  refine lv_iload_n S.1 S.2.1 dX5_isOver_1 rfl (lv_at hl 1 rfl) ?_
  refine z_rV (As := [.int (zI q)]) (rest := []) S (m_X5_hasFound l D g b c hI q (by omega)) ml_X5_115 im_X5_hasFound se_X5_hasFound ini_X5 cd_X5_hasFound ds_X5_hasFound ⟨Nat.le_of_ble_eq_true rfl, Nat.le_of_ble_eq_true rfl⟩ hK hP (va_recv hK.1 hP (ci := 5) (q0 := 0) rfl rfl) rfl hl.1 rfl (Nat.le_of_ble_eq_true rfl) ⟨Nat.zero_le _, Nat.zero_le _⟩ dX5_isOver_2 ?_
  refine z_ifb_ne (tgt := 19) S dX5_isOver_5 (by decide) (fun h_1 => ?_) (fun h_1 => ?_)
  · refine z_iconst S dX5_isOver_19 ?_
    refine z_goto (tgt := 24) S dX5_isOver_20 (by decide) ?_
    exact z_retb S hr hlk (Or.inr rfl) ((b01_t (by omega)).symm) dX5_isOver_24
  · refine lv_aload_n S.1 S.2.1 dX5_isOver_8 rfl (lv_at hl 0 rfl) ?_
    refine z_get (v := .ref (b 12)) S inA5 hK hP 0 rfl rfl 18 (by decide) fl_X5_47 rfl dX5_isOver_9 ?_
    refine lv_iload_n S.1 S.2.1 dX5_isOver_12 rfl (lv_at hl 1 rfl) ?_
    refine z_iald S hK hP 12 rfl (by decide) (by omega) dX5_isOver_13 ?_
    have hb_2 := hI.r11 q
    refine z_bipush S (by decide) dX5_isOver_14 ?_
    refine z_icmp_ne (tgt := 23) S dX5_isOver_16 (by decide) (by omega) (fun h_3 => ?_) (fun h_3 => ?_)
    · refine z_iconst S dX5_isOver_23 ?_
      exact z_retb S hr hlk (Or.inl rfl) ((b01_f (by omega)).symm) dX5_isOver_24
    · refine z_iconst S dX5_isOver_19 ?_
      refine z_goto (tgt := 24) S dX5_isOver_20 (by decide) ?_
      exact z_retb S hr hlk (Or.inr rfl) ((b01_t (by omega)).symm) dX5_isOver_24
set_option maxHeartbeats 4000000 in
set_option maxRecDepth 100000 in
theorem m_X5_betOn (l : Launch) (D : va_G) (g : ClassId × ClassId × ClassId) (b : Nat → Nat) {B : Int} (c : CS) (hI : IM B c) (q : Int) (f : Int) (h0 : 0 ≤ q ∧ q < 10) (h1 : 0 ≤ f ∧ f ≤ 1) : RD l yX5_betOn cX5_betOn 5 (some .int) 1 21 D g (MW g b c) [.ref (b 0), .int (zI q), .int (zI f)] (mBO c q f 5) := by
  refine z_enter RX5 (by decide) rfl (Nat.le_of_ble_eq_true rfl) ?_
  intro p e s m args below meth co S hr hlk hK hP ls hl
  have hl : lv_has ls 5 [(0, .ref (b 0)), (1, .int (zI q)), (2, .int (zI f))] := hl
  have hs := hI.s
  refine z_iconst S dX5_betOn_0 ?_
  refine lv_istore_n (lv' := [(3, .int (zI 0)), (0, .ref (b 0)), (1, .int (zI q)), (2, .int (zI f))]) S.1 S.2.1 dX5_betOn_1 rfl hl (by decide) rfl (fun ls hl => ?_)
  refine z_iconst S dX5_betOn_2 ?_
  refine lv_istore (lv' := [(4, .int (zI 0)), (3, .int (zI 0)), (0, .ref (b 0)), (1, .int (zI q)), (2, .int (zI f))]) S.1 S.2.1 dX5_betOn_3 hl (by decide) rfl (fun ls hl => ?_)
  refine z_for (nL := 5) (5) (fun (k5 : Nat) => [(4, .int (zI (k5 : Int))), (3, .int (zI (mBO c q f k5))), (0, .ref (b 0)), (1, .int (zI q)), (2, .int (zI f))]) (fun k5 => True) (fun k5 hk5 hJ5 ls hl ih5 => ?_) (fun hJ5 ls hl => ?_) 0 (by omega) trivial ls (lv_sub hl [0, 1, 2, 3, 4] rfl)
  · have hl : lv_has ls 5 [(4, .int (zI (k5 : Int))), (3, .int (zI (mBO c q f k5))), (0, .ref (b 0)), (1, .int (zI q)), (2, .int (zI f))] := hl
    refine lv_iload S.1 S.2.1 dX5_betOn_5 (lv_at hl 0 rfl) ?_
    refine z_iconst S dX5_betOn_7 ?_
    refine z_icmp_ge (tgt := 54) S dX5_betOn_8 (by decide) (by omega) (fun h_1 => ?_) (fun h_1 => ?_)
    · exact absurd h_1 (by omega)
    · refine lv_iload_n S.1 S.2.1 dX5_betOn_11 rfl (lv_at hl 1 rfl) ?_
      refine z_iconst S dX5_betOn_12 ?_
      refine lv_iload_n S.1 S.2.1 dX5_betOn_13 rfl (lv_at hl 4 rfl) ?_
      refine z_if_eq (tgt := 31) S dX5_betOn_14 (by decide) (by omega) (fun h_2 => ?_) (fun h_2 => ?_)
      · refine lv_aload_n S.1 S.2.1 dX5_betOn_31 rfl (lv_at hl 2 rfl) ?_
        refine z_get (v := .ref (b 13)) S inA5 hK hP 0 rfl rfl 19 (by decide) fl_X5_50 rfl dX5_betOn_32 ?_
        refine z_iconst S dX5_betOn_35 ?_
        refine lv_iload_n S.1 S.2.1 dX5_betOn_36 rfl (lv_at hl 3 rfl) ?_
        refine z_imul S dX5_betOn_37 ?_
        refine lv_iload S.1 S.2.1 dX5_betOn_38 (lv_at hl 0 rfl) ?_
        refine z_iadd S dX5_betOn_40 ?_
        refine z_iald S hK hP 13 rfl (by decide) (by omega) dX5_betOn_41 ?_
        have hb_3 := hI.r12 ((5 * q) + (k5 : Int))
        refine z_ineg S dX5_betOn_42 ?_
        refine z_max S ml_X5_75 hl.1 (Nat.le_of_ble_eq_true rfl) (Nat.le_of_ble_eq_true rfl) ⟨Nat.zero_le _, Nat.zero_le _⟩ (by omega) dX5_betOn_43 ?_
        refine z_iadd S dX5_betOn_46 ?_
        refine lv_istore_n (lv' := [(3, .int (zI ((mBO c q f k5) + (max 0 (-(c.2 12 ((5 * q) + (k5 : Int)))))))), (4, .int (zI (k5 : Int))), (0, .ref (b 0)), (1, .int (zI q)), (2, .int (zI f))]) S.1 S.2.1 dX5_betOn_47 rfl hl (by decide) rfl (fun ls hl => ?_)
        refine z_iinc (lv' := [(4, .int (zI ((k5 : Int) + 1))), (3, .int (zI ((mBO c q f k5) + (max 0 (-(c.2 12 ((5 * q) + (k5 : Int)))))))), (0, .ref (b 0)), (1, .int (zI q)), (2, .int (zI f))]) S dX5_betOn_48 hl (k := 1) rfl (by decide) rfl (fun ls hl => ?_)
        refine z_goto (tgt := 5) S dX5_betOn_51 (by decide) ?_
        have e_4 : mBO c q f (k5 + 1) = (mBO c q f k5) + (max 0 (-(c.2 12 ((5 * q) + (k5 : Int))))) := by grind [mBO, sm, mOwn]
        exact ih5 _ (lv_sub hl [0, 1, 2, 3, 4] (by show _ = ([(4, .int (zI ((k5 + 1 : Nat) : Int))), (3, .int (zI (mBO c q f (k5 + 1)))), (0, .ref (b 0)), (1, .int (zI q)), (2, .int (zI f))] : List (Nat × Value)); rw [e_4]; first | done | rfl)) trivial
      · refine lv_aload_n S.1 S.2.1 dX5_betOn_17 rfl (lv_at hl 2 rfl) ?_
        refine z_get (v := .ref (b 13)) S inA5 hK hP 0 rfl rfl 19 (by decide) fl_X5_50 rfl dX5_betOn_18 ?_
        refine z_iconst S dX5_betOn_21 ?_
        refine lv_iload_n S.1 S.2.1 dX5_betOn_22 rfl (lv_at hl 3 rfl) ?_
        refine z_imul S dX5_betOn_23 ?_
        refine lv_iload S.1 S.2.1 dX5_betOn_24 (lv_at hl 0 rfl) ?_
        refine z_iadd S dX5_betOn_26 ?_
        refine z_iald S hK hP 13 rfl (by decide) (by omega) dX5_betOn_27 ?_
        have hb_5 := hI.r12 ((5 * q) + (k5 : Int))
        refine z_goto (tgt := 43) S dX5_betOn_28 (by decide) ?_
        refine z_max S ml_X5_75 hl.1 (Nat.le_of_ble_eq_true rfl) (Nat.le_of_ble_eq_true rfl) ⟨Nat.zero_le _, Nat.zero_le _⟩ (by omega) dX5_betOn_43 ?_
        refine z_iadd S dX5_betOn_46 ?_
        refine lv_istore_n (lv' := [(3, .int (zI ((mBO c q f k5) + (max 0 (c.2 12 ((5 * q) + (k5 : Int))))))), (4, .int (zI (k5 : Int))), (0, .ref (b 0)), (1, .int (zI q)), (2, .int (zI f))]) S.1 S.2.1 dX5_betOn_47 rfl hl (by decide) rfl (fun ls hl => ?_)
        refine z_iinc (lv' := [(4, .int (zI ((k5 : Int) + 1))), (3, .int (zI ((mBO c q f k5) + (max 0 (c.2 12 ((5 * q) + (k5 : Int))))))), (0, .ref (b 0)), (1, .int (zI q)), (2, .int (zI f))]) S dX5_betOn_48 hl (k := 1) rfl (by decide) rfl (fun ls hl => ?_)
        refine z_goto (tgt := 5) S dX5_betOn_51 (by decide) ?_
        have e_6 : mBO c q f (k5 + 1) = (mBO c q f k5) + (max 0 (c.2 12 ((5 * q) + (k5 : Int)))) := by grind [mBO, sm, mOwn]
        exact ih5 _ (lv_sub hl [0, 1, 2, 3, 4] (by show _ = ([(4, .int (zI ((k5 + 1 : Nat) : Int))), (3, .int (zI (mBO c q f (k5 + 1)))), (0, .ref (b 0)), (1, .int (zI q)), (2, .int (zI f))] : List (Nat × Value)); rw [e_6]; first | done | rfl)) trivial
  · have hl : lv_has ls 5 [(4, .int (zI ((5 : Nat) : Int))), (3, .int (zI (mBO c q f 5))), (0, .ref (b 0)), (1, .int (zI q)), (2, .int (zI f))] := hl
    refine lv_iload S.1 S.2.1 dX5_betOn_5 (lv_at hl 0 rfl) ?_
    refine z_iconst S dX5_betOn_7 ?_
    refine z_icmp_ge (tgt := 54) S dX5_betOn_8 (by decide) (by omega) (fun h_7 => ?_) (fun h_7 => ?_)
    · refine lv_iload_n S.1 S.2.1 dX5_betOn_54 rfl (lv_at hl 1 rfl) ?_
      exact z_ret S hr hlk (by first | rfl | grind) dX5_betOn_55
    · exact absurd h_7 (by omega)
set_option maxHeartbeats 4000000 in
set_option maxRecDepth 100000 in
theorem m_X5_share (l : Launch) (D : va_G) (g : ClassId × ClassId × ClassId) (b : Nat → Nat) {B : Int} (c : CS) (hI : IM B c) (q : Int) (d : Int) (f : Int) (h0 : 0 ≤ q ∧ q < 10) (h1 : 0 ≤ d ∧ d < 5) (h2 : 0 ≤ f ∧ f ≤ 1) : RD l yX5_share cX5_share 5 (some .int) 2 45 D g (MW g b c) [.ref (b 0), .int (zI q), .int (zI d), .int (zI f)] (mSh c q d f) := by
  refine z_enter RX5 (by decide) rfl (Nat.le_of_ble_eq_true rfl) ?_
  intro p e s m args below meth co S hr hlk hK hP ls hl
  have hl : lv_has ls 5 [(0, .ref (b 0)), (1, .int (zI q)), (2, .int (zI d)), (3, .int (zI f))] := hl
  have hs := hI.s
  have hb1 := mBO_b hI q 1 5
  have hb2 := mBO_b hI q 0 5
  have hb3 := mBO_b hI q f 5
  have hb4 := mBO_ge hI q f 5 d h1.1 (by omega)
  have hb5 := mOwn_b hI q d f
  have hb6 : f = 1 → mOwn c q d f = c.2 12 (5 * q + d) := fun z => if_pos z
  have hb7 : ¬ f = 1 → mOwn c q d f = -c.2 12 (5 * q + d) := fun z => if_neg z
  have hA : ∀ z : Int, 0 < z → z ≤ 99 → 0 ≤ (mBO c q 1 5 + mBO c q 0 5) * z ∧ (mBO c q 1 5 + mBO c q 0 5) * z ≤ 98010 := fun z h4 h5 => prod_b (m := 990) (n := 99) (by omega) (by omega)
  refine lv_iload_n S.1 S.2.1 dX5_share_0 rfl (lv_at hl 3 rfl) ?_
  refine z_if_eq (tgt := 17) S dX5_share_1 (by decide) (by omega) (fun h_1 => ?_) (fun h_1 => ?_)
  · refine lv_aload_n S.1 S.2.1 dX5_share_17 rfl (lv_at hl 0 rfl) ?_
    refine z_get (v := .ref (b 13)) S inA5 hK hP 0 rfl rfl 19 (by decide) fl_X5_50 rfl dX5_share_18 ?_
    refine z_iconst S dX5_share_21 ?_
    refine lv_iload_n S.1 S.2.1 dX5_share_22 rfl (lv_at hl 1 rfl) ?_
    refine z_imul S dX5_share_23 ?_
    refine lv_iload_n S.1 S.2.1 dX5_share_24 rfl (lv_at hl 2 rfl) ?_
    refine z_iadd S dX5_share_25 ?_
    refine z_iald S hK hP 13 rfl (by decide) (by omega) dX5_share_26 ?_
    have hb_2 := hI.r12 ((5 * q) + d)
    refine z_ineg S dX5_share_27 ?_
    refine lv_istore (lv' := [(4, .int (zI (-(c.2 12 ((5 * q) + d))))), (0, .ref (b 0)), (1, .int (zI q)), (2, .int (zI d)), (3, .int (zI f))]) S.1 S.2.1 dX5_share_28 hl (by decide) rfl (fun ls hl => ?_)
    refine lv_iload S.1 S.2.1 dX5_share_30 (lv_at hl 0 rfl) ?_
    refine z_if_gt (tgt := 39) S dX5_share_32 (by decide) (by omega) (fun h_3 => ?_) (fun h_3 => ?_)
    · refine lv_aload_n S.1 S.2.1 dX5_share_39 rfl (lv_at hl 1 rfl) ?_
      refine lv_iload_n S.1 S.2.1 dX5_share_40 rfl (lv_at hl 2 rfl) ?_
      refine z_iconst S dX5_share_41 ?_
      refine z_rV (As := [.int (zI q), .int (zI 1)]) (rest := []) S (m_X5_betOn l D g b c hI q 1 (by omega) (by omega)) ml_X5_121 im_X5_betOn se_X5_betOn ini_X5 cd_X5_betOn ds_X5_betOn ⟨Nat.le_of_ble_eq_true rfl, Nat.le_of_ble_eq_true rfl⟩ hK hP (va_recv hK.1 hP (ci := 5) (q0 := 0) rfl rfl) rfl hl.1 rfl (Nat.le_of_ble_eq_true rfl) ⟨Nat.zero_le _, Nat.zero_le _⟩ dX5_share_42 ?_
      refine lv_aload_n S.1 S.2.1 dX5_share_45 rfl (lv_at hl 1 rfl) ?_
      refine lv_iload_n S.1 S.2.1 dX5_share_46 rfl (lv_at hl 2 rfl) ?_
      refine z_iconst S dX5_share_47 ?_
      refine z_rV (As := [.int (zI q), .int (zI 0)]) (rest := [.int (zI (mBO c q 1 5))]) S (m_X5_betOn l D g b c hI q 0 (by omega) (by omega)) ml_X5_121 im_X5_betOn se_X5_betOn ini_X5 cd_X5_betOn ds_X5_betOn ⟨Nat.le_of_ble_eq_true rfl, Nat.le_of_ble_eq_true rfl⟩ hK hP (va_recv hK.1 hP (ci := 5) (q0 := 0) rfl rfl) rfl hl.1 rfl (Nat.le_of_ble_eq_true rfl) ⟨Nat.zero_le _, Nat.zero_le _⟩ dX5_share_48 ?_
      refine z_iadd S dX5_share_51 ?_
      refine lv_iload S.1 S.2.1 dX5_share_52 (lv_at hl 0 rfl) ?_
      refine z_imul S dX5_share_54 ?_
      refine lv_aload_n S.1 S.2.1 dX5_share_55 rfl (lv_at hl 1 rfl) ?_
      refine lv_iload_n S.1 S.2.1 dX5_share_56 rfl (lv_at hl 2 rfl) ?_
      refine lv_iload_n S.1 S.2.1 dX5_share_57 rfl (lv_at hl 4 rfl) ?_
      refine z_rV (As := [.int (zI q), .int (zI f)]) (rest := [.int (zI (((mBO c q 1 5) + (mBO c q 0 5)) * (-(c.2 12 ((5 * q) + d)))))]) S (m_X5_betOn l D g b c hI q f (by omega) (by omega)) ml_X5_121 im_X5_betOn se_X5_betOn ini_X5 cd_X5_betOn ds_X5_betOn ⟨Nat.le_of_ble_eq_true rfl, Nat.le_of_ble_eq_true rfl⟩ hK hP (va_recv hK.1 hP (ci := 5) (q0 := 0) rfl rfl) rfl hl.1 rfl (Nat.le_of_ble_eq_true rfl) ⟨Nat.zero_le _, Nat.zero_le _⟩ dX5_share_58 ?_
      refine z_idivn S (by first | (have hz := hA (c.2 12 (5 * q + d)) (by omega) (by omega); omega) | (have hz := hA (-(c.2 12 (5 * q + d))) (by omega) (by omega); omega)) dX5_share_61 ?_
      exact z_ret S hr hlk (by grind [mSh, mOwn]) dX5_share_62
    · refine z_iconst S dX5_share_35 ?_
      refine z_goto (tgt := 62) S dX5_share_36 (by decide) ?_
      exact z_ret S hr hlk (by grind [mSh, mOwn]) dX5_share_62
  · refine lv_aload_n S.1 S.2.1 dX5_share_4 rfl (lv_at hl 0 rfl) ?_
    refine z_get (v := .ref (b 13)) S inA5 hK hP 0 rfl rfl 19 (by decide) fl_X5_50 rfl dX5_share_5 ?_
    refine z_iconst S dX5_share_8 ?_
    refine lv_iload_n S.1 S.2.1 dX5_share_9 rfl (lv_at hl 1 rfl) ?_
    refine z_imul S dX5_share_10 ?_
    refine lv_iload_n S.1 S.2.1 dX5_share_11 rfl (lv_at hl 2 rfl) ?_
    refine z_iadd S dX5_share_12 ?_
    refine z_iald S hK hP 13 rfl (by decide) (by omega) dX5_share_13 ?_
    have hb_4 := hI.r12 ((5 * q) + d)
    refine z_goto (tgt := 28) S dX5_share_14 (by decide) ?_
    refine lv_istore (lv' := [(4, .int (zI (c.2 12 ((5 * q) + d)))), (0, .ref (b 0)), (1, .int (zI q)), (2, .int (zI d)), (3, .int (zI f))]) S.1 S.2.1 dX5_share_28 hl (by decide) rfl (fun ls hl => ?_)
    refine lv_iload S.1 S.2.1 dX5_share_30 (lv_at hl 0 rfl) ?_
    refine z_if_gt (tgt := 39) S dX5_share_32 (by decide) (by omega) (fun h_5 => ?_) (fun h_5 => ?_)
    · refine lv_aload_n S.1 S.2.1 dX5_share_39 rfl (lv_at hl 1 rfl) ?_
      refine lv_iload_n S.1 S.2.1 dX5_share_40 rfl (lv_at hl 2 rfl) ?_
      refine z_iconst S dX5_share_41 ?_
      refine z_rV (As := [.int (zI q), .int (zI 1)]) (rest := []) S (m_X5_betOn l D g b c hI q 1 (by omega) (by omega)) ml_X5_121 im_X5_betOn se_X5_betOn ini_X5 cd_X5_betOn ds_X5_betOn ⟨Nat.le_of_ble_eq_true rfl, Nat.le_of_ble_eq_true rfl⟩ hK hP (va_recv hK.1 hP (ci := 5) (q0 := 0) rfl rfl) rfl hl.1 rfl (Nat.le_of_ble_eq_true rfl) ⟨Nat.zero_le _, Nat.zero_le _⟩ dX5_share_42 ?_
      refine lv_aload_n S.1 S.2.1 dX5_share_45 rfl (lv_at hl 1 rfl) ?_
      refine lv_iload_n S.1 S.2.1 dX5_share_46 rfl (lv_at hl 2 rfl) ?_
      refine z_iconst S dX5_share_47 ?_
      refine z_rV (As := [.int (zI q), .int (zI 0)]) (rest := [.int (zI (mBO c q 1 5))]) S (m_X5_betOn l D g b c hI q 0 (by omega) (by omega)) ml_X5_121 im_X5_betOn se_X5_betOn ini_X5 cd_X5_betOn ds_X5_betOn ⟨Nat.le_of_ble_eq_true rfl, Nat.le_of_ble_eq_true rfl⟩ hK hP (va_recv hK.1 hP (ci := 5) (q0 := 0) rfl rfl) rfl hl.1 rfl (Nat.le_of_ble_eq_true rfl) ⟨Nat.zero_le _, Nat.zero_le _⟩ dX5_share_48 ?_
      refine z_iadd S dX5_share_51 ?_
      refine lv_iload S.1 S.2.1 dX5_share_52 (lv_at hl 0 rfl) ?_
      refine z_imul S dX5_share_54 ?_
      refine lv_aload_n S.1 S.2.1 dX5_share_55 rfl (lv_at hl 1 rfl) ?_
      refine lv_iload_n S.1 S.2.1 dX5_share_56 rfl (lv_at hl 2 rfl) ?_
      refine lv_iload_n S.1 S.2.1 dX5_share_57 rfl (lv_at hl 4 rfl) ?_
      refine z_rV (As := [.int (zI q), .int (zI f)]) (rest := [.int (zI (((mBO c q 1 5) + (mBO c q 0 5)) * (c.2 12 ((5 * q) + d))))]) S (m_X5_betOn l D g b c hI q f (by omega) (by omega)) ml_X5_121 im_X5_betOn se_X5_betOn ini_X5 cd_X5_betOn ds_X5_betOn ⟨Nat.le_of_ble_eq_true rfl, Nat.le_of_ble_eq_true rfl⟩ hK hP (va_recv hK.1 hP (ci := 5) (q0 := 0) rfl rfl) rfl hl.1 rfl (Nat.le_of_ble_eq_true rfl) ⟨Nat.zero_le _, Nat.zero_le _⟩ dX5_share_58 ?_
      refine z_idivn S (by first | (have hz := hA (c.2 12 (5 * q + d)) (by omega) (by omega); omega) | (have hz := hA (-(c.2 12 (5 * q + d))) (by omega) (by omega); omega)) dX5_share_61 ?_
      exact z_ret S hr hlk (by grind [mSh, mOwn]) dX5_share_62
    · refine z_iconst S dX5_share_35 ?_
      refine z_goto (tgt := 62) S dX5_share_36 (by decide) ?_
      exact z_ret S hr hlk (by grind [mSh, mOwn]) dX5_share_62
set_option maxHeartbeats 4000000 in
set_option maxRecDepth 100000 in
theorem m_X5_spotTold (l : Launch) (D : va_G) (g : ClassId × ClassId × ClassId) (b : Nat → Nat) {B : Int} (c : CS) (hI : IM B c) (sp : Int) (what : Int) (h0 : 0 ≤ sp ∧ sp < 400) (h1 : 0 ≤ what ∧ what ≤ 5) : RD l yX5_spotTold cX5_spotTold 3 (some .int) 3 65 D g (MW g b c) [.ref (b 0), .int (zI sp), .int (zI what)] (mSpT c sp what) := by
  refine z_enter RX5 (by decide) rfl (Nat.le_of_ble_eq_true rfl) ?_
  intro p e s m args below meth co S hr hlk hK hP ls hl
  have hl : lv_has ls 3 [(0, .ref (b 0)), (1, .int (zI sp)), (2, .int (zI what))] := hl
  have hs := hI.s
  refine lv_iload_n S.1 S.2.1 dX5_spotTold_0 rfl (lv_at hl 2 rfl) ?_
  rcases (show what = 0 ∨ what = 1 ∨ what = 2 ∨ what = 3 ∨ what = 4 ∨ (what < 0 ∨ 4 < what) by omega) with h_1 | h_1 | h_1 | h_1 | h_1 | h_1
  · refine z_tabIn (off := 35) (tgt := 36) S 0 h_1 (by decide) dX5_spotTold_1 (by decide) (by decide) rfl (by decide) ?_
    refine lv_aload_n S.1 S.2.1 dX5_spotTold_36 rfl (lv_at hl 0 rfl) ?_
    refine lv_iload_n S.1 S.2.1 dX5_spotTold_37 rfl (lv_at hl 1 rfl) ?_
    refine z_rV (As := [.int (zI sp)]) (rest := []) S (m_X5_water l D g b c hI sp (by omega)) ml_X5_142 im_X5_water se_X5_water ini_X5 cd_X5_water ds_X5_water ⟨Nat.le_of_ble_eq_true rfl, Nat.le_of_ble_eq_true rfl⟩ hK hP (va_recv hK.1 hP (ci := 5) (q0 := 0) rfl rfl) rfl hl.1 rfl (Nat.le_of_ble_eq_true rfl) ⟨Nat.zero_le _, Nat.zero_le _⟩ dX5_spotTold_38 ?_
    exact z_ret S hr hlk (by grind [mSpT]) dX5_spotTold_41
  · refine z_tabIn (off := 41) (tgt := 42) S 1 h_1 (by decide) dX5_spotTold_1 (by decide) (by decide) rfl (by decide) ?_
    refine lv_aload_n S.1 S.2.1 dX5_spotTold_42 rfl (lv_at hl 0 rfl) ?_
    refine lv_iload_n S.1 S.2.1 dX5_spotTold_43 rfl (lv_at hl 1 rfl) ?_
    refine z_rV (As := [.int (zI sp)]) (rest := []) S (m_X5_depth l D g b c hI sp (by omega)) ml_X5_112 im_X5_depth se_X5_depth ini_X5 cd_X5_depth ds_X5_depth ⟨Nat.le_of_ble_eq_true rfl, Nat.le_of_ble_eq_true rfl⟩ hK hP (va_recv hK.1 hP (ci := 5) (q0 := 0) rfl rfl) rfl hl.1 rfl (Nat.le_of_ble_eq_true rfl) ⟨Nat.zero_le _, Nat.zero_le _⟩ dX5_spotTold_44 ?_
    exact z_ret S hr hlk (by grind [mSpT]) dX5_spotTold_47
  · refine z_tabIn (off := 47) (tgt := 48) S 2 h_1 (by decide) dX5_spotTold_1 (by decide) (by decide) rfl (by decide) ?_
    refine lv_aload_n S.1 S.2.1 dX5_spotTold_48 rfl (lv_at hl 0 rfl) ?_
    refine z_get (v := .ref (b 9)) S inA5 hK hP 0 rfl rfl 14 (by decide) fl_X5_38 rfl dX5_spotTold_49 ?_
    refine lv_iload_n S.1 S.2.1 dX5_spotTold_52 rfl (lv_at hl 1 rfl) ?_
    refine z_iald S hK hP 9 rfl (by decide) (by omega) dX5_spotTold_53 ?_
    have hb_2 := hI.r8 sp
    refine z_iconst S dX5_spotTold_54 ?_
    refine z_isub S dX5_spotTold_55 ?_
    exact z_ret S hr hlk (by grind [mSpT]) dX5_spotTold_56
  · refine z_tabIn (off := 56) (tgt := 57) S 3 h_1 (by decide) dX5_spotTold_1 (by decide) (by decide) rfl (by decide) ?_
    refine lv_aload_n S.1 S.2.1 dX5_spotTold_57 rfl (lv_at hl 0 rfl) ?_
    refine lv_iload_n S.1 S.2.1 dX5_spotTold_58 rfl (lv_at hl 1 rfl) ?_
    refine z_rV (As := [.int (zI sp)]) (rest := []) S (m_X5_pitAt l D g b c hI sp (by omega)) ml_X5_109 im_X5_pitAt se_X5_pitAt ini_X5 cd_X5_pitAt ds_X5_pitAt ⟨Nat.le_of_ble_eq_true rfl, Nat.le_of_ble_eq_true rfl⟩ hK hP (va_recv hK.1 hP (ci := 5) (q0 := 0) rfl rfl) rfl hl.1 rfl (Nat.le_of_ble_eq_true rfl) ⟨Nat.zero_le _, Nat.zero_le _⟩ dX5_spotTold_59 ?_
    exact z_ret S hr hlk (by grind [mSpT]) dX5_spotTold_62
  · refine z_tabIn (off := 62) (tgt := 63) S 4 h_1 (by decide) dX5_spotTold_1 (by decide) (by decide) rfl (by decide) ?_
    refine lv_aload_n S.1 S.2.1 dX5_spotTold_63 rfl (lv_at hl 0 rfl) ?_
    refine lv_iload_n S.1 S.2.1 dX5_spotTold_64 rfl (lv_at hl 1 rfl) ?_
    refine z_rV (As := [.int (zI sp)]) (rest := []) S (m_X5_pegsNear l D g b c hI sp (by omega)) ml_X5_145 im_X5_pegsNear se_X5_pegsNear ini_X5 cd_X5_pegsNear ds_X5_pegsNear ⟨Nat.le_of_ble_eq_true rfl, Nat.le_of_ble_eq_true rfl⟩ hK hP (va_recv hK.1 hP (ci := 5) (q0 := 0) rfl rfl) rfl hl.1 rfl (Nat.le_of_ble_eq_true rfl) ⟨Nat.zero_le _, Nat.zero_le _⟩ dX5_spotTold_65 ?_
    exact z_ret S hr hlk (by grind [mSpT]) dX5_spotTold_68
  · refine z_tabOut (tgt := 69) S (by omega) dX5_spotTold_1 h_1 (by decide) ?_
    refine lv_aload_n S.1 S.2.1 dX5_spotTold_69 rfl (lv_at hl 0 rfl) ?_
    refine lv_iload_n S.1 S.2.1 dX5_spotTold_70 rfl (lv_at hl 1 rfl) ?_
    refine z_rV (As := [.int (zI sp)]) (rest := []) S (m_X5_nearest l D g b c hI sp (by omega)) ml_X5_148 im_X5_nearest se_X5_nearest ini_X5 cd_X5_nearest ds_X5_nearest ⟨Nat.le_of_ble_eq_true rfl, Nat.le_of_ble_eq_true rfl⟩ hK hP (va_recv hK.1 hP (ci := 5) (q0 := 0) rfl rfl) rfl hl.1 rfl (Nat.le_of_ble_eq_true rfl) ⟨Nat.zero_le _, Nat.zero_le _⟩ dX5_spotTold_71 ?_
    exact z_ret S hr hlk (by grind [mSpT]) dX5_spotTold_74
set_option maxHeartbeats 4000000 in
set_option maxRecDepth 100000 in
theorem m_X5_pegsOf (l : Launch) (D : va_G) (g : ClassId × ClassId × ClassId) (b : Nat → Nat) {B : Int} (c : CS) (hI : IM B c) (d : Int) (t : Int) (h0 : I32 d ∧ -1 ≤ d ∧ d ≤ 4) (h1 : 0 ≤ t ∧ t ≤ 1) : RD l yX5_pegsOf cX5_pegsOf 5 (some .int) 1 23 D g (MW g b c) [.ref (b 0), .int (zI d), .int (zI t)] (mPgO c d t) := by
  refine z_enter RX5 (by decide) rfl (Nat.le_of_ble_eq_true rfl) ?_
  intro p e s m args below meth co S hr hlk hK hP ls hl
  have hl : lv_has ls 5 [(0, .ref (b 0)), (1, .int (zI d)), (2, .int (zI t))] := hl
  have hs := hI.s
  refine z_iconst S dX5_pegsOf_0 ?_
  refine lv_istore_n (lv' := [(3, .int (zI 0)), (0, .ref (b 0)), (1, .int (zI d)), (2, .int (zI t))]) S.1 S.2.1 dX5_pegsOf_1 rfl hl (by decide) rfl (fun ls hl => ?_)
  refine z_iconst S dX5_pegsOf_2 ?_
  refine lv_istore (lv' := [(4, .int (zI 0)), (3, .int (zI 0)), (0, .ref (b 0)), (1, .int (zI d)), (2, .int (zI t))]) S.1 S.2.1 dX5_pegsOf_3 hl (by decide) rfl (fun ls hl => ?_)
  refine z_for (nL := 5) (400) (fun (k5 : Nat) => [(4, .int (zI (k5 : Int))), (3, .int (zI (sm (fun k => b01 (¬ (c.2 8 k = 0 ∨ (d ≠ -1 ∧ c.2 8 k ≠ d + 1)) ∧ (t = 0 ∨ 0 < mWat c k (c.1 3).toNat))) k5))), (0, .ref (b 0)), (1, .int (zI d)), (2, .int (zI t))]) (fun k5 => True) (fun k5 hk5 hJ5 ls hl ih5 => ?_) (fun hJ5 ls hl => ?_) 0 (by omega) trivial ls (lv_sub hl [0, 1, 2, 3, 4] rfl)
  · have hl : lv_has ls 5 [(4, .int (zI (k5 : Int))), (3, .int (zI (sm (fun k => b01 (¬ (c.2 8 k = 0 ∨ (d ≠ -1 ∧ c.2 8 k ≠ d + 1)) ∧ (t = 0 ∨ 0 < mWat c k (c.1 3).toNat))) k5))), (0, .ref (b 0)), (1, .int (zI d)), (2, .int (zI t))] := hl
    have hb0 := mWat_b hI (k5 : Int) (n := (c.1 3).toNat) (by omega)
    refine lv_iload S.1 S.2.1 dX5_pegsOf_5 (lv_at hl 0 rfl) ?_
    refine z_sipush S (by decide) dX5_pegsOf_7 ?_
    refine z_icmp_ge (tgt := 71) S dX5_pegsOf_10 (by decide) (by omega) (fun h_1 => ?_) (fun h_1 => ?_)
    · exact absurd h_1 (by omega)
    · refine lv_aload_n S.1 S.2.1 dX5_pegsOf_13 rfl (lv_at hl 2 rfl) ?_
      refine z_get (v := .ref (b 9)) S inA5 hK hP 0 rfl rfl 14 (by decide) fl_X5_38 rfl dX5_pegsOf_14 ?_
      refine lv_iload S.1 S.2.1 dX5_pegsOf_17 (lv_at hl 0 rfl) ?_
      refine z_iald S hK hP 9 rfl (by decide) (by omega) dX5_pegsOf_19 ?_
      have hb_2 := hI.r8 (k5 : Int)
      refine z_if_eq (tgt := 65) S dX5_pegsOf_20 (by decide) (by omega) (fun h_3 => ?_) (fun h_3 => ?_)
      · refine z_iinc (lv' := [(4, .int (zI ((k5 : Int) + 1))), (3, .int (zI (sm (fun k => b01 (¬ (c.2 8 k = 0 ∨ (d ≠ -1 ∧ c.2 8 k ≠ d + 1)) ∧ (t = 0 ∨ 0 < mWat c k (c.1 3).toNat))) k5))), (0, .ref (b 0)), (1, .int (zI d)), (2, .int (zI t))]) S dX5_pegsOf_65 hl (k := 0) rfl (by decide) rfl (fun ls hl => ?_)
        refine z_goto (tgt := 5) S dX5_pegsOf_68 (by decide) ?_
        have e_4 : sm (fun k => b01 (¬ (c.2 8 k = 0 ∨ (d ≠ -1 ∧ c.2 8 k ≠ d + 1)) ∧ (t = 0 ∨ 0 < mWat c k (c.1 3).toNat))) (k5 + 1) = sm (fun k => b01 (¬ (c.2 8 k = 0 ∨ (d ≠ -1 ∧ c.2 8 k ≠ d + 1)) ∧ (t = 0 ∨ 0 < mWat c k (c.1 3).toNat))) k5 := by grind [sm, b01]
        exact ih5 _ (lv_sub hl [0, 1, 2, 3, 4] (by show _ = ([(4, .int (zI ((k5 + 1 : Nat) : Int))), (3, .int (zI (sm (fun k => b01 (¬ (c.2 8 k = 0 ∨ (d ≠ -1 ∧ c.2 8 k ≠ d + 1)) ∧ (t = 0 ∨ 0 < mWat c k (c.1 3).toNat))) (k5 + 1)))), (0, .ref (b 0)), (1, .int (zI d)), (2, .int (zI t))] : List (Nat × Value)); rw [e_4]; first | done | rfl)) trivial
      · refine lv_iload_n S.1 S.2.1 dX5_pegsOf_23 rfl (lv_at hl 3 rfl) ?_
        refine z_iconst S dX5_pegsOf_24 ?_
        refine z_icmp_eq (tgt := 44) S dX5_pegsOf_25 (by decide) (by omega) (fun h_5 => ?_) (fun h_5 => ?_)
        · refine lv_iload_n S.1 S.2.1 dX5_pegsOf_44 rfl (lv_at hl 1 rfl) ?_
          refine lv_iload_n S.1 S.2.1 dX5_pegsOf_45 rfl (lv_at hl 4 rfl) ?_
          refine z_if_eq (tgt := 58) S dX5_pegsOf_46 (by decide) (by omega) (fun h_6 => ?_) (fun h_6 => ?_)
          · refine z_iconst S dX5_pegsOf_58 ?_
            refine z_goto (tgt := 63) S dX5_pegsOf_59 (by decide) ?_
            refine z_iadd S dX5_pegsOf_63 ?_
            refine lv_istore_n (lv' := [(3, .int (zI ((sm (fun k => b01 (¬ (c.2 8 k = 0 ∨ (d ≠ -1 ∧ c.2 8 k ≠ d + 1)) ∧ (t = 0 ∨ 0 < mWat c k (c.1 3).toNat))) k5) + 1))), (4, .int (zI (k5 : Int))), (0, .ref (b 0)), (1, .int (zI d)), (2, .int (zI t))]) S.1 S.2.1 dX5_pegsOf_64 rfl hl (by decide) rfl (fun ls hl => ?_)
            refine z_iinc (lv' := [(4, .int (zI ((k5 : Int) + 1))), (3, .int (zI ((sm (fun k => b01 (¬ (c.2 8 k = 0 ∨ (d ≠ -1 ∧ c.2 8 k ≠ d + 1)) ∧ (t = 0 ∨ 0 < mWat c k (c.1 3).toNat))) k5) + 1))), (0, .ref (b 0)), (1, .int (zI d)), (2, .int (zI t))]) S dX5_pegsOf_65 hl (k := 1) rfl (by decide) rfl (fun ls hl => ?_)
            refine z_goto (tgt := 5) S dX5_pegsOf_68 (by decide) ?_
            have e_7 : sm (fun k => b01 (¬ (c.2 8 k = 0 ∨ (d ≠ -1 ∧ c.2 8 k ≠ d + 1)) ∧ (t = 0 ∨ 0 < mWat c k (c.1 3).toNat))) (k5 + 1) = (sm (fun k => b01 (¬ (c.2 8 k = 0 ∨ (d ≠ -1 ∧ c.2 8 k ≠ d + 1)) ∧ (t = 0 ∨ 0 < mWat c k (c.1 3).toNat))) k5) + 1 := by grind [sm, b01]
            exact ih5 _ (lv_sub hl [0, 1, 2, 3, 4] (by show _ = ([(4, .int (zI ((k5 + 1 : Nat) : Int))), (3, .int (zI (sm (fun k => b01 (¬ (c.2 8 k = 0 ∨ (d ≠ -1 ∧ c.2 8 k ≠ d + 1)) ∧ (t = 0 ∨ 0 < mWat c k (c.1 3).toNat))) (k5 + 1)))), (0, .ref (b 0)), (1, .int (zI d)), (2, .int (zI t))] : List (Nat × Value)); rw [e_7]; first | done | rfl)) trivial
          · refine lv_aload_n S.1 S.2.1 dX5_pegsOf_49 rfl (lv_at hl 2 rfl) ?_
            refine lv_iload S.1 S.2.1 dX5_pegsOf_50 (lv_at hl 0 rfl) ?_
            refine z_rV (As := [.int (zI (k5 : Int))]) (rest := [.int (zI (sm (fun k => b01 (¬ (c.2 8 k = 0 ∨ (d ≠ -1 ∧ c.2 8 k ≠ d + 1)) ∧ (t = 0 ∨ 0 < mWat c k (c.1 3).toNat))) k5))]) S (m_X5_water l D g b c hI (k5 : Int) (by omega)) ml_X5_142 im_X5_water se_X5_water ini_X5 cd_X5_water ds_X5_water ⟨Nat.le_of_ble_eq_true rfl, Nat.le_of_ble_eq_true rfl⟩ hK hP (va_recv hK.1 hP (ci := 5) (q0 := 0) rfl rfl) rfl hl.1 rfl (Nat.le_of_ble_eq_true rfl) ⟨Nat.zero_le _, Nat.zero_le _⟩ dX5_pegsOf_52 ?_
            refine z_if_le (tgt := 62) S dX5_pegsOf_55 (by decide) (by omega) (fun h_8 => ?_) (fun h_8 => ?_)
            · refine z_iconst S dX5_pegsOf_62 ?_
              refine z_iadd S dX5_pegsOf_63 ?_
              refine lv_istore_n (lv' := [(3, .int (zI ((sm (fun k => b01 (¬ (c.2 8 k = 0 ∨ (d ≠ -1 ∧ c.2 8 k ≠ d + 1)) ∧ (t = 0 ∨ 0 < mWat c k (c.1 3).toNat))) k5) + 0))), (4, .int (zI (k5 : Int))), (0, .ref (b 0)), (1, .int (zI d)), (2, .int (zI t))]) S.1 S.2.1 dX5_pegsOf_64 rfl hl (by decide) rfl (fun ls hl => ?_)
              refine z_iinc (lv' := [(4, .int (zI ((k5 : Int) + 1))), (3, .int (zI ((sm (fun k => b01 (¬ (c.2 8 k = 0 ∨ (d ≠ -1 ∧ c.2 8 k ≠ d + 1)) ∧ (t = 0 ∨ 0 < mWat c k (c.1 3).toNat))) k5) + 0))), (0, .ref (b 0)), (1, .int (zI d)), (2, .int (zI t))]) S dX5_pegsOf_65 hl (k := 1) rfl (by decide) rfl (fun ls hl => ?_)
              refine z_goto (tgt := 5) S dX5_pegsOf_68 (by decide) ?_
              have e_9 : sm (fun k => b01 (¬ (c.2 8 k = 0 ∨ (d ≠ -1 ∧ c.2 8 k ≠ d + 1)) ∧ (t = 0 ∨ 0 < mWat c k (c.1 3).toNat))) (k5 + 1) = (sm (fun k => b01 (¬ (c.2 8 k = 0 ∨ (d ≠ -1 ∧ c.2 8 k ≠ d + 1)) ∧ (t = 0 ∨ 0 < mWat c k (c.1 3).toNat))) k5) + 0 := by grind [sm, b01]
              exact ih5 _ (lv_sub hl [0, 1, 2, 3, 4] (by show _ = ([(4, .int (zI ((k5 + 1 : Nat) : Int))), (3, .int (zI (sm (fun k => b01 (¬ (c.2 8 k = 0 ∨ (d ≠ -1 ∧ c.2 8 k ≠ d + 1)) ∧ (t = 0 ∨ 0 < mWat c k (c.1 3).toNat))) (k5 + 1)))), (0, .ref (b 0)), (1, .int (zI d)), (2, .int (zI t))] : List (Nat × Value)); rw [e_9]; first | done | rfl)) trivial
            · refine z_iconst S dX5_pegsOf_58 ?_
              refine z_goto (tgt := 63) S dX5_pegsOf_59 (by decide) ?_
              refine z_iadd S dX5_pegsOf_63 ?_
              refine lv_istore_n (lv' := [(3, .int (zI ((sm (fun k => b01 (¬ (c.2 8 k = 0 ∨ (d ≠ -1 ∧ c.2 8 k ≠ d + 1)) ∧ (t = 0 ∨ 0 < mWat c k (c.1 3).toNat))) k5) + 1))), (4, .int (zI (k5 : Int))), (0, .ref (b 0)), (1, .int (zI d)), (2, .int (zI t))]) S.1 S.2.1 dX5_pegsOf_64 rfl hl (by decide) rfl (fun ls hl => ?_)
              refine z_iinc (lv' := [(4, .int (zI ((k5 : Int) + 1))), (3, .int (zI ((sm (fun k => b01 (¬ (c.2 8 k = 0 ∨ (d ≠ -1 ∧ c.2 8 k ≠ d + 1)) ∧ (t = 0 ∨ 0 < mWat c k (c.1 3).toNat))) k5) + 1))), (0, .ref (b 0)), (1, .int (zI d)), (2, .int (zI t))]) S dX5_pegsOf_65 hl (k := 1) rfl (by decide) rfl (fun ls hl => ?_)
              refine z_goto (tgt := 5) S dX5_pegsOf_68 (by decide) ?_
              have e_10 : sm (fun k => b01 (¬ (c.2 8 k = 0 ∨ (d ≠ -1 ∧ c.2 8 k ≠ d + 1)) ∧ (t = 0 ∨ 0 < mWat c k (c.1 3).toNat))) (k5 + 1) = (sm (fun k => b01 (¬ (c.2 8 k = 0 ∨ (d ≠ -1 ∧ c.2 8 k ≠ d + 1)) ∧ (t = 0 ∨ 0 < mWat c k (c.1 3).toNat))) k5) + 1 := by grind [sm, b01]
              exact ih5 _ (lv_sub hl [0, 1, 2, 3, 4] (by show _ = ([(4, .int (zI ((k5 + 1 : Nat) : Int))), (3, .int (zI (sm (fun k => b01 (¬ (c.2 8 k = 0 ∨ (d ≠ -1 ∧ c.2 8 k ≠ d + 1)) ∧ (t = 0 ∨ 0 < mWat c k (c.1 3).toNat))) (k5 + 1)))), (0, .ref (b 0)), (1, .int (zI d)), (2, .int (zI t))] : List (Nat × Value)); rw [e_10]; first | done | rfl)) trivial
        · refine lv_aload_n S.1 S.2.1 dX5_pegsOf_28 rfl (lv_at hl 2 rfl) ?_
          refine z_get (v := .ref (b 9)) S inA5 hK hP 0 rfl rfl 14 (by decide) fl_X5_38 rfl dX5_pegsOf_29 ?_
          refine lv_iload S.1 S.2.1 dX5_pegsOf_32 (lv_at hl 0 rfl) ?_
          refine z_iald S hK hP 9 rfl (by decide) (by omega) dX5_pegsOf_34 ?_
          have hb_11 := hI.r8 (k5 : Int)
          refine lv_iload_n S.1 S.2.1 dX5_pegsOf_35 rfl (lv_at hl 3 rfl) ?_
          refine z_iconst S dX5_pegsOf_36 ?_
          refine z_iadd S dX5_pegsOf_37 ?_
          refine z_icmp_eq (tgt := 44) S dX5_pegsOf_38 (by decide) (by omega) (fun h_12 => ?_) (fun h_12 => ?_)
          · refine lv_iload_n S.1 S.2.1 dX5_pegsOf_44 rfl (lv_at hl 1 rfl) ?_
            refine lv_iload_n S.1 S.2.1 dX5_pegsOf_45 rfl (lv_at hl 4 rfl) ?_
            refine z_if_eq (tgt := 58) S dX5_pegsOf_46 (by decide) (by omega) (fun h_13 => ?_) (fun h_13 => ?_)
            · refine z_iconst S dX5_pegsOf_58 ?_
              refine z_goto (tgt := 63) S dX5_pegsOf_59 (by decide) ?_
              refine z_iadd S dX5_pegsOf_63 ?_
              refine lv_istore_n (lv' := [(3, .int (zI ((sm (fun k => b01 (¬ (c.2 8 k = 0 ∨ (d ≠ -1 ∧ c.2 8 k ≠ d + 1)) ∧ (t = 0 ∨ 0 < mWat c k (c.1 3).toNat))) k5) + 1))), (4, .int (zI (k5 : Int))), (0, .ref (b 0)), (1, .int (zI d)), (2, .int (zI t))]) S.1 S.2.1 dX5_pegsOf_64 rfl hl (by decide) rfl (fun ls hl => ?_)
              refine z_iinc (lv' := [(4, .int (zI ((k5 : Int) + 1))), (3, .int (zI ((sm (fun k => b01 (¬ (c.2 8 k = 0 ∨ (d ≠ -1 ∧ c.2 8 k ≠ d + 1)) ∧ (t = 0 ∨ 0 < mWat c k (c.1 3).toNat))) k5) + 1))), (0, .ref (b 0)), (1, .int (zI d)), (2, .int (zI t))]) S dX5_pegsOf_65 hl (k := 1) rfl (by decide) rfl (fun ls hl => ?_)
              refine z_goto (tgt := 5) S dX5_pegsOf_68 (by decide) ?_
              have e_14 : sm (fun k => b01 (¬ (c.2 8 k = 0 ∨ (d ≠ -1 ∧ c.2 8 k ≠ d + 1)) ∧ (t = 0 ∨ 0 < mWat c k (c.1 3).toNat))) (k5 + 1) = (sm (fun k => b01 (¬ (c.2 8 k = 0 ∨ (d ≠ -1 ∧ c.2 8 k ≠ d + 1)) ∧ (t = 0 ∨ 0 < mWat c k (c.1 3).toNat))) k5) + 1 := by grind [sm, b01]
              exact ih5 _ (lv_sub hl [0, 1, 2, 3, 4] (by show _ = ([(4, .int (zI ((k5 + 1 : Nat) : Int))), (3, .int (zI (sm (fun k => b01 (¬ (c.2 8 k = 0 ∨ (d ≠ -1 ∧ c.2 8 k ≠ d + 1)) ∧ (t = 0 ∨ 0 < mWat c k (c.1 3).toNat))) (k5 + 1)))), (0, .ref (b 0)), (1, .int (zI d)), (2, .int (zI t))] : List (Nat × Value)); rw [e_14]; first | done | rfl)) trivial
            · refine lv_aload_n S.1 S.2.1 dX5_pegsOf_49 rfl (lv_at hl 2 rfl) ?_
              refine lv_iload S.1 S.2.1 dX5_pegsOf_50 (lv_at hl 0 rfl) ?_
              refine z_rV (As := [.int (zI (k5 : Int))]) (rest := [.int (zI (sm (fun k => b01 (¬ (c.2 8 k = 0 ∨ (d ≠ -1 ∧ c.2 8 k ≠ d + 1)) ∧ (t = 0 ∨ 0 < mWat c k (c.1 3).toNat))) k5))]) S (m_X5_water l D g b c hI (k5 : Int) (by omega)) ml_X5_142 im_X5_water se_X5_water ini_X5 cd_X5_water ds_X5_water ⟨Nat.le_of_ble_eq_true rfl, Nat.le_of_ble_eq_true rfl⟩ hK hP (va_recv hK.1 hP (ci := 5) (q0 := 0) rfl rfl) rfl hl.1 rfl (Nat.le_of_ble_eq_true rfl) ⟨Nat.zero_le _, Nat.zero_le _⟩ dX5_pegsOf_52 ?_
              refine z_if_le (tgt := 62) S dX5_pegsOf_55 (by decide) (by omega) (fun h_15 => ?_) (fun h_15 => ?_)
              · refine z_iconst S dX5_pegsOf_62 ?_
                refine z_iadd S dX5_pegsOf_63 ?_
                refine lv_istore_n (lv' := [(3, .int (zI ((sm (fun k => b01 (¬ (c.2 8 k = 0 ∨ (d ≠ -1 ∧ c.2 8 k ≠ d + 1)) ∧ (t = 0 ∨ 0 < mWat c k (c.1 3).toNat))) k5) + 0))), (4, .int (zI (k5 : Int))), (0, .ref (b 0)), (1, .int (zI d)), (2, .int (zI t))]) S.1 S.2.1 dX5_pegsOf_64 rfl hl (by decide) rfl (fun ls hl => ?_)
                refine z_iinc (lv' := [(4, .int (zI ((k5 : Int) + 1))), (3, .int (zI ((sm (fun k => b01 (¬ (c.2 8 k = 0 ∨ (d ≠ -1 ∧ c.2 8 k ≠ d + 1)) ∧ (t = 0 ∨ 0 < mWat c k (c.1 3).toNat))) k5) + 0))), (0, .ref (b 0)), (1, .int (zI d)), (2, .int (zI t))]) S dX5_pegsOf_65 hl (k := 1) rfl (by decide) rfl (fun ls hl => ?_)
                refine z_goto (tgt := 5) S dX5_pegsOf_68 (by decide) ?_
                have e_16 : sm (fun k => b01 (¬ (c.2 8 k = 0 ∨ (d ≠ -1 ∧ c.2 8 k ≠ d + 1)) ∧ (t = 0 ∨ 0 < mWat c k (c.1 3).toNat))) (k5 + 1) = (sm (fun k => b01 (¬ (c.2 8 k = 0 ∨ (d ≠ -1 ∧ c.2 8 k ≠ d + 1)) ∧ (t = 0 ∨ 0 < mWat c k (c.1 3).toNat))) k5) + 0 := by grind [sm, b01]
                exact ih5 _ (lv_sub hl [0, 1, 2, 3, 4] (by show _ = ([(4, .int (zI ((k5 + 1 : Nat) : Int))), (3, .int (zI (sm (fun k => b01 (¬ (c.2 8 k = 0 ∨ (d ≠ -1 ∧ c.2 8 k ≠ d + 1)) ∧ (t = 0 ∨ 0 < mWat c k (c.1 3).toNat))) (k5 + 1)))), (0, .ref (b 0)), (1, .int (zI d)), (2, .int (zI t))] : List (Nat × Value)); rw [e_16]; first | done | rfl)) trivial
              · refine z_iconst S dX5_pegsOf_58 ?_
                refine z_goto (tgt := 63) S dX5_pegsOf_59 (by decide) ?_
                refine z_iadd S dX5_pegsOf_63 ?_
                refine lv_istore_n (lv' := [(3, .int (zI ((sm (fun k => b01 (¬ (c.2 8 k = 0 ∨ (d ≠ -1 ∧ c.2 8 k ≠ d + 1)) ∧ (t = 0 ∨ 0 < mWat c k (c.1 3).toNat))) k5) + 1))), (4, .int (zI (k5 : Int))), (0, .ref (b 0)), (1, .int (zI d)), (2, .int (zI t))]) S.1 S.2.1 dX5_pegsOf_64 rfl hl (by decide) rfl (fun ls hl => ?_)
                refine z_iinc (lv' := [(4, .int (zI ((k5 : Int) + 1))), (3, .int (zI ((sm (fun k => b01 (¬ (c.2 8 k = 0 ∨ (d ≠ -1 ∧ c.2 8 k ≠ d + 1)) ∧ (t = 0 ∨ 0 < mWat c k (c.1 3).toNat))) k5) + 1))), (0, .ref (b 0)), (1, .int (zI d)), (2, .int (zI t))]) S dX5_pegsOf_65 hl (k := 1) rfl (by decide) rfl (fun ls hl => ?_)
                refine z_goto (tgt := 5) S dX5_pegsOf_68 (by decide) ?_
                have e_17 : sm (fun k => b01 (¬ (c.2 8 k = 0 ∨ (d ≠ -1 ∧ c.2 8 k ≠ d + 1)) ∧ (t = 0 ∨ 0 < mWat c k (c.1 3).toNat))) (k5 + 1) = (sm (fun k => b01 (¬ (c.2 8 k = 0 ∨ (d ≠ -1 ∧ c.2 8 k ≠ d + 1)) ∧ (t = 0 ∨ 0 < mWat c k (c.1 3).toNat))) k5) + 1 := by grind [sm, b01]
                exact ih5 _ (lv_sub hl [0, 1, 2, 3, 4] (by show _ = ([(4, .int (zI ((k5 + 1 : Nat) : Int))), (3, .int (zI (sm (fun k => b01 (¬ (c.2 8 k = 0 ∨ (d ≠ -1 ∧ c.2 8 k ≠ d + 1)) ∧ (t = 0 ∨ 0 < mWat c k (c.1 3).toNat))) (k5 + 1)))), (0, .ref (b 0)), (1, .int (zI d)), (2, .int (zI t))] : List (Nat × Value)); rw [e_17]; first | done | rfl)) trivial
          · refine z_goto (tgt := 65) S dX5_pegsOf_41 (by decide) ?_
            refine z_iinc (lv' := [(4, .int (zI ((k5 : Int) + 1))), (3, .int (zI (sm (fun k => b01 (¬ (c.2 8 k = 0 ∨ (d ≠ -1 ∧ c.2 8 k ≠ d + 1)) ∧ (t = 0 ∨ 0 < mWat c k (c.1 3).toNat))) k5))), (0, .ref (b 0)), (1, .int (zI d)), (2, .int (zI t))]) S dX5_pegsOf_65 hl (k := 0) rfl (by decide) rfl (fun ls hl => ?_)
            refine z_goto (tgt := 5) S dX5_pegsOf_68 (by decide) ?_
            have e_18 : sm (fun k => b01 (¬ (c.2 8 k = 0 ∨ (d ≠ -1 ∧ c.2 8 k ≠ d + 1)) ∧ (t = 0 ∨ 0 < mWat c k (c.1 3).toNat))) (k5 + 1) = sm (fun k => b01 (¬ (c.2 8 k = 0 ∨ (d ≠ -1 ∧ c.2 8 k ≠ d + 1)) ∧ (t = 0 ∨ 0 < mWat c k (c.1 3).toNat))) k5 := by grind [sm, b01]
            exact ih5 _ (lv_sub hl [0, 1, 2, 3, 4] (by show _ = ([(4, .int (zI ((k5 + 1 : Nat) : Int))), (3, .int (zI (sm (fun k => b01 (¬ (c.2 8 k = 0 ∨ (d ≠ -1 ∧ c.2 8 k ≠ d + 1)) ∧ (t = 0 ∨ 0 < mWat c k (c.1 3).toNat))) (k5 + 1)))), (0, .ref (b 0)), (1, .int (zI d)), (2, .int (zI t))] : List (Nat × Value)); rw [e_18]; first | done | rfl)) trivial
  · have hl : lv_has ls 5 [(4, .int (zI ((400 : Nat) : Int))), (3, .int (zI (sm (fun k => b01 (¬ (c.2 8 k = 0 ∨ (d ≠ -1 ∧ c.2 8 k ≠ d + 1)) ∧ (t = 0 ∨ 0 < mWat c k (c.1 3).toNat))) 400))), (0, .ref (b 0)), (1, .int (zI d)), (2, .int (zI t))] := hl
    refine lv_iload S.1 S.2.1 dX5_pegsOf_5 (lv_at hl 0 rfl) ?_
    refine z_sipush S (by decide) dX5_pegsOf_7 ?_
    refine z_icmp_ge (tgt := 71) S dX5_pegsOf_10 (by decide) (by omega) (fun h_19 => ?_) (fun h_19 => ?_)
    · refine lv_iload_n S.1 S.2.1 dX5_pegsOf_71 rfl (lv_at hl 1 rfl) ?_
      exact z_ret S hr hlk (by first | rfl | grind) dX5_pegsOf_72
    · exact absurd h_19 (by omega)
set_option maxHeartbeats 4000000 in
set_option maxRecDepth 100000 in
theorem m_X5_inBets (l : Launch) (D : va_G) (g : ClassId × ClassId × ClassId) (b : Nat → Nat) {B : Int} (c : CS) (hI : IM B c) (d : Int) (h0 : 0 ≤ d ∧ d < 5) : RD l yX5_inBets cX5_inBets 4 (some .int) 2 42 D g (MW g b c) [.ref (b 0), .int (zI d)] (mInB c d) := by
  refine z_enter RX5 (by decide) rfl (Nat.le_of_ble_eq_true rfl) ?_
  intro p e s m args below meth co S hr hlk hK hP ls hl
  have hl : lv_has ls 4 [(0, .ref (b 0)), (1, .int (zI d))] := hl
  have hs := hI.s
  refine z_iconst S dX5_inBets_0 ?_
  refine lv_istore_n (lv' := [(2, .int (zI 0)), (0, .ref (b 0)), (1, .int (zI d))]) S.1 S.2.1 dX5_inBets_1 rfl hl (by decide) rfl (fun ls hl => ?_)
  refine z_iconst S dX5_inBets_2 ?_
  refine lv_istore_n (lv' := [(3, .int (zI 0)), (2, .int (zI 0)), (0, .ref (b 0)), (1, .int (zI d))]) S.1 S.2.1 dX5_inBets_3 rfl hl (by decide) rfl (fun ls hl => ?_)
  refine z_for (nL := 4) ((c.1 6).toNat) (fun (k4 : Nat) => [(3, .int (zI (k4 : Int))), (2, .int (zI (sm (fun k => if mO c k then 0 else ab (c.2 12 (5 * k + d))) k4))), (0, .ref (b 0)), (1, .int (zI d))]) (fun k4 => True) (fun k4 hk4 hJ4 ls hl ih4 => ?_) (fun hJ4 ls hl => ?_) 0 (by omega) trivial ls (lv_sub hl [0, 1, 2, 3] rfl)
  · have hl : lv_has ls 4 [(3, .int (zI (k4 : Int))), (2, .int (zI (sm (fun k => if mO c k then 0 else ab (c.2 12 (5 * k + d))) k4))), (0, .ref (b 0)), (1, .int (zI d))] := hl
    refine lv_iload_n S.1 S.2.1 dX5_inBets_4 rfl (lv_at hl 0 rfl) ?_
    refine lv_aload_n S.1 S.2.1 dX5_inBets_5 rfl (lv_at hl 2 rfl) ?_
    refine z_get (v := .int (zI (c.1 6))) S inA5 hK hP 0 rfl rfl 15 (by decide) fl_X5_63 rfl dX5_inBets_6 ?_
    refine z_icmp_ge (tgt := 46) S dX5_inBets_9 (by decide) (by omega) (fun h_1 => ?_) (fun h_1 => ?_)
    · exact absurd h_1 (by omega)
    · refine lv_iload_n S.1 S.2.1 dX5_inBets_12 rfl (lv_at hl 1 rfl) ?_
      refine lv_aload_n S.1 S.2.1 dX5_inBets_13 rfl (lv_at hl 2 rfl) ?_
      refine lv_iload_n S.1 S.2.1 dX5_inBets_14 rfl (lv_at hl 0 rfl) ?_
      refine z_rV (As := [.int (zI (k4 : Int))]) (rest := [.int (zI (sm (fun k => if mO c k then 0 else ab (c.2 12 (5 * k + d))) k4))]) S (m_X5_isOver l D g b c hI (k4 : Int) (by omega)) ml_X5_132 im_X5_isOver se_X5_isOver ini_X5 cd_X5_isOver ds_X5_isOver ⟨Nat.le_of_ble_eq_true rfl, Nat.le_of_ble_eq_true rfl⟩ hK hP (va_recv hK.1 hP (ci := 5) (q0 := 0) rfl rfl) rfl hl.1 rfl (Nat.le_of_ble_eq_true rfl) ⟨Nat.zero_le _, Nat.zero_le _⟩ dX5_inBets_15 ?_
      refine z_ifb_eq (tgt := 25) S dX5_inBets_18 (by decide) (fun h_2 => ?_) (fun h_2 => ?_)
      · refine lv_aload_n S.1 S.2.1 dX5_inBets_25 rfl (lv_at hl 2 rfl) ?_
        refine z_get (v := .ref (b 13)) S inA5 hK hP 0 rfl rfl 19 (by decide) fl_X5_50 rfl dX5_inBets_26 ?_
        refine z_iconst S dX5_inBets_29 ?_
        refine lv_iload_n S.1 S.2.1 dX5_inBets_30 rfl (lv_at hl 0 rfl) ?_
        refine z_imul S dX5_inBets_31 ?_
        refine lv_iload_n S.1 S.2.1 dX5_inBets_32 rfl (lv_at hl 3 rfl) ?_
        refine z_iadd S dX5_inBets_33 ?_
        refine z_iald S hK hP 13 rfl (by decide) (by omega) dX5_inBets_34 ?_
        have hb_3 := hI.r12 ((5 * (k4 : Int)) + d)
        refine z_abs S ml_X5_66 hl.1 (Nat.le_of_ble_eq_true rfl) (Nat.le_of_ble_eq_true rfl) ⟨Nat.zero_le _, Nat.zero_le _⟩ (by omega) dX5_inBets_35 ?_
        refine z_iadd S dX5_inBets_38 ?_
        refine lv_istore_n (lv' := [(2, .int (zI ((sm (fun k => if mO c k then 0 else ab (c.2 12 (5 * k + d))) k4) + (ab (c.2 12 ((5 * (k4 : Int)) + d)))))), (3, .int (zI (k4 : Int))), (0, .ref (b 0)), (1, .int (zI d))]) S.1 S.2.1 dX5_inBets_39 rfl hl (by decide) rfl (fun ls hl => ?_)
        refine z_iinc (lv' := [(3, .int (zI ((k4 : Int) + 1))), (2, .int (zI ((sm (fun k => if mO c k then 0 else ab (c.2 12 (5 * k + d))) k4) + (ab (c.2 12 ((5 * (k4 : Int)) + d)))))), (0, .ref (b 0)), (1, .int (zI d))]) S dX5_inBets_40 hl (k := 1) rfl (by decide) rfl (fun ls hl => ?_)
        refine z_goto (tgt := 4) S dX5_inBets_43 (by decide) ?_
        have e_4 : sm (fun k => if mO c k then 0 else ab (c.2 12 (5 * k + d))) (k4 + 1) = (sm (fun k => if mO c k then 0 else ab (c.2 12 (5 * k + d))) k4) + (ab (c.2 12 ((5 * (k4 : Int)) + d))) := by grind [sm, b01]
        exact ih4 _ (lv_sub hl [0, 1, 2, 3] (by show _ = ([(3, .int (zI ((k4 + 1 : Nat) : Int))), (2, .int (zI (sm (fun k => if mO c k then 0 else ab (c.2 12 (5 * k + d))) (k4 + 1)))), (0, .ref (b 0)), (1, .int (zI d))] : List (Nat × Value)); rw [e_4]; first | done | rfl)) trivial
      · refine z_iconst S dX5_inBets_21 ?_
        refine z_goto (tgt := 38) S dX5_inBets_22 (by decide) ?_
        refine z_iadd S dX5_inBets_38 ?_
        refine lv_istore_n (lv' := [(2, .int (zI ((sm (fun k => if mO c k then 0 else ab (c.2 12 (5 * k + d))) k4) + 0))), (3, .int (zI (k4 : Int))), (0, .ref (b 0)), (1, .int (zI d))]) S.1 S.2.1 dX5_inBets_39 rfl hl (by decide) rfl (fun ls hl => ?_)
        refine z_iinc (lv' := [(3, .int (zI ((k4 : Int) + 1))), (2, .int (zI ((sm (fun k => if mO c k then 0 else ab (c.2 12 (5 * k + d))) k4) + 0))), (0, .ref (b 0)), (1, .int (zI d))]) S dX5_inBets_40 hl (k := 1) rfl (by decide) rfl (fun ls hl => ?_)
        refine z_goto (tgt := 4) S dX5_inBets_43 (by decide) ?_
        have e_5 : sm (fun k => if mO c k then 0 else ab (c.2 12 (5 * k + d))) (k4 + 1) = (sm (fun k => if mO c k then 0 else ab (c.2 12 (5 * k + d))) k4) + 0 := by grind [sm, b01]
        exact ih4 _ (lv_sub hl [0, 1, 2, 3] (by show _ = ([(3, .int (zI ((k4 + 1 : Nat) : Int))), (2, .int (zI (sm (fun k => if mO c k then 0 else ab (c.2 12 (5 * k + d))) (k4 + 1)))), (0, .ref (b 0)), (1, .int (zI d))] : List (Nat × Value)); rw [e_5]; first | done | rfl)) trivial
  · have hl : lv_has ls 4 [(3, .int (zI (((c.1 6).toNat : Nat) : Int))), (2, .int (zI (sm (fun k => if mO c k then 0 else ab (c.2 12 (5 * k + d))) ((c.1 6).toNat)))), (0, .ref (b 0)), (1, .int (zI d))] := hl
    refine lv_iload_n S.1 S.2.1 dX5_inBets_4 rfl (lv_at hl 0 rfl) ?_
    refine lv_aload_n S.1 S.2.1 dX5_inBets_5 rfl (lv_at hl 2 rfl) ?_
    refine z_get (v := .int (zI (c.1 6))) S inA5 hK hP 0 rfl rfl 15 (by decide) fl_X5_63 rfl dX5_inBets_6 ?_
    refine z_icmp_ge (tgt := 46) S dX5_inBets_9 (by decide) (by omega) (fun h_6 => ?_) (fun h_6 => ?_)
    · refine lv_iload_n S.1 S.2.1 dX5_inBets_46 rfl (lv_at hl 1 rfl) ?_
      exact z_ret S hr hlk (by first | rfl | grind) dX5_inBets_47
    · exact absurd h_6 (by omega)
set_option maxHeartbeats 4000000 in
set_option maxRecDepth 100000 in
theorem m_X5_dowserTold (l : Launch) (D : va_G) (g : ClassId × ClassId × ClassId) (b : Nat → Nat) {B : Int} (c : CS) (hI : IM B c) (d : Int) (what : Int) (h0 : 0 ≤ d ∧ d < 5) (h1 : 0 ≤ what ∧ what ≤ 7) : RD l yX5_dowserTold cX5_dowserTold 3 (some .int) 3 65 D g (MW g b c) [.ref (b 0), .int (zI d), .int (zI what)] (mDoT c d what) := by
  refine z_enter RX5 (by decide) rfl (Nat.le_of_ble_eq_true rfl) ?_
  intro p e s m args below meth co S hr hlk hK hP ls hl
  have hl : lv_has ls 3 [(0, .ref (b 0)), (1, .int (zI d)), (2, .int (zI what))] := hl
  have hs := hI.s
  refine lv_iload_n S.1 S.2.1 dX5_dowserTold_0 rfl (lv_at hl 2 rfl) ?_
  rcases (show what = 0 ∨ what = 1 ∨ what = 2 ∨ what = 3 ∨ what = 4 ∨ what = 5 ∨ what = 6 ∨ (what < 0 ∨ 6 < what) by omega) with h_1 | h_1 | h_1 | h_1 | h_1 | h_1 | h_1 | h_1
  · refine z_tabIn (off := 43) (tgt := 44) S 0 h_1 (by decide) dX5_dowserTold_1 (by decide) (by decide) rfl (by decide) ?_
    refine lv_aload_n S.1 S.2.1 dX5_dowserTold_44 rfl (lv_at hl 0 rfl) ?_
    refine z_get (v := .ref (b 4)) S inA5 hK hP 0 rfl rfl 8 (by decide) fl_X5_23 rfl dX5_dowserTold_45 ?_
    refine lv_iload_n S.1 S.2.1 dX5_dowserTold_48 rfl (lv_at hl 1 rfl) ?_
    refine z_iald S hK hP 4 rfl (by decide) (by omega) dX5_dowserTold_49 ?_
    have hb_2 := hI.r3 d
    exact z_ret S hr hlk (by grind [mDoT]) dX5_dowserTold_50
  · refine z_tabIn (off := 50) (tgt := 51) S 1 h_1 (by decide) dX5_dowserTold_1 (by decide) (by decide) rfl (by decide) ?_
    refine lv_aload_n S.1 S.2.1 dX5_dowserTold_51 rfl (lv_at hl 0 rfl) ?_
    refine z_get (v := .ref (b 5)) S inA5 hK hP 0 rfl rfl 9 (by decide) fl_X5_26 rfl dX5_dowserTold_52 ?_
    refine lv_iload_n S.1 S.2.1 dX5_dowserTold_55 rfl (lv_at hl 1 rfl) ?_
    refine z_iald S hK hP 5 rfl (by decide) (by omega) dX5_dowserTold_56 ?_
    have hb_3 := hI.r4 d
    exact z_ret S hr hlk (by grind [mDoT]) dX5_dowserTold_57
  · refine z_tabIn (off := 57) (tgt := 58) S 2 h_1 (by decide) dX5_dowserTold_1 (by decide) (by decide) rfl (by decide) ?_
    refine lv_aload_n S.1 S.2.1 dX5_dowserTold_58 rfl (lv_at hl 0 rfl) ?_
    refine z_get (v := .ref (b 6)) S inA5 hK hP 0 rfl rfl 10 (by decide) fl_X5_29 rfl dX5_dowserTold_59 ?_
    refine lv_iload_n S.1 S.2.1 dX5_dowserTold_62 rfl (lv_at hl 1 rfl) ?_
    refine z_iald S hK hP 6 rfl (by decide) (by omega) dX5_dowserTold_63 ?_
    have hb_4 := hI.r5 d
    exact z_ret S hr hlk (by grind [mDoT]) dX5_dowserTold_64
  · refine z_tabIn (off := 64) (tgt := 65) S 3 h_1 (by decide) dX5_dowserTold_1 (by decide) (by decide) rfl (by decide) ?_
    refine lv_aload_n S.1 S.2.1 dX5_dowserTold_65 rfl (lv_at hl 0 rfl) ?_
    refine lv_iload_n S.1 S.2.1 dX5_dowserTold_66 rfl (lv_at hl 1 rfl) ?_
    refine z_iconst S dX5_dowserTold_67 ?_
    refine z_rV (As := [.int (zI d), .int (zI 0)]) (rest := []) S (m_X5_pegsOf l D g b c hI d 0 (by omega) (by omega)) ml_X5_154 im_X5_pegsOf se_X5_pegsOf ini_X5 cd_X5_pegsOf ds_X5_pegsOf ⟨Nat.le_of_ble_eq_true rfl, Nat.le_of_ble_eq_true rfl⟩ hK hP (va_recv hK.1 hP (ci := 5) (q0 := 0) rfl rfl) rfl hl.1 rfl (Nat.le_of_ble_eq_true rfl) ⟨Nat.zero_le _, Nat.zero_le _⟩ dX5_dowserTold_68 ?_
    exact z_ret S hr hlk (by grind [mDoT]) dX5_dowserTold_71
  · refine z_tabIn (off := 71) (tgt := 72) S 4 h_1 (by decide) dX5_dowserTold_1 (by decide) (by decide) rfl (by decide) ?_
    refine lv_aload_n S.1 S.2.1 dX5_dowserTold_72 rfl (lv_at hl 0 rfl) ?_
    refine lv_iload_n S.1 S.2.1 dX5_dowserTold_73 rfl (lv_at hl 1 rfl) ?_
    refine z_iconst S dX5_dowserTold_74 ?_
    refine z_rV (As := [.int (zI d), .int (zI 1)]) (rest := []) S (m_X5_pegsOf l D g b c hI d 1 (by omega) (by omega)) ml_X5_154 im_X5_pegsOf se_X5_pegsOf ini_X5 cd_X5_pegsOf ds_X5_pegsOf ⟨Nat.le_of_ble_eq_true rfl, Nat.le_of_ble_eq_true rfl⟩ hK hP (va_recv hK.1 hP (ci := 5) (q0 := 0) rfl rfl) rfl hl.1 rfl (Nat.le_of_ble_eq_true rfl) ⟨Nat.zero_le _, Nat.zero_le _⟩ dX5_dowserTold_75 ?_
    exact z_ret S hr hlk (by grind [mDoT]) dX5_dowserTold_78
  · refine z_tabIn (off := 78) (tgt := 79) S 5 h_1 (by decide) dX5_dowserTold_1 (by decide) (by decide) rfl (by decide) ?_
    refine lv_aload_n S.1 S.2.1 dX5_dowserTold_79 rfl (lv_at hl 0 rfl) ?_
    refine lv_iload_n S.1 S.2.1 dX5_dowserTold_80 rfl (lv_at hl 1 rfl) ?_
    refine z_rV (As := [.int (zI d)]) (rest := []) S (m_X5_inBets l D g b c hI d (by omega)) ml_X5_157 im_X5_inBets se_X5_inBets ini_X5 cd_X5_inBets ds_X5_inBets ⟨Nat.le_of_ble_eq_true rfl, Nat.le_of_ble_eq_true rfl⟩ hK hP (va_recv hK.1 hP (ci := 5) (q0 := 0) rfl rfl) rfl hl.1 rfl (Nat.le_of_ble_eq_true rfl) ⟨Nat.zero_le _, Nat.zero_le _⟩ dX5_dowserTold_81 ?_
    exact z_ret S hr hlk (by grind [mDoT]) dX5_dowserTold_84
  · refine z_tabIn (off := 84) (tgt := 85) S 6 h_1 (by decide) dX5_dowserTold_1 (by decide) (by decide) rfl (by decide) ?_
    refine lv_aload_n S.1 S.2.1 dX5_dowserTold_85 rfl (lv_at hl 0 rfl) ?_
    refine z_get (v := .ref (b 7)) S inA5 hK hP 0 rfl rfl 11 (by decide) fl_X5_32 rfl dX5_dowserTold_86 ?_
    refine lv_iload_n S.1 S.2.1 dX5_dowserTold_89 rfl (lv_at hl 1 rfl) ?_
    refine z_iald S hK hP 7 rfl (by decide) (by omega) dX5_dowserTold_90 ?_
    exact z_ret S hr hlk (by grind [mDoT]) dX5_dowserTold_91
  · refine z_tabOut (tgt := 92) S (by omega) dX5_dowserTold_1 h_1 (by decide) ?_
    refine lv_aload_n S.1 S.2.1 dX5_dowserTold_92 rfl (lv_at hl 0 rfl) ?_
    refine z_get (v := .ref (b 8)) S inA5 hK hP 0 rfl rfl 12 (by decide) fl_X5_35 rfl dX5_dowserTold_93 ?_
    refine lv_iload_n S.1 S.2.1 dX5_dowserTold_96 rfl (lv_at hl 1 rfl) ?_
    refine z_iald S hK hP 8 rfl (by decide) (by omega) dX5_dowserTold_97 ?_
    exact z_ret S hr hlk (by grind [mDoT]) dX5_dowserTold_98
set_option maxHeartbeats 4000000 in
set_option maxRecDepth 100000 in
theorem m_X5_pitTold (l : Launch) (D : va_G) (g : ClassId × ClassId × ClassId) (b : Nat → Nat) {B : Int} (c : CS) (hI : IM B c) (q : Int) (what : Int) (h0 : 0 ≤ q ∧ q < 10) (h1 : 0 ≤ what ∧ what ≤ 6) : RD l yX5_pitTold cX5_pitTold 3 (some .int) 2 45 D g (MW g b c) [.ref (b 0), .int (zI q), .int (zI what)] (mPiT c q what) := by
  refine z_enter RX5 (by decide) rfl (Nat.le_of_ble_eq_true rfl) ?_
  intro p e s m args below meth co S hr hlk hK hP ls hl
  have hl : lv_has ls 3 [(0, .ref (b 0)), (1, .int (zI q)), (2, .int (zI what))] := hl
  have hs := hI.s
  refine lv_iload_n S.1 S.2.1 dX5_pitTold_0 rfl (lv_at hl 2 rfl) ?_
  rcases (show what = 0 ∨ what = 1 ∨ what = 2 ∨ what = 3 ∨ what = 4 ∨ (what < 0 ∨ 4 < what) by omega) with h_1 | h_1 | h_1 | h_1 | h_1 | h_1
  · refine z_tabIn (off := 35) (tgt := 36) S 0 h_1 (by decide) dX5_pitTold_1 (by decide) (by decide) rfl (by decide) ?_
    refine lv_aload_n S.1 S.2.1 dX5_pitTold_36 rfl (lv_at hl 0 rfl) ?_
    refine z_get (v := .ref (b 10)) S inA5 hK hP 0 rfl rfl 16 (by decide) fl_X5_41 rfl dX5_pitTold_37 ?_
    refine lv_iload_n S.1 S.2.1 dX5_pitTold_40 rfl (lv_at hl 1 rfl) ?_
    refine z_iald S hK hP 10 rfl (by decide) (by omega) dX5_pitTold_41 ?_
    have hb_2 := hI.r9 q
    refine z_bipush S (by decide) dX5_pitTold_42 ?_
    refine z_iremn S (by omega) dX5_pitTold_44 ?_
    exact z_ret S hr hlk (by grind [mPiT, b01]) dX5_pitTold_45
  · refine z_tabIn (off := 45) (tgt := 46) S 1 h_1 (by decide) dX5_pitTold_1 (by decide) (by decide) rfl (by decide) ?_
    refine lv_aload_n S.1 S.2.1 dX5_pitTold_46 rfl (lv_at hl 0 rfl) ?_
    refine z_get (v := .ref (b 10)) S inA5 hK hP 0 rfl rfl 16 (by decide) fl_X5_41 rfl dX5_pitTold_47 ?_
    refine lv_iload_n S.1 S.2.1 dX5_pitTold_50 rfl (lv_at hl 1 rfl) ?_
    refine z_iald S hK hP 10 rfl (by decide) (by omega) dX5_pitTold_51 ?_
    have hb_3 := hI.r9 q
    refine z_bipush S (by decide) dX5_pitTold_52 ?_
    refine z_idivn S (by omega) dX5_pitTold_54 ?_
    exact z_ret S hr hlk (by grind [mPiT, b01]) dX5_pitTold_55
  · refine z_tabIn (off := 55) (tgt := 56) S 2 h_1 (by decide) dX5_pitTold_1 (by decide) (by decide) rfl (by decide) ?_
    refine lv_aload_n S.1 S.2.1 dX5_pitTold_56 rfl (lv_at hl 0 rfl) ?_
    refine z_get (v := .ref (b 12)) S inA5 hK hP 0 rfl rfl 18 (by decide) fl_X5_47 rfl dX5_pitTold_57 ?_
    refine lv_iload_n S.1 S.2.1 dX5_pitTold_60 rfl (lv_at hl 1 rfl) ?_
    refine z_iald S hK hP 12 rfl (by decide) (by omega) dX5_pitTold_61 ?_
    have hb_4 := hI.r11 q
    exact z_ret S hr hlk (by grind [mPiT, b01]) dX5_pitTold_62
  · refine z_tabIn (off := 62) (tgt := 63) S 3 h_1 (by decide) dX5_pitTold_1 (by decide) (by decide) rfl (by decide) ?_
    refine lv_aload_n S.1 S.2.1 dX5_pitTold_63 rfl (lv_at hl 0 rfl) ?_
    refine lv_iload_n S.1 S.2.1 dX5_pitTold_64 rfl (lv_at hl 1 rfl) ?_
    refine z_rV (As := [.int (zI q)]) (rest := []) S (m_X5_hasFound l D g b c hI q (by omega)) ml_X5_115 im_X5_hasFound se_X5_hasFound ini_X5 cd_X5_hasFound ds_X5_hasFound ⟨Nat.le_of_ble_eq_true rfl, Nat.le_of_ble_eq_true rfl⟩ hK hP (va_recv hK.1 hP (ci := 5) (q0 := 0) rfl rfl) rfl hl.1 rfl (Nat.le_of_ble_eq_true rfl) ⟨Nat.zero_le _, Nat.zero_le _⟩ dX5_pitTold_65 ?_
    refine z_ifb_eq (tgt := 75) S dX5_pitTold_68 (by decide) (fun h_5 => ?_) (fun h_5 => ?_)
    · refine z_iconst S dX5_pitTold_75 ?_
      exact z_ret S hr hlk (by grind [mPiT, b01]) dX5_pitTold_76
    · refine z_iconst S dX5_pitTold_71 ?_
      refine z_goto (tgt := 76) S dX5_pitTold_72 (by decide) ?_
      exact z_ret S hr hlk (by grind [mPiT, b01]) dX5_pitTold_76
  · refine z_tabIn (off := 76) (tgt := 77) S 4 h_1 (by decide) dX5_pitTold_1 (by decide) (by decide) rfl (by decide) ?_
    refine lv_aload_n S.1 S.2.1 dX5_pitTold_77 rfl (lv_at hl 0 rfl) ?_
    refine lv_iload_n S.1 S.2.1 dX5_pitTold_78 rfl (lv_at hl 1 rfl) ?_
    refine z_rV (As := [.int (zI q)]) (rest := []) S (m_X5_isOver l D g b c hI q (by omega)) ml_X5_132 im_X5_isOver se_X5_isOver ini_X5 cd_X5_isOver ds_X5_isOver ⟨Nat.le_of_ble_eq_true rfl, Nat.le_of_ble_eq_true rfl⟩ hK hP (va_recv hK.1 hP (ci := 5) (q0 := 0) rfl rfl) rfl hl.1 rfl (Nat.le_of_ble_eq_true rfl) ⟨Nat.zero_le _, Nat.zero_le _⟩ dX5_pitTold_79 ?_
    refine z_ifb_eq (tgt := 89) S dX5_pitTold_82 (by decide) (fun h_6 => ?_) (fun h_6 => ?_)
    · refine z_iconst S dX5_pitTold_89 ?_
      exact z_ret S hr hlk (by grind [mPiT, b01]) dX5_pitTold_90
    · refine z_iconst S dX5_pitTold_85 ?_
      refine z_goto (tgt := 90) S dX5_pitTold_86 (by decide) ?_
      exact z_ret S hr hlk (by grind [mPiT, b01]) dX5_pitTold_90
  · refine z_tabOut (tgt := 91) S (by omega) dX5_pitTold_1 h_1 (by decide) ?_
    refine lv_aload_n S.1 S.2.1 dX5_pitTold_91 rfl (lv_at hl 0 rfl) ?_
    refine lv_iload_n S.1 S.2.1 dX5_pitTold_92 rfl (lv_at hl 1 rfl) ?_
    refine lv_iload_n S.1 S.2.1 dX5_pitTold_93 rfl (lv_at hl 2 rfl) ?_
    refine z_iconst S dX5_pitTold_94 ?_
    refine z_icmp_ne (tgt := 102) S dX5_pitTold_95 (by decide) (by omega) (fun h_7 => ?_) (fun h_7 => ?_)
    · refine z_iconst S dX5_pitTold_102 ?_
      refine z_rV (As := [.int (zI q), .int (zI 0)]) (rest := []) S (m_X5_betOn l D g b c hI q 0 (by omega) (by omega)) ml_X5_121 im_X5_betOn se_X5_betOn ini_X5 cd_X5_betOn ds_X5_betOn ⟨Nat.le_of_ble_eq_true rfl, Nat.le_of_ble_eq_true rfl⟩ hK hP (va_recv hK.1 hP (ci := 5) (q0 := 0) rfl rfl) rfl hl.1 rfl (Nat.le_of_ble_eq_true rfl) ⟨Nat.zero_le _, Nat.zero_le _⟩ dX5_pitTold_103 ?_
      exact z_ret S hr hlk (by grind [mPiT, b01]) dX5_pitTold_106
    · refine z_iconst S dX5_pitTold_98 ?_
      refine z_goto (tgt := 103) S dX5_pitTold_99 (by decide) ?_
      refine z_rV (As := [.int (zI q), .int (zI 1)]) (rest := []) S (m_X5_betOn l D g b c hI q 1 (by omega) (by omega)) ml_X5_121 im_X5_betOn se_X5_betOn ini_X5 cd_X5_betOn ds_X5_betOn ⟨Nat.le_of_ble_eq_true rfl, Nat.le_of_ble_eq_true rfl⟩ hK hP (va_recv hK.1 hP (ci := 5) (q0 := 0) rfl rfl) rfl hl.1 rfl (Nat.le_of_ble_eq_true rfl) ⟨Nat.zero_le _, Nat.zero_le _⟩ dX5_pitTold_103 ?_
      exact z_ret S hr hlk (by grind [mPiT, b01]) dX5_pitTold_106
set_option maxHeartbeats 4000000 in
set_option maxRecDepth 100000 in
theorem m_X5_counted (l : Launch) (D : va_G) (g : ClassId × ClassId × ClassId) (b : Nat → Nat) {B : Int} (c : CS) (hI : IM B c) (what : Int) (h0 : 0 ≤ what ∧ what ≤ 8) : RD l yX5_counted cX5_counted 4 (some .int) 2 47 D g (MW g b c) [.ref (b 0), .int (zI what)] (mCnt c what) := by
  refine z_enter RX5 (by decide) rfl (Nat.le_of_ble_eq_true rfl) ?_
  intro p e s m args below meth co S hr hlk hK hP ls hl
  have hl : lv_has ls 4 [(0, .ref (b 0)), (1, .int (zI what))] := hl
  have hs := hI.s
  refine z_iconst S dX5_counted_0 ?_
  refine lv_istore_n (lv' := [(2, .int (zI 0)), (0, .ref (b 0)), (1, .int (zI what))]) S.1 S.2.1 dX5_counted_1 rfl hl (by decide) rfl (fun ls hl => ?_)
  refine lv_iload_n S.1 S.2.1 dX5_counted_2 rfl (lv_at hl 2 rfl) ?_
  rcases (show what = 0 ∨ what = 1 ∨ what = 2 ∨ what = 3 ∨ what = 4 ∨ what = 5 ∨ what = 6 ∨ what = 7 ∨ (what < 0 ∨ 7 < what) by omega) with h_1 | h_1 | h_1 | h_1 | h_1 | h_1 | h_1 | h_1 | h_1
  · refine z_tabIn (off := 45) (tgt := 48) S 0 h_1 (by decide) dX5_counted_3 (by decide) (by decide) rfl (by decide) ?_
    refine lv_aload_n S.1 S.2.1 dX5_counted_48 rfl (lv_at hl 1 rfl) ?_
    refine z_get (v := .int (zI (c.1 3))) S inA5 hK hP 0 rfl rfl 3 (by decide) fl_X5_72 rfl dX5_counted_49 ?_
    exact z_ret S hr hlk (by grind [mCnt, mWet]) dX5_counted_52
  · refine z_tabIn (off := 50) (tgt := 53) S 1 h_1 (by decide) dX5_counted_3 (by decide) (by decide) rfl (by decide) ?_
    refine lv_aload_n S.1 S.2.1 dX5_counted_53 rfl (lv_at hl 1 rfl) ?_
    refine z_get (v := .int (zI (c.1 4))) S inA5 hK hP 0 rfl rfl 7 (by decide) fl_X5_60 rfl dX5_counted_54 ?_
    exact z_ret S hr hlk (by grind [mCnt, mWet]) dX5_counted_57
  · refine z_tabIn (off := 55) (tgt := 58) S 2 h_1 (by decide) dX5_counted_3 (by decide) (by decide) rfl (by decide) ?_
    refine lv_aload_n S.1 S.2.1 dX5_counted_58 rfl (lv_at hl 1 rfl) ?_
    refine z_get (v := .int (zI (c.1 5))) S inA5 hK hP 0 rfl rfl 13 (by decide) fl_X5_96 rfl dX5_counted_59 ?_
    exact z_ret S hr hlk (by grind [mCnt, mWet]) dX5_counted_62
  · refine z_tabIn (off := 60) (tgt := 63) S 3 h_1 (by decide) dX5_counted_3 (by decide) (by decide) rfl (by decide) ?_
    refine lv_aload_n S.1 S.2.1 dX5_counted_63 rfl (lv_at hl 1 rfl) ?_
    refine z_get (v := .int (zI (c.1 6))) S inA5 hK hP 0 rfl rfl 15 (by decide) fl_X5_63 rfl dX5_counted_64 ?_
    exact z_ret S hr hlk (by grind [mCnt, mWet]) dX5_counted_67
  · refine z_tabIn (off := 65) (tgt := 68) S 4 h_1 (by decide) dX5_counted_3 (by decide) (by decide) rfl (by decide) ?_
    refine lv_aload_n S.1 S.2.1 dX5_counted_68 rfl (lv_at hl 1 rfl) ?_
    refine z_get (v := .int (zI (c.1 1))) S inA5 hK hP 0 rfl rfl 1 (by decide) fl_X5_9 rfl dX5_counted_69 ?_
    exact z_ret S hr hlk (by grind [mCnt, mWet]) dX5_counted_72
  · refine z_tabIn (off := 70) (tgt := 73) S 5 h_1 (by decide) dX5_counted_3 (by decide) (by decide) rfl (by decide) ?_
    refine z_iconst S dX5_counted_73 ?_
    refine lv_istore_n (lv' := [(3, .int (zI 0)), (2, .int (zI 0)), (0, .ref (b 0)), (1, .int (zI what))]) S.1 S.2.1 dX5_counted_74 rfl hl (by decide) rfl (fun ls hl => ?_)
    refine z_for (nL := 4) (400) (fun (k75 : Nat) => [(3, .int (zI (k75 : Int))), (2, .int (zI (sm (fun k => b01 (0 < mWat c k (c.1 3).toNat)) k75))), (0, .ref (b 0)), (1, .int (zI what))]) (fun k75 => True) (fun k75 hk75 hJ75 ls hl ih75 => ?_) (fun hJ75 ls hl => ?_) 0 (by omega) trivial ls (lv_sub hl [0, 1, 2, 3] rfl)
    · have hl : lv_has ls 4 [(3, .int (zI (k75 : Int))), (2, .int (zI (sm (fun k => b01 (0 < mWat c k (c.1 3).toNat)) k75))), (0, .ref (b 0)), (1, .int (zI what))] := hl
      have hb0 := mWat_b hI (k75 : Int) (n := (c.1 3).toNat) (by omega)
      refine lv_iload_n S.1 S.2.1 dX5_counted_75 rfl (lv_at hl 0 rfl) ?_
      refine z_sipush S (by decide) dX5_counted_76 ?_
      refine z_icmp_ge (tgt := 104) S dX5_counted_79 (by decide) (by omega) (fun h_2 => ?_) (fun h_2 => ?_)
      · exact absurd h_2 (by omega)
      · refine lv_iload_n S.1 S.2.1 dX5_counted_82 rfl (lv_at hl 1 rfl) ?_
        refine lv_aload_n S.1 S.2.1 dX5_counted_83 rfl (lv_at hl 2 rfl) ?_
        refine lv_iload_n S.1 S.2.1 dX5_counted_84 rfl (lv_at hl 0 rfl) ?_
        refine z_rV (As := [.int (zI (k75 : Int))]) (rest := [.int (zI (sm (fun k => b01 (0 < mWat c k (c.1 3).toNat)) k75))]) S (m_X5_water l D g b c hI (k75 : Int) (by omega)) ml_X5_142 im_X5_water se_X5_water ini_X5 cd_X5_water ds_X5_water ⟨Nat.le_of_ble_eq_true rfl, Nat.le_of_ble_eq_true rfl⟩ hK hP (va_recv hK.1 hP (ci := 5) (q0 := 0) rfl rfl) rfl hl.1 rfl (Nat.le_of_ble_eq_true rfl) ⟨Nat.zero_le _, Nat.zero_le _⟩ dX5_counted_85 ?_
        refine z_if_le (tgt := 95) S dX5_counted_88 (by decide) (by omega) (fun h_3 => ?_) (fun h_3 => ?_)
        · refine z_iconst S dX5_counted_95 ?_
          refine z_iadd S dX5_counted_96 ?_
          refine lv_istore_n (lv' := [(2, .int (zI ((sm (fun k => b01 (0 < mWat c k (c.1 3).toNat)) k75) + 0))), (3, .int (zI (k75 : Int))), (0, .ref (b 0)), (1, .int (zI what))]) S.1 S.2.1 dX5_counted_97 rfl hl (by decide) rfl (fun ls hl => ?_)
          refine z_iinc (lv' := [(3, .int (zI ((k75 : Int) + 1))), (2, .int (zI ((sm (fun k => b01 (0 < mWat c k (c.1 3).toNat)) k75) + 0))), (0, .ref (b 0)), (1, .int (zI what))]) S dX5_counted_98 hl (k := 1) rfl (by decide) rfl (fun ls hl => ?_)
          refine z_goto (tgt := 75) S dX5_counted_101 (by decide) ?_
          have e_4 : sm (fun k => b01 (0 < mWat c k (c.1 3).toNat)) (k75 + 1) = (sm (fun k => b01 (0 < mWat c k (c.1 3).toNat)) k75) + 0 := by grind [sm, b01]
          exact ih75 _ (lv_sub hl [0, 1, 2, 3] (by show _ = ([(3, .int (zI ((k75 + 1 : Nat) : Int))), (2, .int (zI (sm (fun k => b01 (0 < mWat c k (c.1 3).toNat)) (k75 + 1)))), (0, .ref (b 0)), (1, .int (zI what))] : List (Nat × Value)); rw [e_4]; first | done | rfl)) trivial
        · refine z_iconst S dX5_counted_91 ?_
          refine z_goto (tgt := 96) S dX5_counted_92 (by decide) ?_
          refine z_iadd S dX5_counted_96 ?_
          refine lv_istore_n (lv' := [(2, .int (zI ((sm (fun k => b01 (0 < mWat c k (c.1 3).toNat)) k75) + 1))), (3, .int (zI (k75 : Int))), (0, .ref (b 0)), (1, .int (zI what))]) S.1 S.2.1 dX5_counted_97 rfl hl (by decide) rfl (fun ls hl => ?_)
          refine z_iinc (lv' := [(3, .int (zI ((k75 : Int) + 1))), (2, .int (zI ((sm (fun k => b01 (0 < mWat c k (c.1 3).toNat)) k75) + 1))), (0, .ref (b 0)), (1, .int (zI what))]) S dX5_counted_98 hl (k := 1) rfl (by decide) rfl (fun ls hl => ?_)
          refine z_goto (tgt := 75) S dX5_counted_101 (by decide) ?_
          have e_5 : sm (fun k => b01 (0 < mWat c k (c.1 3).toNat)) (k75 + 1) = (sm (fun k => b01 (0 < mWat c k (c.1 3).toNat)) k75) + 1 := by grind [sm, b01]
          exact ih75 _ (lv_sub hl [0, 1, 2, 3] (by show _ = ([(3, .int (zI ((k75 + 1 : Nat) : Int))), (2, .int (zI (sm (fun k => b01 (0 < mWat c k (c.1 3).toNat)) (k75 + 1)))), (0, .ref (b 0)), (1, .int (zI what))] : List (Nat × Value)); rw [e_5]; first | done | rfl)) trivial
    · have hl : lv_has ls 4 [(3, .int (zI ((400 : Nat) : Int))), (2, .int (zI (sm (fun k => b01 (0 < mWat c k (c.1 3).toNat)) 400))), (0, .ref (b 0)), (1, .int (zI what))] := hl
      refine lv_iload_n S.1 S.2.1 dX5_counted_75 rfl (lv_at hl 0 rfl) ?_
      refine z_sipush S (by decide) dX5_counted_76 ?_
      refine z_icmp_ge (tgt := 104) S dX5_counted_79 (by decide) (by omega) (fun h_6 => ?_) (fun h_6 => ?_)
      · refine lv_iload_n S.1 S.2.1 dX5_counted_104 rfl (lv_at hl 1 rfl) ?_
        exact z_ret S hr hlk (by grind [mCnt, mWet]) dX5_counted_105
      · exact absurd h_6 (by omega)
  · refine z_tabIn (off := 103) (tgt := 106) S 6 h_1 (by decide) dX5_counted_3 (by decide) (by decide) rfl (by decide) ?_
    refine lv_aload_n S.1 S.2.1 dX5_counted_106 rfl (lv_at hl 1 rfl) ?_
    refine z_iconst S dX5_counted_107 ?_
    refine z_iconst S dX5_counted_108 ?_
    refine z_rV (As := [.int (zI (-1)), .int (zI 1)]) (rest := []) S (m_X5_pegsOf l D g b c hI (-1) 1 (by omega) (by omega)) ml_X5_154 im_X5_pegsOf se_X5_pegsOf ini_X5 cd_X5_pegsOf ds_X5_pegsOf ⟨Nat.le_of_ble_eq_true rfl, Nat.le_of_ble_eq_true rfl⟩ hK hP (va_recv hK.1 hP (ci := 5) (q0 := 0) rfl rfl) rfl hl.1 rfl (Nat.le_of_ble_eq_true rfl) ⟨Nat.zero_le _, Nat.zero_le _⟩ dX5_counted_109 ?_
    exact z_ret S hr hlk (by grind [mCnt, mWet]) dX5_counted_112
  · refine z_tabIn (off := 110) (tgt := 113) S 7 h_1 (by decide) dX5_counted_3 (by decide) (by decide) rfl (by decide) ?_
    refine lv_aload_n S.1 S.2.1 dX5_counted_113 rfl (lv_at hl 1 rfl) ?_
    refine z_get (v := .int (zI (c.1 2))) S inA5 hK hP 0 rfl rfl 2 (by decide) fl_X5_129 rfl dX5_counted_114 ?_
    exact z_ret S hr hlk (by grind [mCnt, mWet]) dX5_counted_117
  · refine z_tabOut (tgt := 118) S (by omega) dX5_counted_3 h_1 (by decide) ?_
    refine z_iconst S dX5_counted_118 ?_
    refine lv_istore_n (lv' := [(3, .int (zI 0)), (2, .int (zI 0)), (0, .ref (b 0)), (1, .int (zI what))]) S.1 S.2.1 dX5_counted_119 rfl hl (by decide) rfl (fun ls hl => ?_)
    refine z_for (nL := 4) ((c.1 4).toNat) (fun (k120 : Nat) => [(3, .int (zI (k120 : Int))), (2, .int (zI (sm (fun d => c.2 5 d) k120))), (0, .ref (b 0)), (1, .int (zI what))]) (fun k120 => True) (fun k120 hk120 hJ120 ls hl ih120 => ?_) (fun hJ120 ls hl => ?_) 0 (by omega) trivial ls (lv_sub hl [0, 1, 2, 3] rfl)
    · have hl : lv_has ls 4 [(3, .int (zI (k120 : Int))), (2, .int (zI (sm (fun d => c.2 5 d) k120))), (0, .ref (b 0)), (1, .int (zI what))] := hl
      refine lv_iload_n S.1 S.2.1 dX5_counted_120 rfl (lv_at hl 0 rfl) ?_
      refine lv_aload_n S.1 S.2.1 dX5_counted_121 rfl (lv_at hl 2 rfl) ?_
      refine z_get (v := .int (zI (c.1 4))) S inA5 hK hP 0 rfl rfl 7 (by decide) fl_X5_60 rfl dX5_counted_122 ?_
      refine z_icmp_ge (tgt := 143) S dX5_counted_125 (by decide) (by omega) (fun h_7 => ?_) (fun h_7 => ?_)
      · exact absurd h_7 (by omega)
      · refine lv_iload_n S.1 S.2.1 dX5_counted_128 rfl (lv_at hl 1 rfl) ?_
        refine lv_aload_n S.1 S.2.1 dX5_counted_129 rfl (lv_at hl 2 rfl) ?_
        refine z_get (v := .ref (b 6)) S inA5 hK hP 0 rfl rfl 10 (by decide) fl_X5_29 rfl dX5_counted_130 ?_
        refine lv_iload_n S.1 S.2.1 dX5_counted_133 rfl (lv_at hl 0 rfl) ?_
        refine z_iald S hK hP 6 rfl (by decide) (by omega) dX5_counted_134 ?_
        have hb_8 := hI.r5 (k120 : Int)
        refine z_iadd S dX5_counted_135 ?_
        refine lv_istore_n (lv' := [(2, .int (zI ((sm (fun d => c.2 5 d) k120) + (c.2 5 (k120 : Int))))), (3, .int (zI (k120 : Int))), (0, .ref (b 0)), (1, .int (zI what))]) S.1 S.2.1 dX5_counted_136 rfl hl (by decide) rfl (fun ls hl => ?_)
        refine z_iinc (lv' := [(3, .int (zI ((k120 : Int) + 1))), (2, .int (zI ((sm (fun d => c.2 5 d) k120) + (c.2 5 (k120 : Int))))), (0, .ref (b 0)), (1, .int (zI what))]) S dX5_counted_137 hl (k := 1) rfl (by decide) rfl (fun ls hl => ?_)
        refine z_goto (tgt := 120) S dX5_counted_140 (by decide) ?_
        exact ih120 _ (lv_sub hl [0, 1, 2, 3] rfl) trivial
    · have hl : lv_has ls 4 [(3, .int (zI (((c.1 4).toNat : Nat) : Int))), (2, .int (zI (sm (fun d => c.2 5 d) ((c.1 4).toNat)))), (0, .ref (b 0)), (1, .int (zI what))] := hl
      refine lv_iload_n S.1 S.2.1 dX5_counted_120 rfl (lv_at hl 0 rfl) ?_
      refine lv_aload_n S.1 S.2.1 dX5_counted_121 rfl (lv_at hl 2 rfl) ?_
      refine z_get (v := .int (zI (c.1 4))) S inA5 hK hP 0 rfl rfl 7 (by decide) fl_X5_60 rfl dX5_counted_122 ?_
      refine z_icmp_ge (tgt := 143) S dX5_counted_125 (by decide) (by omega) (fun h_9 => ?_) (fun h_9 => ?_)
      · refine lv_iload_n S.1 S.2.1 dX5_counted_143 rfl (lv_at hl 1 rfl) ?_
        exact z_ret S hr hlk (by grind [mCnt, mWet]) dX5_counted_144
      · exact absurd h_9 (by omega)
set_option maxHeartbeats 4000000 in
set_option maxRecDepth 100000 in
theorem m_X5_on (l : Launch) (D : va_G) (g : ClassId × ClassId × ClassId) (b : Nat → Nat) {B : Int} (c : CS) (hI : IM B c) (kd9 : Int) (nb : Int) (h0 : 0 ≤ kd9 ∧ kd9 ≤ 3) (h1 : -100 ≤ nb ∧ nb ≤ 100) : RD l yX5_on cX5_on 8 (some .int) 0 0 D g (MW g b c) [.ref (b 0), .int (zI kd9), .int (zI nb)] (mOn c kd9 nb) := by
  refine z_enter RX5 (by decide) rfl (Nat.le_of_ble_eq_true rfl) ?_
  intro p e s m args below meth co S hr hlk hK hP ls hl
  have hl : lv_has ls 8 [(0, .ref (b 0)), (1, .int (zI kd9)), (2, .int (zI nb))] := hl
  have hs := hI.s
  refine z_iconst S dX5_on_0 ?_
  refine lv_istore_n (lv' := [(3, .int (zI 0)), (0, .ref (b 0)), (1, .int (zI kd9)), (2, .int (zI nb))]) S.1 S.2.1 dX5_on_1 rfl hl (by decide) rfl (fun ls hl => ?_)
  refine z_iconst S dX5_on_2 ?_
  refine lv_istore (lv' := [(4, .int (zI 0)), (3, .int (zI 0)), (0, .ref (b 0)), (1, .int (zI kd9)), (2, .int (zI nb))]) S.1 S.2.1 dX5_on_3 hl (by decide) rfl (fun ls hl => ?_)
  refine z_for (nL := 8) (400) (fun (k5 : Nat) => [(4, .int (zI (k5 : Int))), (3, .int (zI (sm (fun k => b01 (0 < c.2 8 k ∧ lnOf kd9 k = nb)) k5))), (0, .ref (b 0)), (1, .int (zI kd9)), (2, .int (zI nb))]) (fun k5 => True) (fun k5 hk5 hJ5 ls hl ih5 => ?_) (fun hJ5 ls hl => ?_) 0 (by omega) trivial ls (lv_sub hl [0, 1, 2, 3, 4] rfl)
  · have hl : lv_has ls 8 [(4, .int (zI (k5 : Int))), (3, .int (zI (sm (fun k => b01 (0 < c.2 8 k ∧ lnOf kd9 k = nb)) k5))), (0, .ref (b 0)), (1, .int (zI kd9)), (2, .int (zI nb))] := hl
    refine lv_iload S.1 S.2.1 dX5_on_5 (lv_at hl 0 rfl) ?_
    refine z_sipush S (by decide) dX5_on_7 ?_
    refine z_icmp_ge (tgt := 96) S dX5_on_10 (by decide) (by omega) (fun h_1 => ?_) (fun h_1 => ?_)
    · exact absurd h_1 (by omega)
    · refine lv_iload S.1 S.2.1 dX5_on_13 (lv_at hl 0 rfl) ?_
      refine z_bipush S (by decide) dX5_on_15 ?_
      refine z_iremn S (by omega) dX5_on_17 ?_
      refine lv_istore (lv' := [(5, .int (zI ((k5 : Int) % 20))), (4, .int (zI (k5 : Int))), (3, .int (zI (sm (fun k => b01 (0 < c.2 8 k ∧ lnOf kd9 k = nb)) k5))), (0, .ref (b 0)), (1, .int (zI kd9)), (2, .int (zI nb))]) S.1 S.2.1 dX5_on_18 hl (by decide) rfl (fun ls hl => ?_)
      refine lv_iload S.1 S.2.1 dX5_on_20 (lv_at hl 1 rfl) ?_
      refine z_bipush S (by decide) dX5_on_22 ?_
      refine z_idivn S (by omega) dX5_on_24 ?_
      refine lv_istore (lv' := [(6, .int (zI ((k5 : Int) / 20))), (5, .int (zI ((k5 : Int) % 20))), (4, .int (zI (k5 : Int))), (3, .int (zI (sm (fun k => b01 (0 < c.2 8 k ∧ lnOf kd9 k = nb)) k5))), (0, .ref (b 0)), (1, .int (zI kd9)), (2, .int (zI nb))]) S.1 S.2.1 dX5_on_25 hl (by decide) rfl (fun ls hl => ?_)
      refine lv_iload_n S.1 S.2.1 dX5_on_27 rfl (lv_at hl 5 rfl) ?_
      refine z_if_ne (tgt := 36) S dX5_on_28 (by decide) (by omega) (fun h_2 => ?_) (fun h_2 => ?_)
      · refine lv_iload_n S.1 S.2.1 dX5_on_36 rfl (lv_at hl 5 rfl) ?_
        refine z_iconst S dX5_on_37 ?_
        refine z_icmp_ne (tgt := 46) S dX5_on_38 (by decide) (by omega) (fun h_3 => ?_) (fun h_3 => ?_)
        · refine lv_iload_n S.1 S.2.1 dX5_on_46 rfl (lv_at hl 5 rfl) ?_
          refine z_iconst S dX5_on_47 ?_
          refine z_icmp_ne (tgt := 59) S dX5_on_48 (by decide) (by omega) (fun h_4 => ?_) (fun h_4 => ?_)
          · refine lv_iload S.1 S.2.1 dX5_on_59 (lv_at hl 1 rfl) ?_
            refine lv_iload S.1 S.2.1 dX5_on_61 (lv_at hl 0 rfl) ?_
            refine z_iadd S dX5_on_63 ?_
            refine lv_istore (lv' := [(7, .int (zI (((k5 : Int) % 20) + ((k5 : Int) / 20)))), (6, .int (zI ((k5 : Int) / 20))), (5, .int (zI ((k5 : Int) % 20))), (4, .int (zI (k5 : Int))), (3, .int (zI (sm (fun k => b01 (0 < c.2 8 k ∧ lnOf kd9 k = nb)) k5))), (0, .ref (b 0)), (1, .int (zI kd9)), (2, .int (zI nb))]) S.1 S.2.1 dX5_on_64 hl (by decide) rfl (fun ls hl => ?_)
            refine lv_iload_n S.1 S.2.1 dX5_on_66 rfl (lv_at hl 4 rfl) ?_
            refine lv_aload_n S.1 S.2.1 dX5_on_67 rfl (lv_at hl 5 rfl) ?_
            refine z_get (v := .ref (b 9)) S inA5 hK hP 0 rfl rfl 14 (by decide) fl_X5_38 rfl dX5_on_68 ?_
            refine lv_iload S.1 S.2.1 dX5_on_71 (lv_at hl 3 rfl) ?_
            refine z_iald S hK hP 9 rfl (by decide) (by omega) dX5_on_73 ?_
            have hb_5 := hI.r8 (k5 : Int)
            refine z_if_le (tgt := 87) S dX5_on_74 (by decide) (by omega) (fun h_6 => ?_) (fun h_6 => ?_)
            · refine z_iconst S dX5_on_87 ?_
              refine z_iadd S dX5_on_88 ?_
              refine lv_istore_n (lv' := [(3, .int (zI ((sm (fun k => b01 (0 < c.2 8 k ∧ lnOf kd9 k = nb)) k5) + 0))), (7, .int (zI (((k5 : Int) % 20) + ((k5 : Int) / 20)))), (6, .int (zI ((k5 : Int) / 20))), (5, .int (zI ((k5 : Int) % 20))), (4, .int (zI (k5 : Int))), (0, .ref (b 0)), (1, .int (zI kd9)), (2, .int (zI nb))]) S.1 S.2.1 dX5_on_89 rfl hl (by decide) rfl (fun ls hl => ?_)
              refine z_iinc (lv' := [(4, .int (zI ((k5 : Int) + 1))), (3, .int (zI ((sm (fun k => b01 (0 < c.2 8 k ∧ lnOf kd9 k = nb)) k5) + 0))), (7, .int (zI (((k5 : Int) % 20) + ((k5 : Int) / 20)))), (6, .int (zI ((k5 : Int) / 20))), (5, .int (zI ((k5 : Int) % 20))), (0, .ref (b 0)), (1, .int (zI kd9)), (2, .int (zI nb))]) S dX5_on_90 hl (k := 4) rfl (by decide) rfl (fun ls hl => ?_)
              refine z_goto (tgt := 5) S dX5_on_93 (by decide) ?_
              have e_7 : sm (fun k => b01 (0 < c.2 8 k ∧ lnOf kd9 k = nb)) (k5 + 1) = (sm (fun k => b01 (0 < c.2 8 k ∧ lnOf kd9 k = nb)) k5) + 0 := by grind [sm, b01, lnOf]
              exact ih5 _ (lv_sub hl [0, 1, 5, 6, 7] (by show _ = ([(4, .int (zI ((k5 + 1 : Nat) : Int))), (3, .int (zI (sm (fun k => b01 (0 < c.2 8 k ∧ lnOf kd9 k = nb)) (k5 + 1)))), (0, .ref (b 0)), (1, .int (zI kd9)), (2, .int (zI nb))] : List (Nat × Value)); rw [e_7]; first | done | rfl)) trivial
            · refine lv_iload S.1 S.2.1 dX5_on_77 (lv_at hl 0 rfl) ?_
              refine lv_iload_n S.1 S.2.1 dX5_on_79 rfl (lv_at hl 7 rfl) ?_
              refine z_icmp_ne (tgt := 87) S dX5_on_80 (by decide) (by omega) (fun h_8 => ?_) (fun h_8 => ?_)
              · refine z_iconst S dX5_on_87 ?_
                refine z_iadd S dX5_on_88 ?_
                refine lv_istore_n (lv' := [(3, .int (zI ((sm (fun k => b01 (0 < c.2 8 k ∧ lnOf kd9 k = nb)) k5) + 0))), (7, .int (zI (((k5 : Int) % 20) + ((k5 : Int) / 20)))), (6, .int (zI ((k5 : Int) / 20))), (5, .int (zI ((k5 : Int) % 20))), (4, .int (zI (k5 : Int))), (0, .ref (b 0)), (1, .int (zI kd9)), (2, .int (zI nb))]) S.1 S.2.1 dX5_on_89 rfl hl (by decide) rfl (fun ls hl => ?_)
                refine z_iinc (lv' := [(4, .int (zI ((k5 : Int) + 1))), (3, .int (zI ((sm (fun k => b01 (0 < c.2 8 k ∧ lnOf kd9 k = nb)) k5) + 0))), (7, .int (zI (((k5 : Int) % 20) + ((k5 : Int) / 20)))), (6, .int (zI ((k5 : Int) / 20))), (5, .int (zI ((k5 : Int) % 20))), (0, .ref (b 0)), (1, .int (zI kd9)), (2, .int (zI nb))]) S dX5_on_90 hl (k := 4) rfl (by decide) rfl (fun ls hl => ?_)
                refine z_goto (tgt := 5) S dX5_on_93 (by decide) ?_
                have e_9 : sm (fun k => b01 (0 < c.2 8 k ∧ lnOf kd9 k = nb)) (k5 + 1) = (sm (fun k => b01 (0 < c.2 8 k ∧ lnOf kd9 k = nb)) k5) + 0 := by grind [sm, b01, lnOf]
                exact ih5 _ (lv_sub hl [0, 1, 5, 6, 7] (by show _ = ([(4, .int (zI ((k5 + 1 : Nat) : Int))), (3, .int (zI (sm (fun k => b01 (0 < c.2 8 k ∧ lnOf kd9 k = nb)) (k5 + 1)))), (0, .ref (b 0)), (1, .int (zI kd9)), (2, .int (zI nb))] : List (Nat × Value)); rw [e_9]; first | done | rfl)) trivial
              · refine z_iconst S dX5_on_83 ?_
                refine z_goto (tgt := 88) S dX5_on_84 (by decide) ?_
                refine z_iadd S dX5_on_88 ?_
                refine lv_istore_n (lv' := [(3, .int (zI ((sm (fun k => b01 (0 < c.2 8 k ∧ lnOf kd9 k = nb)) k5) + 1))), (7, .int (zI (((k5 : Int) % 20) + ((k5 : Int) / 20)))), (6, .int (zI ((k5 : Int) / 20))), (5, .int (zI ((k5 : Int) % 20))), (4, .int (zI (k5 : Int))), (0, .ref (b 0)), (1, .int (zI kd9)), (2, .int (zI nb))]) S.1 S.2.1 dX5_on_89 rfl hl (by decide) rfl (fun ls hl => ?_)
                refine z_iinc (lv' := [(4, .int (zI ((k5 : Int) + 1))), (3, .int (zI ((sm (fun k => b01 (0 < c.2 8 k ∧ lnOf kd9 k = nb)) k5) + 1))), (7, .int (zI (((k5 : Int) % 20) + ((k5 : Int) / 20)))), (6, .int (zI ((k5 : Int) / 20))), (5, .int (zI ((k5 : Int) % 20))), (0, .ref (b 0)), (1, .int (zI kd9)), (2, .int (zI nb))]) S dX5_on_90 hl (k := 4) rfl (by decide) rfl (fun ls hl => ?_)
                refine z_goto (tgt := 5) S dX5_on_93 (by decide) ?_
                have e_10 : sm (fun k => b01 (0 < c.2 8 k ∧ lnOf kd9 k = nb)) (k5 + 1) = (sm (fun k => b01 (0 < c.2 8 k ∧ lnOf kd9 k = nb)) k5) + 1 := by grind [sm, b01, lnOf]
                exact ih5 _ (lv_sub hl [0, 1, 5, 6, 7] (by show _ = ([(4, .int (zI ((k5 + 1 : Nat) : Int))), (3, .int (zI (sm (fun k => b01 (0 < c.2 8 k ∧ lnOf kd9 k = nb)) (k5 + 1)))), (0, .ref (b 0)), (1, .int (zI kd9)), (2, .int (zI nb))] : List (Nat × Value)); rw [e_10]; first | done | rfl)) trivial
          · refine lv_iload S.1 S.2.1 dX5_on_51 (lv_at hl 1 rfl) ?_
            refine lv_iload S.1 S.2.1 dX5_on_53 (lv_at hl 0 rfl) ?_
            refine z_isub S dX5_on_55 ?_
            refine z_goto (tgt := 64) S dX5_on_56 (by decide) ?_
            refine lv_istore (lv' := [(7, .int (zI (((k5 : Int) % 20) - ((k5 : Int) / 20)))), (6, .int (zI ((k5 : Int) / 20))), (5, .int (zI ((k5 : Int) % 20))), (4, .int (zI (k5 : Int))), (3, .int (zI (sm (fun k => b01 (0 < c.2 8 k ∧ lnOf kd9 k = nb)) k5))), (0, .ref (b 0)), (1, .int (zI kd9)), (2, .int (zI nb))]) S.1 S.2.1 dX5_on_64 hl (by decide) rfl (fun ls hl => ?_)
            refine lv_iload_n S.1 S.2.1 dX5_on_66 rfl (lv_at hl 4 rfl) ?_
            refine lv_aload_n S.1 S.2.1 dX5_on_67 rfl (lv_at hl 5 rfl) ?_
            refine z_get (v := .ref (b 9)) S inA5 hK hP 0 rfl rfl 14 (by decide) fl_X5_38 rfl dX5_on_68 ?_
            refine lv_iload S.1 S.2.1 dX5_on_71 (lv_at hl 3 rfl) ?_
            refine z_iald S hK hP 9 rfl (by decide) (by omega) dX5_on_73 ?_
            have hb_11 := hI.r8 (k5 : Int)
            refine z_if_le (tgt := 87) S dX5_on_74 (by decide) (by omega) (fun h_12 => ?_) (fun h_12 => ?_)
            · refine z_iconst S dX5_on_87 ?_
              refine z_iadd S dX5_on_88 ?_
              refine lv_istore_n (lv' := [(3, .int (zI ((sm (fun k => b01 (0 < c.2 8 k ∧ lnOf kd9 k = nb)) k5) + 0))), (7, .int (zI (((k5 : Int) % 20) - ((k5 : Int) / 20)))), (6, .int (zI ((k5 : Int) / 20))), (5, .int (zI ((k5 : Int) % 20))), (4, .int (zI (k5 : Int))), (0, .ref (b 0)), (1, .int (zI kd9)), (2, .int (zI nb))]) S.1 S.2.1 dX5_on_89 rfl hl (by decide) rfl (fun ls hl => ?_)
              refine z_iinc (lv' := [(4, .int (zI ((k5 : Int) + 1))), (3, .int (zI ((sm (fun k => b01 (0 < c.2 8 k ∧ lnOf kd9 k = nb)) k5) + 0))), (7, .int (zI (((k5 : Int) % 20) - ((k5 : Int) / 20)))), (6, .int (zI ((k5 : Int) / 20))), (5, .int (zI ((k5 : Int) % 20))), (0, .ref (b 0)), (1, .int (zI kd9)), (2, .int (zI nb))]) S dX5_on_90 hl (k := 4) rfl (by decide) rfl (fun ls hl => ?_)
              refine z_goto (tgt := 5) S dX5_on_93 (by decide) ?_
              have e_13 : sm (fun k => b01 (0 < c.2 8 k ∧ lnOf kd9 k = nb)) (k5 + 1) = (sm (fun k => b01 (0 < c.2 8 k ∧ lnOf kd9 k = nb)) k5) + 0 := by grind [sm, b01, lnOf]
              exact ih5 _ (lv_sub hl [0, 1, 5, 6, 7] (by show _ = ([(4, .int (zI ((k5 + 1 : Nat) : Int))), (3, .int (zI (sm (fun k => b01 (0 < c.2 8 k ∧ lnOf kd9 k = nb)) (k5 + 1)))), (0, .ref (b 0)), (1, .int (zI kd9)), (2, .int (zI nb))] : List (Nat × Value)); rw [e_13]; first | done | rfl)) trivial
            · refine lv_iload S.1 S.2.1 dX5_on_77 (lv_at hl 0 rfl) ?_
              refine lv_iload_n S.1 S.2.1 dX5_on_79 rfl (lv_at hl 7 rfl) ?_
              refine z_icmp_ne (tgt := 87) S dX5_on_80 (by decide) (by omega) (fun h_14 => ?_) (fun h_14 => ?_)
              · refine z_iconst S dX5_on_87 ?_
                refine z_iadd S dX5_on_88 ?_
                refine lv_istore_n (lv' := [(3, .int (zI ((sm (fun k => b01 (0 < c.2 8 k ∧ lnOf kd9 k = nb)) k5) + 0))), (7, .int (zI (((k5 : Int) % 20) - ((k5 : Int) / 20)))), (6, .int (zI ((k5 : Int) / 20))), (5, .int (zI ((k5 : Int) % 20))), (4, .int (zI (k5 : Int))), (0, .ref (b 0)), (1, .int (zI kd9)), (2, .int (zI nb))]) S.1 S.2.1 dX5_on_89 rfl hl (by decide) rfl (fun ls hl => ?_)
                refine z_iinc (lv' := [(4, .int (zI ((k5 : Int) + 1))), (3, .int (zI ((sm (fun k => b01 (0 < c.2 8 k ∧ lnOf kd9 k = nb)) k5) + 0))), (7, .int (zI (((k5 : Int) % 20) - ((k5 : Int) / 20)))), (6, .int (zI ((k5 : Int) / 20))), (5, .int (zI ((k5 : Int) % 20))), (0, .ref (b 0)), (1, .int (zI kd9)), (2, .int (zI nb))]) S dX5_on_90 hl (k := 4) rfl (by decide) rfl (fun ls hl => ?_)
                refine z_goto (tgt := 5) S dX5_on_93 (by decide) ?_
                have e_15 : sm (fun k => b01 (0 < c.2 8 k ∧ lnOf kd9 k = nb)) (k5 + 1) = (sm (fun k => b01 (0 < c.2 8 k ∧ lnOf kd9 k = nb)) k5) + 0 := by grind [sm, b01, lnOf]
                exact ih5 _ (lv_sub hl [0, 1, 5, 6, 7] (by show _ = ([(4, .int (zI ((k5 + 1 : Nat) : Int))), (3, .int (zI (sm (fun k => b01 (0 < c.2 8 k ∧ lnOf kd9 k = nb)) (k5 + 1)))), (0, .ref (b 0)), (1, .int (zI kd9)), (2, .int (zI nb))] : List (Nat × Value)); rw [e_15]; first | done | rfl)) trivial
              · refine z_iconst S dX5_on_83 ?_
                refine z_goto (tgt := 88) S dX5_on_84 (by decide) ?_
                refine z_iadd S dX5_on_88 ?_
                refine lv_istore_n (lv' := [(3, .int (zI ((sm (fun k => b01 (0 < c.2 8 k ∧ lnOf kd9 k = nb)) k5) + 1))), (7, .int (zI (((k5 : Int) % 20) - ((k5 : Int) / 20)))), (6, .int (zI ((k5 : Int) / 20))), (5, .int (zI ((k5 : Int) % 20))), (4, .int (zI (k5 : Int))), (0, .ref (b 0)), (1, .int (zI kd9)), (2, .int (zI nb))]) S.1 S.2.1 dX5_on_89 rfl hl (by decide) rfl (fun ls hl => ?_)
                refine z_iinc (lv' := [(4, .int (zI ((k5 : Int) + 1))), (3, .int (zI ((sm (fun k => b01 (0 < c.2 8 k ∧ lnOf kd9 k = nb)) k5) + 1))), (7, .int (zI (((k5 : Int) % 20) - ((k5 : Int) / 20)))), (6, .int (zI ((k5 : Int) / 20))), (5, .int (zI ((k5 : Int) % 20))), (0, .ref (b 0)), (1, .int (zI kd9)), (2, .int (zI nb))]) S dX5_on_90 hl (k := 4) rfl (by decide) rfl (fun ls hl => ?_)
                refine z_goto (tgt := 5) S dX5_on_93 (by decide) ?_
                have e_16 : sm (fun k => b01 (0 < c.2 8 k ∧ lnOf kd9 k = nb)) (k5 + 1) = (sm (fun k => b01 (0 < c.2 8 k ∧ lnOf kd9 k = nb)) k5) + 1 := by grind [sm, b01, lnOf]
                exact ih5 _ (lv_sub hl [0, 1, 5, 6, 7] (by show _ = ([(4, .int (zI ((k5 + 1 : Nat) : Int))), (3, .int (zI (sm (fun k => b01 (0 < c.2 8 k ∧ lnOf kd9 k = nb)) (k5 + 1)))), (0, .ref (b 0)), (1, .int (zI kd9)), (2, .int (zI nb))] : List (Nat × Value)); rw [e_16]; first | done | rfl)) trivial
        · refine lv_iload S.1 S.2.1 dX5_on_41 (lv_at hl 1 rfl) ?_
          refine z_goto (tgt := 64) S dX5_on_43 (by decide) ?_
          refine lv_istore (lv' := [(7, .int (zI ((k5 : Int) % 20))), (6, .int (zI ((k5 : Int) / 20))), (5, .int (zI ((k5 : Int) % 20))), (4, .int (zI (k5 : Int))), (3, .int (zI (sm (fun k => b01 (0 < c.2 8 k ∧ lnOf kd9 k = nb)) k5))), (0, .ref (b 0)), (1, .int (zI kd9)), (2, .int (zI nb))]) S.1 S.2.1 dX5_on_64 hl (by decide) rfl (fun ls hl => ?_)
          refine lv_iload_n S.1 S.2.1 dX5_on_66 rfl (lv_at hl 4 rfl) ?_
          refine lv_aload_n S.1 S.2.1 dX5_on_67 rfl (lv_at hl 5 rfl) ?_
          refine z_get (v := .ref (b 9)) S inA5 hK hP 0 rfl rfl 14 (by decide) fl_X5_38 rfl dX5_on_68 ?_
          refine lv_iload S.1 S.2.1 dX5_on_71 (lv_at hl 3 rfl) ?_
          refine z_iald S hK hP 9 rfl (by decide) (by omega) dX5_on_73 ?_
          have hb_17 := hI.r8 (k5 : Int)
          refine z_if_le (tgt := 87) S dX5_on_74 (by decide) (by omega) (fun h_18 => ?_) (fun h_18 => ?_)
          · refine z_iconst S dX5_on_87 ?_
            refine z_iadd S dX5_on_88 ?_
            refine lv_istore_n (lv' := [(3, .int (zI ((sm (fun k => b01 (0 < c.2 8 k ∧ lnOf kd9 k = nb)) k5) + 0))), (7, .int (zI ((k5 : Int) % 20))), (6, .int (zI ((k5 : Int) / 20))), (5, .int (zI ((k5 : Int) % 20))), (4, .int (zI (k5 : Int))), (0, .ref (b 0)), (1, .int (zI kd9)), (2, .int (zI nb))]) S.1 S.2.1 dX5_on_89 rfl hl (by decide) rfl (fun ls hl => ?_)
            refine z_iinc (lv' := [(4, .int (zI ((k5 : Int) + 1))), (3, .int (zI ((sm (fun k => b01 (0 < c.2 8 k ∧ lnOf kd9 k = nb)) k5) + 0))), (7, .int (zI ((k5 : Int) % 20))), (6, .int (zI ((k5 : Int) / 20))), (5, .int (zI ((k5 : Int) % 20))), (0, .ref (b 0)), (1, .int (zI kd9)), (2, .int (zI nb))]) S dX5_on_90 hl (k := 4) rfl (by decide) rfl (fun ls hl => ?_)
            refine z_goto (tgt := 5) S dX5_on_93 (by decide) ?_
            have e_19 : sm (fun k => b01 (0 < c.2 8 k ∧ lnOf kd9 k = nb)) (k5 + 1) = (sm (fun k => b01 (0 < c.2 8 k ∧ lnOf kd9 k = nb)) k5) + 0 := by grind [sm, b01, lnOf]
            exact ih5 _ (lv_sub hl [0, 1, 5, 6, 7] (by show _ = ([(4, .int (zI ((k5 + 1 : Nat) : Int))), (3, .int (zI (sm (fun k => b01 (0 < c.2 8 k ∧ lnOf kd9 k = nb)) (k5 + 1)))), (0, .ref (b 0)), (1, .int (zI kd9)), (2, .int (zI nb))] : List (Nat × Value)); rw [e_19]; first | done | rfl)) trivial
          · refine lv_iload S.1 S.2.1 dX5_on_77 (lv_at hl 0 rfl) ?_
            refine lv_iload_n S.1 S.2.1 dX5_on_79 rfl (lv_at hl 7 rfl) ?_
            refine z_icmp_ne (tgt := 87) S dX5_on_80 (by decide) (by omega) (fun h_20 => ?_) (fun h_20 => ?_)
            · refine z_iconst S dX5_on_87 ?_
              refine z_iadd S dX5_on_88 ?_
              refine lv_istore_n (lv' := [(3, .int (zI ((sm (fun k => b01 (0 < c.2 8 k ∧ lnOf kd9 k = nb)) k5) + 0))), (7, .int (zI ((k5 : Int) % 20))), (6, .int (zI ((k5 : Int) / 20))), (5, .int (zI ((k5 : Int) % 20))), (4, .int (zI (k5 : Int))), (0, .ref (b 0)), (1, .int (zI kd9)), (2, .int (zI nb))]) S.1 S.2.1 dX5_on_89 rfl hl (by decide) rfl (fun ls hl => ?_)
              refine z_iinc (lv' := [(4, .int (zI ((k5 : Int) + 1))), (3, .int (zI ((sm (fun k => b01 (0 < c.2 8 k ∧ lnOf kd9 k = nb)) k5) + 0))), (7, .int (zI ((k5 : Int) % 20))), (6, .int (zI ((k5 : Int) / 20))), (5, .int (zI ((k5 : Int) % 20))), (0, .ref (b 0)), (1, .int (zI kd9)), (2, .int (zI nb))]) S dX5_on_90 hl (k := 4) rfl (by decide) rfl (fun ls hl => ?_)
              refine z_goto (tgt := 5) S dX5_on_93 (by decide) ?_
              have e_21 : sm (fun k => b01 (0 < c.2 8 k ∧ lnOf kd9 k = nb)) (k5 + 1) = (sm (fun k => b01 (0 < c.2 8 k ∧ lnOf kd9 k = nb)) k5) + 0 := by grind [sm, b01, lnOf]
              exact ih5 _ (lv_sub hl [0, 1, 5, 6, 7] (by show _ = ([(4, .int (zI ((k5 + 1 : Nat) : Int))), (3, .int (zI (sm (fun k => b01 (0 < c.2 8 k ∧ lnOf kd9 k = nb)) (k5 + 1)))), (0, .ref (b 0)), (1, .int (zI kd9)), (2, .int (zI nb))] : List (Nat × Value)); rw [e_21]; first | done | rfl)) trivial
            · refine z_iconst S dX5_on_83 ?_
              refine z_goto (tgt := 88) S dX5_on_84 (by decide) ?_
              refine z_iadd S dX5_on_88 ?_
              refine lv_istore_n (lv' := [(3, .int (zI ((sm (fun k => b01 (0 < c.2 8 k ∧ lnOf kd9 k = nb)) k5) + 1))), (7, .int (zI ((k5 : Int) % 20))), (6, .int (zI ((k5 : Int) / 20))), (5, .int (zI ((k5 : Int) % 20))), (4, .int (zI (k5 : Int))), (0, .ref (b 0)), (1, .int (zI kd9)), (2, .int (zI nb))]) S.1 S.2.1 dX5_on_89 rfl hl (by decide) rfl (fun ls hl => ?_)
              refine z_iinc (lv' := [(4, .int (zI ((k5 : Int) + 1))), (3, .int (zI ((sm (fun k => b01 (0 < c.2 8 k ∧ lnOf kd9 k = nb)) k5) + 1))), (7, .int (zI ((k5 : Int) % 20))), (6, .int (zI ((k5 : Int) / 20))), (5, .int (zI ((k5 : Int) % 20))), (0, .ref (b 0)), (1, .int (zI kd9)), (2, .int (zI nb))]) S dX5_on_90 hl (k := 4) rfl (by decide) rfl (fun ls hl => ?_)
              refine z_goto (tgt := 5) S dX5_on_93 (by decide) ?_
              have e_22 : sm (fun k => b01 (0 < c.2 8 k ∧ lnOf kd9 k = nb)) (k5 + 1) = (sm (fun k => b01 (0 < c.2 8 k ∧ lnOf kd9 k = nb)) k5) + 1 := by grind [sm, b01, lnOf]
              exact ih5 _ (lv_sub hl [0, 1, 5, 6, 7] (by show _ = ([(4, .int (zI ((k5 + 1 : Nat) : Int))), (3, .int (zI (sm (fun k => b01 (0 < c.2 8 k ∧ lnOf kd9 k = nb)) (k5 + 1)))), (0, .ref (b 0)), (1, .int (zI kd9)), (2, .int (zI nb))] : List (Nat × Value)); rw [e_22]; first | done | rfl)) trivial
      · refine lv_iload S.1 S.2.1 dX5_on_31 (lv_at hl 0 rfl) ?_
        refine z_goto (tgt := 64) S dX5_on_33 (by decide) ?_
        refine lv_istore (lv' := [(7, .int (zI ((k5 : Int) / 20))), (6, .int (zI ((k5 : Int) / 20))), (5, .int (zI ((k5 : Int) % 20))), (4, .int (zI (k5 : Int))), (3, .int (zI (sm (fun k => b01 (0 < c.2 8 k ∧ lnOf kd9 k = nb)) k5))), (0, .ref (b 0)), (1, .int (zI kd9)), (2, .int (zI nb))]) S.1 S.2.1 dX5_on_64 hl (by decide) rfl (fun ls hl => ?_)
        refine lv_iload_n S.1 S.2.1 dX5_on_66 rfl (lv_at hl 4 rfl) ?_
        refine lv_aload_n S.1 S.2.1 dX5_on_67 rfl (lv_at hl 5 rfl) ?_
        refine z_get (v := .ref (b 9)) S inA5 hK hP 0 rfl rfl 14 (by decide) fl_X5_38 rfl dX5_on_68 ?_
        refine lv_iload S.1 S.2.1 dX5_on_71 (lv_at hl 3 rfl) ?_
        refine z_iald S hK hP 9 rfl (by decide) (by omega) dX5_on_73 ?_
        have hb_23 := hI.r8 (k5 : Int)
        refine z_if_le (tgt := 87) S dX5_on_74 (by decide) (by omega) (fun h_24 => ?_) (fun h_24 => ?_)
        · refine z_iconst S dX5_on_87 ?_
          refine z_iadd S dX5_on_88 ?_
          refine lv_istore_n (lv' := [(3, .int (zI ((sm (fun k => b01 (0 < c.2 8 k ∧ lnOf kd9 k = nb)) k5) + 0))), (7, .int (zI ((k5 : Int) / 20))), (6, .int (zI ((k5 : Int) / 20))), (5, .int (zI ((k5 : Int) % 20))), (4, .int (zI (k5 : Int))), (0, .ref (b 0)), (1, .int (zI kd9)), (2, .int (zI nb))]) S.1 S.2.1 dX5_on_89 rfl hl (by decide) rfl (fun ls hl => ?_)
          refine z_iinc (lv' := [(4, .int (zI ((k5 : Int) + 1))), (3, .int (zI ((sm (fun k => b01 (0 < c.2 8 k ∧ lnOf kd9 k = nb)) k5) + 0))), (7, .int (zI ((k5 : Int) / 20))), (6, .int (zI ((k5 : Int) / 20))), (5, .int (zI ((k5 : Int) % 20))), (0, .ref (b 0)), (1, .int (zI kd9)), (2, .int (zI nb))]) S dX5_on_90 hl (k := 4) rfl (by decide) rfl (fun ls hl => ?_)
          refine z_goto (tgt := 5) S dX5_on_93 (by decide) ?_
          have e_25 : sm (fun k => b01 (0 < c.2 8 k ∧ lnOf kd9 k = nb)) (k5 + 1) = (sm (fun k => b01 (0 < c.2 8 k ∧ lnOf kd9 k = nb)) k5) + 0 := by grind [sm, b01, lnOf]
          exact ih5 _ (lv_sub hl [0, 1, 5, 6, 7] (by show _ = ([(4, .int (zI ((k5 + 1 : Nat) : Int))), (3, .int (zI (sm (fun k => b01 (0 < c.2 8 k ∧ lnOf kd9 k = nb)) (k5 + 1)))), (0, .ref (b 0)), (1, .int (zI kd9)), (2, .int (zI nb))] : List (Nat × Value)); rw [e_25]; first | done | rfl)) trivial
        · refine lv_iload S.1 S.2.1 dX5_on_77 (lv_at hl 0 rfl) ?_
          refine lv_iload_n S.1 S.2.1 dX5_on_79 rfl (lv_at hl 7 rfl) ?_
          refine z_icmp_ne (tgt := 87) S dX5_on_80 (by decide) (by omega) (fun h_26 => ?_) (fun h_26 => ?_)
          · refine z_iconst S dX5_on_87 ?_
            refine z_iadd S dX5_on_88 ?_
            refine lv_istore_n (lv' := [(3, .int (zI ((sm (fun k => b01 (0 < c.2 8 k ∧ lnOf kd9 k = nb)) k5) + 0))), (7, .int (zI ((k5 : Int) / 20))), (6, .int (zI ((k5 : Int) / 20))), (5, .int (zI ((k5 : Int) % 20))), (4, .int (zI (k5 : Int))), (0, .ref (b 0)), (1, .int (zI kd9)), (2, .int (zI nb))]) S.1 S.2.1 dX5_on_89 rfl hl (by decide) rfl (fun ls hl => ?_)
            refine z_iinc (lv' := [(4, .int (zI ((k5 : Int) + 1))), (3, .int (zI ((sm (fun k => b01 (0 < c.2 8 k ∧ lnOf kd9 k = nb)) k5) + 0))), (7, .int (zI ((k5 : Int) / 20))), (6, .int (zI ((k5 : Int) / 20))), (5, .int (zI ((k5 : Int) % 20))), (0, .ref (b 0)), (1, .int (zI kd9)), (2, .int (zI nb))]) S dX5_on_90 hl (k := 4) rfl (by decide) rfl (fun ls hl => ?_)
            refine z_goto (tgt := 5) S dX5_on_93 (by decide) ?_
            have e_27 : sm (fun k => b01 (0 < c.2 8 k ∧ lnOf kd9 k = nb)) (k5 + 1) = (sm (fun k => b01 (0 < c.2 8 k ∧ lnOf kd9 k = nb)) k5) + 0 := by grind [sm, b01, lnOf]
            exact ih5 _ (lv_sub hl [0, 1, 5, 6, 7] (by show _ = ([(4, .int (zI ((k5 + 1 : Nat) : Int))), (3, .int (zI (sm (fun k => b01 (0 < c.2 8 k ∧ lnOf kd9 k = nb)) (k5 + 1)))), (0, .ref (b 0)), (1, .int (zI kd9)), (2, .int (zI nb))] : List (Nat × Value)); rw [e_27]; first | done | rfl)) trivial
          · refine z_iconst S dX5_on_83 ?_
            refine z_goto (tgt := 88) S dX5_on_84 (by decide) ?_
            refine z_iadd S dX5_on_88 ?_
            refine lv_istore_n (lv' := [(3, .int (zI ((sm (fun k => b01 (0 < c.2 8 k ∧ lnOf kd9 k = nb)) k5) + 1))), (7, .int (zI ((k5 : Int) / 20))), (6, .int (zI ((k5 : Int) / 20))), (5, .int (zI ((k5 : Int) % 20))), (4, .int (zI (k5 : Int))), (0, .ref (b 0)), (1, .int (zI kd9)), (2, .int (zI nb))]) S.1 S.2.1 dX5_on_89 rfl hl (by decide) rfl (fun ls hl => ?_)
            refine z_iinc (lv' := [(4, .int (zI ((k5 : Int) + 1))), (3, .int (zI ((sm (fun k => b01 (0 < c.2 8 k ∧ lnOf kd9 k = nb)) k5) + 1))), (7, .int (zI ((k5 : Int) / 20))), (6, .int (zI ((k5 : Int) / 20))), (5, .int (zI ((k5 : Int) % 20))), (0, .ref (b 0)), (1, .int (zI kd9)), (2, .int (zI nb))]) S dX5_on_90 hl (k := 4) rfl (by decide) rfl (fun ls hl => ?_)
            refine z_goto (tgt := 5) S dX5_on_93 (by decide) ?_
            have e_28 : sm (fun k => b01 (0 < c.2 8 k ∧ lnOf kd9 k = nb)) (k5 + 1) = (sm (fun k => b01 (0 < c.2 8 k ∧ lnOf kd9 k = nb)) k5) + 1 := by grind [sm, b01, lnOf]
            exact ih5 _ (lv_sub hl [0, 1, 5, 6, 7] (by show _ = ([(4, .int (zI ((k5 + 1 : Nat) : Int))), (3, .int (zI (sm (fun k => b01 (0 < c.2 8 k ∧ lnOf kd9 k = nb)) (k5 + 1)))), (0, .ref (b 0)), (1, .int (zI kd9)), (2, .int (zI nb))] : List (Nat × Value)); rw [e_28]; first | done | rfl)) trivial
  · have hl : lv_has ls 8 [(4, .int (zI ((400 : Nat) : Int))), (3, .int (zI (sm (fun k => b01 (0 < c.2 8 k ∧ lnOf kd9 k = nb)) 400))), (0, .ref (b 0)), (1, .int (zI kd9)), (2, .int (zI nb))] := hl
    refine lv_iload S.1 S.2.1 dX5_on_5 (lv_at hl 0 rfl) ?_
    refine z_sipush S (by decide) dX5_on_7 ?_
    refine z_icmp_ge (tgt := 96) S dX5_on_10 (by decide) (by omega) (fun h_29 => ?_) (fun h_29 => ?_)
    · refine lv_iload_n S.1 S.2.1 dX5_on_96 rfl (lv_at hl 1 rfl) ?_
      exact z_ret S hr hlk (by first | rfl | grind) dX5_on_97
    · exact absurd h_29 (by omega)
set_option maxHeartbeats 4000000 in
set_option maxRecDepth 100000 in
theorem m_X5_lineTold (l : Launch) (D : va_G) (g : ClassId × ClassId × ClassId) (b : Nat → Nat) {B : Int} (c : CS) (hI : IM B c) (what : Int) (h0 : 0 ≤ what ∧ what ≤ 2) : RD l yX5_lineTold cX5_lineTold 8 (some .int) 1 27 D g (MW g b c) [.ref (b 0), .int (zI what)] (mLnT c what) := by
  refine z_enter RX5 (by decide) rfl (Nat.le_of_ble_eq_true rfl) ?_
  intro p e s m args below meth co S hr hlk hK hP ls hl
  have hl : lv_has ls 8 [(0, .ref (b 0)), (1, .int (zI what))] := hl
  have hs := hI.s
  refine z_iconst S dX5_lineTold_0 ?_
  refine lv_istore_n (lv' := [(2, .int (zI 0)), (0, .ref (b 0)), (1, .int (zI what))]) S.1 S.2.1 dX5_lineTold_1 rfl hl (by decide) rfl (fun ls hl => ?_)
  refine z_iconst S dX5_lineTold_2 ?_
  refine lv_istore_n (lv' := [(3, .int (zI (-1))), (2, .int (zI 0)), (0, .ref (b 0)), (1, .int (zI what))]) S.1 S.2.1 dX5_lineTold_3 rfl hl (by decide) rfl (fun ls hl => ?_)
  refine z_iconst S dX5_lineTold_4 ?_
  refine lv_istore (lv' := [(4, .int (zI (-1))), (3, .int (zI (-1))), (2, .int (zI 0)), (0, .ref (b 0)), (1, .int (zI what))]) S.1 S.2.1 dX5_lineTold_5 hl (by decide) rfl (fun ls hl => ?_)
  refine z_iconst S dX5_lineTold_7 ?_
  refine lv_istore (lv' := [(5, .int (zI 0)), (4, .int (zI (-1))), (3, .int (zI (-1))), (2, .int (zI 0)), (0, .ref (b 0)), (1, .int (zI what))]) S.1 S.2.1 dX5_lineTold_8 hl (by decide) rfl (fun ls hl => ?_)
  refine z_for (nL := 8) (4) (fun (k10 : Nat) => [(5, .int (zI (k10 : Int))), (4, .int (zI ((mLo c k10).2.2))), (3, .int (zI ((mLo c k10).2.1))), (2, .int (zI ((mLo c k10).1))), (0, .ref (b 0)), (1, .int (zI what))]) (fun k10 => True) (fun k10 hk10 hJ10 ls hl ih10 => ?_) (fun hJ10 ls hl => ?_) 0 (by omega) trivial ls (lv_sub hl [0, 1, 2, 3, 4, 5] rfl)
  · have hl : lv_has ls 8 [(5, .int (zI (k10 : Int))), (4, .int (zI ((mLo c k10).2.2))), (3, .int (zI ((mLo c k10).2.1))), (2, .int (zI ((mLo c k10).1))), (0, .ref (b 0)), (1, .int (zI what))] := hl
    have hb0 := mLo_b c k10
    refine lv_iload S.1 S.2.1 dX5_lineTold_10 (lv_at hl 0 rfl) ?_
    refine z_iconst S dX5_lineTold_12 ?_
    refine z_icmp_ge (tgt := 68) S dX5_lineTold_13 (by decide) (by omega) (fun h_1 => ?_) (fun h_1 => ?_)
    · exact absurd h_1 (by omega)
    · refine z_bipush S (by decide) dX5_lineTold_16 ?_
      refine lv_istore (lv' := [(6, .int (zI (-19))), (5, .int (zI (k10 : Int))), (4, .int (zI ((mLo c k10).2.2))), (3, .int (zI ((mLo c k10).2.1))), (2, .int (zI ((mLo c k10).1))), (0, .ref (b 0)), (1, .int (zI what))]) S.1 S.2.1 dX5_lineTold_18 hl (by decide) rfl (fun ls hl => ?_)
      have e_2 : ((0 : Nat) : Int) - 19 = (-19) := by omega
      refine z_for (nL := 8) (59) (fun (k20 : Nat) => [(6, .int (zI ((k20 : Int) - 19))), (5, .int (zI (k10 : Int))), (4, .int (zI ((mLi c (k10 : Int) (mLo c k10) k20).2.2))), (3, .int (zI ((mLi c (k10 : Int) (mLo c k10) k20).2.1))), (2, .int (zI ((mLi c (k10 : Int) (mLo c k10) k20).1))), (0, .ref (b 0)), (1, .int (zI what))]) (fun k20 => True) (fun k20 hk20 hJ20 ls hl ih20 => ?_) (fun hJ20 ls hl => ?_) 0 (by omega) trivial ls (lv_sub hl [0, 1, 2, 3, 4, 5, 6] (by show _ = ([(6, .int (zI (((0 : Nat) : Int) - 19))), (5, .int (zI (k10 : Int))), (4, .int (zI ((mLi c (k10 : Int) (mLo c k10) 0).2.2))), (3, .int (zI ((mLi c (k10 : Int) (mLo c k10) 0).2.1))), (2, .int (zI ((mLi c (k10 : Int) (mLo c k10) 0).1))), (0, .ref (b 0)), (1, .int (zI what))] : List (Nat × Value)); rw [e_2]; first | done | rfl))
      · have hl : lv_has ls 8 [(6, .int (zI ((k20 : Int) - 19))), (5, .int (zI (k10 : Int))), (4, .int (zI ((mLi c (k10 : Int) (mLo c k10) k20).2.2))), (3, .int (zI ((mLi c (k10 : Int) (mLo c k10) k20).2.1))), (2, .int (zI ((mLi c (k10 : Int) (mLo c k10) k20).1))), (0, .ref (b 0)), (1, .int (zI what))] := hl
        have hb1 := mLi_b c (k10 : Int) hb0 k20
        have hb2 := mOn_b c (k10 : Int) ((k20 : Int) - 19)
        refine lv_iload S.1 S.2.1 dX5_lineTold_20 (lv_at hl 0 rfl) ?_
        refine z_bipush S (by decide) dX5_lineTold_22 ?_
        refine z_icmp_ge (tgt := 62) S dX5_lineTold_24 (by decide) (by omega) (fun h_3 => ?_) (fun h_3 => ?_)
        · exact absurd h_3 (by omega)
        · refine lv_aload_n S.1 S.2.1 dX5_lineTold_27 rfl (lv_at hl 5 rfl) ?_
          refine lv_iload S.1 S.2.1 dX5_lineTold_28 (lv_at hl 1 rfl) ?_
          refine lv_iload S.1 S.2.1 dX5_lineTold_30 (lv_at hl 0 rfl) ?_
          refine z_rV (As := [.int (zI (k10 : Int)), .int (zI ((k20 : Int) - 19))]) (rest := []) S (m_X5_on l D g b c hI (k10 : Int) ((k20 : Int) - 19) (by omega) (by omega)) ml_X5_169 im_X5_on se_X5_on ini_X5 cd_X5_on ds_X5_on ⟨Nat.le_of_ble_eq_true rfl, Nat.le_of_ble_eq_true rfl⟩ hK hP (va_recv hK.1 hP (ci := 5) (q0 := 0) rfl rfl) rfl hl.1 rfl (Nat.le_of_ble_eq_true rfl) ⟨Nat.zero_le _, Nat.zero_le _⟩ dX5_lineTold_32 ?_
          refine lv_istore (lv' := [(7, .int (zI (mOn c (k10 : Int) ((k20 : Int) - 19)))), (6, .int (zI ((k20 : Int) - 19))), (5, .int (zI (k10 : Int))), (4, .int (zI ((mLi c (k10 : Int) (mLo c k10) k20).2.2))), (3, .int (zI ((mLi c (k10 : Int) (mLo c k10) k20).2.1))), (2, .int (zI ((mLi c (k10 : Int) (mLo c k10) k20).1))), (0, .ref (b 0)), (1, .int (zI what))]) S.1 S.2.1 dX5_lineTold_35 hl (by decide) rfl (fun ls hl => ?_)
          refine lv_iload S.1 S.2.1 dX5_lineTold_37 (lv_at hl 0 rfl) ?_
          refine lv_iload_n S.1 S.2.1 dX5_lineTold_39 rfl (lv_at hl 5 rfl) ?_
          refine z_icmp_gt (tgt := 46) S dX5_lineTold_40 (by decide) (by omega) (fun h_4 => ?_) (fun h_4 => ?_)
          · refine lv_iload S.1 S.2.1 dX5_lineTold_46 (lv_at hl 0 rfl) ?_
            refine lv_istore_n (lv' := [(2, .int (zI (mOn c (k10 : Int) ((k20 : Int) - 19)))), (7, .int (zI (mOn c (k10 : Int) ((k20 : Int) - 19)))), (6, .int (zI ((k20 : Int) - 19))), (5, .int (zI (k10 : Int))), (4, .int (zI ((mLi c (k10 : Int) (mLo c k10) k20).2.2))), (3, .int (zI ((mLi c (k10 : Int) (mLo c k10) k20).2.1))), (0, .ref (b 0)), (1, .int (zI what))]) S.1 S.2.1 dX5_lineTold_48 rfl hl (by decide) rfl (fun ls hl => ?_)
            refine lv_iload S.1 S.2.1 dX5_lineTold_49 (lv_at hl 3 rfl) ?_
            refine lv_istore_n (lv' := [(3, .int (zI (k10 : Int))), (2, .int (zI (mOn c (k10 : Int) ((k20 : Int) - 19)))), (7, .int (zI (mOn c (k10 : Int) ((k20 : Int) - 19)))), (6, .int (zI ((k20 : Int) - 19))), (5, .int (zI (k10 : Int))), (4, .int (zI ((mLi c (k10 : Int) (mLo c k10) k20).2.2))), (0, .ref (b 0)), (1, .int (zI what))]) S.1 S.2.1 dX5_lineTold_51 rfl hl (by decide) rfl (fun ls hl => ?_)
            refine lv_iload S.1 S.2.1 dX5_lineTold_52 (lv_at hl 3 rfl) ?_
            refine lv_istore (lv' := [(4, .int (zI ((k20 : Int) - 19))), (3, .int (zI (k10 : Int))), (2, .int (zI (mOn c (k10 : Int) ((k20 : Int) - 19)))), (7, .int (zI (mOn c (k10 : Int) ((k20 : Int) - 19)))), (6, .int (zI ((k20 : Int) - 19))), (5, .int (zI (k10 : Int))), (0, .ref (b 0)), (1, .int (zI what))]) S.1 S.2.1 dX5_lineTold_54 hl (by decide) rfl (fun ls hl => ?_)
            refine z_iinc (lv' := [(6, .int (zI (((k20 : Int) - 19) + 1))), (4, .int (zI ((k20 : Int) - 19))), (3, .int (zI (k10 : Int))), (2, .int (zI (mOn c (k10 : Int) ((k20 : Int) - 19)))), (7, .int (zI (mOn c (k10 : Int) ((k20 : Int) - 19)))), (5, .int (zI (k10 : Int))), (0, .ref (b 0)), (1, .int (zI what))]) S dX5_lineTold_56 hl (k := 4) rfl (by decide) rfl (fun ls hl => ?_)
            refine z_goto (tgt := 20) S dX5_lineTold_59 (by decide) ?_
            have e_5 : ((k20 + 1 : Nat) : Int) - 19 = ((k20 : Int) - 19) + 1 := by omega
            have e_6 : (mLi c (k10 : Int) (mLo c k10) (k20 + 1)).2.2 = (k20 : Int) - 19 := by grind [mLi]
            have e_7 : (mLi c (k10 : Int) (mLo c k10) (k20 + 1)).2.1 = (k10 : Int) := by grind [mLi]
            have e_8 : (mLi c (k10 : Int) (mLo c k10) (k20 + 1)).1 = mOn c (k10 : Int) ((k20 : Int) - 19) := by grind [mLi]
            exact ih20 _ (lv_sub hl [0, 5, 1, 2, 3, 6, 7] (by show _ = ([(6, .int (zI (((k20 + 1 : Nat) : Int) - 19))), (5, .int (zI (k10 : Int))), (4, .int (zI ((mLi c (k10 : Int) (mLo c k10) (k20 + 1)).2.2))), (3, .int (zI ((mLi c (k10 : Int) (mLo c k10) (k20 + 1)).2.1))), (2, .int (zI ((mLi c (k10 : Int) (mLo c k10) (k20 + 1)).1))), (0, .ref (b 0)), (1, .int (zI what))] : List (Nat × Value)); rw [e_5, e_6, e_7, e_8]; first | done | rfl)) trivial
          · refine z_goto (tgt := 56) S dX5_lineTold_43 (by decide) ?_
            refine z_iinc (lv' := [(6, .int (zI (((k20 : Int) - 19) + 1))), (7, .int (zI (mOn c (k10 : Int) ((k20 : Int) - 19)))), (5, .int (zI (k10 : Int))), (4, .int (zI ((mLi c (k10 : Int) (mLo c k10) k20).2.2))), (3, .int (zI ((mLi c (k10 : Int) (mLo c k10) k20).2.1))), (2, .int (zI ((mLi c (k10 : Int) (mLo c k10) k20).1))), (0, .ref (b 0)), (1, .int (zI what))]) S dX5_lineTold_56 hl (k := 1) rfl (by decide) rfl (fun ls hl => ?_)
            refine z_goto (tgt := 20) S dX5_lineTold_59 (by decide) ?_
            have e_9 : ((k20 + 1 : Nat) : Int) - 19 = ((k20 : Int) - 19) + 1 := by omega
            have e_10 : (mLi c (k10 : Int) (mLo c k10) (k20 + 1)).2.2 = (mLi c (k10 : Int) (mLo c k10) k20).2.2 := by grind [mLi]
            have e_11 : (mLi c (k10 : Int) (mLo c k10) (k20 + 1)).2.1 = (mLi c (k10 : Int) (mLo c k10) k20).2.1 := by grind [mLi]
            have e_12 : (mLi c (k10 : Int) (mLo c k10) (k20 + 1)).1 = (mLi c (k10 : Int) (mLo c k10) k20).1 := by grind [mLi]
            exact ih20 _ (lv_sub hl [0, 2, 3, 4, 5, 6, 7] (by show _ = ([(6, .int (zI (((k20 + 1 : Nat) : Int) - 19))), (5, .int (zI (k10 : Int))), (4, .int (zI ((mLi c (k10 : Int) (mLo c k10) (k20 + 1)).2.2))), (3, .int (zI ((mLi c (k10 : Int) (mLo c k10) (k20 + 1)).2.1))), (2, .int (zI ((mLi c (k10 : Int) (mLo c k10) (k20 + 1)).1))), (0, .ref (b 0)), (1, .int (zI what))] : List (Nat × Value)); rw [e_9, e_10, e_11, e_12]; first | done | rfl)) trivial
      · have hl : lv_has ls 8 [(6, .int (zI (((59 : Nat) : Int) - 19))), (5, .int (zI (k10 : Int))), (4, .int (zI ((mLi c (k10 : Int) (mLo c k10) 59).2.2))), (3, .int (zI ((mLi c (k10 : Int) (mLo c k10) 59).2.1))), (2, .int (zI ((mLi c (k10 : Int) (mLo c k10) 59).1))), (0, .ref (b 0)), (1, .int (zI what))] := hl
        refine lv_iload S.1 S.2.1 dX5_lineTold_20 (lv_at hl 0 rfl) ?_
        refine z_bipush S (by decide) dX5_lineTold_22 ?_
        refine z_icmp_ge (tgt := 62) S dX5_lineTold_24 (by decide) (by omega) (fun h_13 => ?_) (fun h_13 => ?_)
        · refine z_iinc (lv' := [(5, .int (zI ((k10 : Int) + 1))), (6, .int (zI (((59 : Nat) : Int) - 19))), (4, .int (zI ((mLi c (k10 : Int) (mLo c k10) 59).2.2))), (3, .int (zI ((mLi c (k10 : Int) (mLo c k10) 59).2.1))), (2, .int (zI ((mLi c (k10 : Int) (mLo c k10) 59).1))), (0, .ref (b 0)), (1, .int (zI what))]) S dX5_lineTold_62 hl (k := 1) rfl (by decide) rfl (fun ls hl => ?_)
          refine z_goto (tgt := 10) S dX5_lineTold_65 (by decide) ?_
          exact ih10 _ (lv_sub hl [0, 2, 3, 4, 5, 6] rfl) trivial
        · exact absurd h_13 (by omega)
  · have hl : lv_has ls 8 [(5, .int (zI ((4 : Nat) : Int))), (4, .int (zI ((mLo c 4).2.2))), (3, .int (zI ((mLo c 4).2.1))), (2, .int (zI ((mLo c 4).1))), (0, .ref (b 0)), (1, .int (zI what))] := hl
    refine lv_iload S.1 S.2.1 dX5_lineTold_10 (lv_at hl 0 rfl) ?_
    refine z_iconst S dX5_lineTold_12 ?_
    refine z_icmp_ge (tgt := 68) S dX5_lineTold_13 (by decide) (by omega) (fun h_14 => ?_) (fun h_14 => ?_)
    · refine lv_iload_n S.1 S.2.1 dX5_lineTold_68 rfl (lv_at hl 5 rfl) ?_
      refine z_if_ne (tgt := 76) S dX5_lineTold_69 (by decide) (by omega) (fun h_15 => ?_) (fun h_15 => ?_)
      · refine lv_iload_n S.1 S.2.1 dX5_lineTold_76 rfl (lv_at hl 5 rfl) ?_
        refine z_iconst S dX5_lineTold_77 ?_
        refine z_icmp_ne (tgt := 85) S dX5_lineTold_78 (by decide) (by omega) (fun h_16 => ?_) (fun h_16 => ?_)
        · refine lv_iload S.1 S.2.1 dX5_lineTold_85 (lv_at hl 1 rfl) ?_
          exact z_ret S hr hlk (by grind [mLnT]) dX5_lineTold_87
        · refine lv_iload_n S.1 S.2.1 dX5_lineTold_81 rfl (lv_at hl 2 rfl) ?_
          refine z_goto (tgt := 87) S dX5_lineTold_82 (by decide) ?_
          exact z_ret S hr hlk (by grind [mLnT]) dX5_lineTold_87
      · refine lv_iload_n S.1 S.2.1 dX5_lineTold_72 rfl (lv_at hl 3 rfl) ?_
        refine z_goto (tgt := 87) S dX5_lineTold_73 (by decide) ?_
        exact z_ret S hr hlk (by grind [mLnT]) dX5_lineTold_87
    · exact absurd h_14 (by omega)
set_option maxHeartbeats 4000000 in
set_option maxRecDepth 100000 in
theorem m_X5_bestOf (l : Launch) (D : va_G) (g : ClassId × ClassId × ClassId) (b : Nat → Nat) {B : Int} (c : CS) (hI : IM B c) (d : Int) (what : Int) (h0 : 0 ≤ d ∧ d < 5) (h1 : 0 ≤ what ∧ what ≤ 2) : RD l yX5_bestOf cX5_bestOf 5 (some .int) 2 47 D g (MW g b c) [.ref (b 0), .int (zI d), .int (zI what)] (mBsT c d what) := by
  refine z_enter RX5 (by decide) rfl (Nat.le_of_ble_eq_true rfl) ?_
  intro p e s m args below meth co S hr hlk hK hP ls hl
  have hl : lv_has ls 5 [(0, .ref (b 0)), (1, .int (zI d)), (2, .int (zI what))] := hl
  have hs := hI.s
  refine z_iconst S dX5_bestOf_0 ?_
  refine lv_istore_n (lv' := [(3, .int (zI 0)), (0, .ref (b 0)), (1, .int (zI d)), (2, .int (zI what))]) S.1 S.2.1 dX5_bestOf_1 rfl hl (by decide) rfl (fun ls hl => ?_)
  refine z_iconst S dX5_bestOf_2 ?_
  refine lv_istore (lv' := [(4, .int (zI 1)), (3, .int (zI 0)), (0, .ref (b 0)), (1, .int (zI d)), (2, .int (zI what))]) S.1 S.2.1 dX5_bestOf_3 hl (by decide) rfl (fun ls hl => ?_)
  have e_1 : fm (mBnd c d) 1 = 0 := by exact fm_1 _
  refine z_for (nL := 5) (400) (fun (k5 : Nat) => [(4, .int (zI (k5 : Int))), (3, .int (zI (fm (mBnd c d) k5))), (0, .ref (b 0)), (1, .int (zI d)), (2, .int (zI what))]) (fun k5 => 1 ≤ k5) (fun k5 hk5 hJ5 ls hl ih5 => ?_) (fun hJ5 ls hl => ?_) 1 (by omega) (by omega) ls (lv_sub hl [0, 1, 2, 3, 4] (by show _ = ([(4, .int (zI ((1 : Nat) : Int))), (3, .int (zI (fm (mBnd c d) 1))), (0, .ref (b 0)), (1, .int (zI d)), (2, .int (zI what))] : List (Nat × Value)); rw [e_1]; first | done | rfl))
  · have hl : lv_has ls 5 [(4, .int (zI (k5 : Int))), (3, .int (zI (fm (mBnd c d) k5))), (0, .ref (b 0)), (1, .int (zI d)), (2, .int (zI what))] := hl
    have hJ5 : 1 ≤ k5 := hJ5
    have hb0 := fm_b (mBnd c d) k5
    have hb1 := mBnd_b hI d (k5 : Int)
    have hb2 := mBnd_b hI d (fm (mBnd c d) k5)
    refine lv_iload S.1 S.2.1 dX5_bestOf_5 (lv_at hl 0 rfl) ?_
    refine z_sipush S (by decide) dX5_bestOf_7 ?_
    refine z_icmp_ge (tgt := 38) S dX5_bestOf_10 (by decide) (by omega) (fun h_2 => ?_) (fun h_2 => ?_)
    · exact absurd h_2 (by omega)
    · refine lv_aload_n S.1 S.2.1 dX5_bestOf_13 rfl (lv_at hl 2 rfl) ?_
      refine lv_iload_n S.1 S.2.1 dX5_bestOf_14 rfl (lv_at hl 3 rfl) ?_
      refine lv_iload S.1 S.2.1 dX5_bestOf_15 (lv_at hl 0 rfl) ?_
      refine z_rV (As := [.int (zI d), .int (zI (k5 : Int))]) (rest := []) S (m_X5_bends l D g b c hI d (k5 : Int) (by omega) (by omega)) ml_X5_99 im_X5_bends se_X5_bends ini_X5 cd_X5_bends ds_X5_bends ⟨Nat.le_of_ble_eq_true rfl, Nat.le_of_ble_eq_true rfl⟩ hK hP (va_recv hK.1 hP (ci := 5) (q0 := 0) rfl rfl) rfl hl.1 rfl (Nat.le_of_ble_eq_true rfl) ⟨Nat.zero_le _, Nat.zero_le _⟩ dX5_bestOf_17 ?_
      refine lv_aload_n S.1 S.2.1 dX5_bestOf_20 rfl (lv_at hl 2 rfl) ?_
      refine lv_iload_n S.1 S.2.1 dX5_bestOf_21 rfl (lv_at hl 3 rfl) ?_
      refine lv_iload_n S.1 S.2.1 dX5_bestOf_22 rfl (lv_at hl 1 rfl) ?_
      refine z_rV (As := [.int (zI d), .int (zI (fm (mBnd c d) k5))]) (rest := [.int (zI (mBnd c d (k5 : Int)))]) S (m_X5_bends l D g b c hI d (fm (mBnd c d) k5) (by omega) (by omega)) ml_X5_99 im_X5_bends se_X5_bends ini_X5 cd_X5_bends ds_X5_bends ⟨Nat.le_of_ble_eq_true rfl, Nat.le_of_ble_eq_true rfl⟩ hK hP (va_recv hK.1 hP (ci := 5) (q0 := 0) rfl rfl) rfl hl.1 rfl (Nat.le_of_ble_eq_true rfl) ⟨Nat.zero_le _, Nat.zero_le _⟩ dX5_bestOf_23 ?_
      refine z_icmp_le (tgt := 32) S dX5_bestOf_26 (by decide) (by omega) (fun h_3 => ?_) (fun h_3 => ?_)
      · refine z_iinc (lv' := [(4, .int (zI ((k5 : Int) + 1))), (3, .int (zI (fm (mBnd c d) k5))), (0, .ref (b 0)), (1, .int (zI d)), (2, .int (zI what))]) S dX5_bestOf_32 hl (k := 0) rfl (by decide) rfl (fun ls hl => ?_)
        refine z_goto (tgt := 5) S dX5_bestOf_35 (by decide) ?_
        have e_4 : fm (mBnd c d) (k5 + 1) = fm (mBnd c d) k5 := by grind [fm]
        exact ih5 _ (lv_sub hl [0, 1, 2, 3, 4] (by show _ = ([(4, .int (zI ((k5 + 1 : Nat) : Int))), (3, .int (zI (fm (mBnd c d) (k5 + 1)))), (0, .ref (b 0)), (1, .int (zI d)), (2, .int (zI what))] : List (Nat × Value)); rw [e_4]; first | done | rfl)) (by omega)
      · refine lv_iload S.1 S.2.1 dX5_bestOf_29 (lv_at hl 0 rfl) ?_
        refine lv_istore_n (lv' := [(3, .int (zI (k5 : Int))), (4, .int (zI (k5 : Int))), (0, .ref (b 0)), (1, .int (zI d)), (2, .int (zI what))]) S.1 S.2.1 dX5_bestOf_31 rfl hl (by decide) rfl (fun ls hl => ?_)
        refine z_iinc (lv' := [(4, .int (zI ((k5 : Int) + 1))), (3, .int (zI (k5 : Int))), (0, .ref (b 0)), (1, .int (zI d)), (2, .int (zI what))]) S dX5_bestOf_32 hl (k := 1) rfl (by decide) rfl (fun ls hl => ?_)
        refine z_goto (tgt := 5) S dX5_bestOf_35 (by decide) ?_
        have e_5 : fm (mBnd c d) (k5 + 1) = (k5 : Int) := by grind [fm]
        exact ih5 _ (lv_sub hl [0, 1, 2, 3, 4] (by show _ = ([(4, .int (zI ((k5 + 1 : Nat) : Int))), (3, .int (zI (fm (mBnd c d) (k5 + 1)))), (0, .ref (b 0)), (1, .int (zI d)), (2, .int (zI what))] : List (Nat × Value)); rw [e_5]; first | done | rfl)) (by omega)
  · have hl : lv_has ls 5 [(4, .int (zI ((400 : Nat) : Int))), (3, .int (zI (fm (mBnd c d) 400))), (0, .ref (b 0)), (1, .int (zI d)), (2, .int (zI what))] := hl
    have hJ5 : 1 ≤ 400 := hJ5
    have hb0 := fm_b (mBnd c d) 400
    refine lv_iload S.1 S.2.1 dX5_bestOf_5 (lv_at hl 0 rfl) ?_
    refine z_sipush S (by decide) dX5_bestOf_7 ?_
    refine z_icmp_ge (tgt := 38) S dX5_bestOf_10 (by decide) (by omega) (fun h_6 => ?_) (fun h_6 => ?_)
    · refine lv_iload_n S.1 S.2.1 dX5_bestOf_38 rfl (lv_at hl 4 rfl) ?_
      refine z_if_ne (tgt := 49) S dX5_bestOf_39 (by decide) (by omega) (fun h_7 => ?_) (fun h_7 => ?_)
      · refine lv_iload_n S.1 S.2.1 dX5_bestOf_49 rfl (lv_at hl 4 rfl) ?_
        refine z_iconst S dX5_bestOf_50 ?_
        refine z_icmp_ne (tgt := 61) S dX5_bestOf_51 (by decide) (by omega) (fun h_8 => ?_) (fun h_8 => ?_)
        · refine lv_aload_n S.1 S.2.1 dX5_bestOf_61 rfl (lv_at hl 2 rfl) ?_
          refine lv_iload_n S.1 S.2.1 dX5_bestOf_62 rfl (lv_at hl 3 rfl) ?_
          refine lv_iload_n S.1 S.2.1 dX5_bestOf_63 rfl (lv_at hl 1 rfl) ?_
          refine z_rV (As := [.int (zI d), .int (zI (fm (mBnd c d) 400))]) (rest := []) S (m_X5_bends l D g b c hI d (fm (mBnd c d) 400) (by omega) (by omega)) ml_X5_99 im_X5_bends se_X5_bends ini_X5 cd_X5_bends ds_X5_bends ⟨Nat.le_of_ble_eq_true rfl, Nat.le_of_ble_eq_true rfl⟩ hK hP (va_recv hK.1 hP (ci := 5) (q0 := 0) rfl rfl) rfl hl.1 rfl (Nat.le_of_ble_eq_true rfl) ⟨Nat.zero_le _, Nat.zero_le _⟩ dX5_bestOf_64 ?_
          exact z_ret S hr hlk (by grind [mBsT, mBst]) dX5_bestOf_67
        · refine lv_iload_n S.1 S.2.1 dX5_bestOf_54 rfl (lv_at hl 1 rfl) ?_
          refine z_bipush S (by decide) dX5_bestOf_55 ?_
          refine z_idivn S (by omega) dX5_bestOf_57 ?_
          refine z_goto (tgt := 67) S dX5_bestOf_58 (by decide) ?_
          exact z_ret S hr hlk (by grind [mBsT, mBst]) dX5_bestOf_67
      · refine lv_iload_n S.1 S.2.1 dX5_bestOf_42 rfl (lv_at hl 1 rfl) ?_
        refine z_bipush S (by decide) dX5_bestOf_43 ?_
        refine z_iremn S (by omega) dX5_bestOf_45 ?_
        refine z_goto (tgt := 67) S dX5_bestOf_46 (by decide) ?_
        exact z_ret S hr hlk (by grind [mBsT, mBst]) dX5_bestOf_67
    · exact absurd h_6 (by omega)
