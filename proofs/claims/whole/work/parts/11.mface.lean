set_option maxHeartbeats 4000000 in
set_option maxRecDepth 100000 in
theorem m_X5_pay (l : Launch) (D : va_G) (g : ClassId × ClassId × ClassId) (b : Nat → Nat) {B : Int} (c : CS) (hI : IM B c) (hda : CD 14 b) (q : Int) (h0 : 0 ≤ q ∧ q < 10) (h1 : B ≤ 900000000) : WRv l yX5_pay cX5_pay 7 none 3 69 D g (CA 14 b) (MW g b c) [.ref (b 0), .int (zI q)] (MW g b (mPay c q)) := by
  refine z_enter RX5 (by decide) rfl (Nat.le_of_ble_eq_true rfl) ?_
  intro p e s m args below meth co S hr hlk hK hP ls hl
  have hl : lv_has ls 7 [(0, .ref (b 0)), (1, .int (zI q))] := hl
  have hs := hI.s
  have hS : va_S (CA 14 b) s.heap s.heap [] := va_S.rf
  have hb0 := b01_01 (mF c q)
  refine lv_aload_n S.1 S.2.1 dX5_pay_0 rfl (lv_at hl 0 rfl) ?_
  refine lv_iload_n S.1 S.2.1 dX5_pay_1 rfl (lv_at hl 1 rfl) ?_
  refine z_rV (As := [.int (zI q)]) (rest := []) S (m_X5_hasFound l D g b c hI q (by omega)) ml_X5_115 im_X5_hasFound se_X5_hasFound ini_X5 cd_X5_hasFound ds_X5_hasFound ⟨Nat.le_of_ble_eq_true rfl, Nat.le_of_ble_eq_true rfl⟩ hK hP (va_recv hK.1 hP (ci := 5) (q0 := 0) rfl rfl) rfl hl.1 rfl (Nat.le_of_ble_eq_true rfl) ⟨Nat.zero_le _, Nat.zero_le _⟩ dX5_pay_2 ?_
  refine lv_istore_n (lv' := [(2, .int (zI (b01 (mF c q)))), (0, .ref (b 0)), (1, .int (zI q))]) S.1 S.2.1 dX5_pay_5 rfl hl (by decide) rfl (fun ls hl => ?_)
  refine lv_aload_n S.1 S.2.1 dX5_pay_6 rfl (lv_at hl 1 rfl) ?_
  refine lv_iload_n S.1 S.2.1 dX5_pay_7 rfl (lv_at hl 2 rfl) ?_
  refine z_iconst S dX5_pay_8 ?_
  refine z_rV (As := [.int (zI q), .int (zI 1)]) (rest := []) S (m_X5_betOn l D g b c hI q 1 (by omega) (by omega)) ml_X5_121 im_X5_betOn se_X5_betOn ini_X5 cd_X5_betOn ds_X5_betOn ⟨Nat.le_of_ble_eq_true rfl, Nat.le_of_ble_eq_true rfl⟩ hK hP (va_recv hK.1 hP (ci := 5) (q0 := 0) rfl rfl) rfl hl.1 rfl (Nat.le_of_ble_eq_true rfl) ⟨Nat.zero_le _, Nat.zero_le _⟩ dX5_pay_9 ?_
  refine lv_aload_n S.1 S.2.1 dX5_pay_12 rfl (lv_at hl 1 rfl) ?_
  refine lv_iload_n S.1 S.2.1 dX5_pay_13 rfl (lv_at hl 2 rfl) ?_
  refine z_iconst S dX5_pay_14 ?_
  refine z_rV (As := [.int (zI q), .int (zI 0)]) (rest := [.int (zI (mBO c q 1 5))]) S (m_X5_betOn l D g b c hI q 0 (by omega) (by omega)) ml_X5_121 im_X5_betOn se_X5_betOn ini_X5 cd_X5_betOn ds_X5_betOn ⟨Nat.le_of_ble_eq_true rfl, Nat.le_of_ble_eq_true rfl⟩ hK hP (va_recv hK.1 hP (ci := 5) (q0 := 0) rfl rfl) rfl hl.1 rfl (Nat.le_of_ble_eq_true rfl) ⟨Nat.zero_le _, Nat.zero_le _⟩ dX5_pay_15 ?_
  refine z_iadd S dX5_pay_18 ?_
  refine lv_istore_n (lv' := [(3, .int (zI ((mBO c q 1 5) + (mBO c q 0 5)))), (2, .int (zI (b01 (mF c q)))), (0, .ref (b 0)), (1, .int (zI q))]) S.1 S.2.1 dX5_pay_19 rfl hl (by decide) rfl (fun ls hl => ?_)
  refine z_iconst S dX5_pay_20 ?_
  refine lv_istore (lv' := [(4, .int (zI 0)), (3, .int (zI ((mBO c q 1 5) + (mBO c q 0 5)))), (2, .int (zI (b01 (mF c q)))), (0, .ref (b 0)), (1, .int (zI q))]) S.1 S.2.1 dX5_pay_21 hl (by decide) rfl (fun ls hl => ?_)
  refine z_forW (D := D) (nL := 7) (A := (CA 14 b)) (H0 := s.heap) ((c.1 4).toNat) (fun (k23 : Nat) => [(4, .int (zI (k23 : Int))), (3, .int (zI (mLft c q (b01 (mF c q)) k23))), (2, .int (zI (b01 (mF c q)))), (0, .ref (b 0)), (1, .int (zI q))]) (fun (k23 : Nat) => MW g b (mPyD c q (b01 (mF c q)) k23)) (fun k23 => True) (fun k23 hk23 hJ23 H locs hP hS ls hl ih23 => ?_) (fun hJ23 H locs hP hS ls hl => ?_) 0 (by omega) trivial _ _ hP hS ls (lv_sub hl [0, 1, 2, 3, 4] rfl)
  · have hl : lv_has ls 7 [(4, .int (zI (k23 : Int))), (3, .int (zI (mLft c q (b01 (mF c q)) k23))), (2, .int (zI (b01 (mF c q)))), (0, .ref (b 0)), (1, .int (zI q))] := hl
    have hP : va_P D vwCl (MW g b (mPyD c q (b01 (mF c q)) k23)) H := hP
    have hb1 : (mPyD c q (b01 (mF c q)) k23).1 4 = c.1 4 := congrFun (mPyD_c c q (b01 (mF c q)) k23).1 4
    refine lv_iload S.1 S.2.1 dX5_pay_23 (lv_at hl 0 rfl) ?_
    refine lv_aload_n S.1 S.2.1 dX5_pay_25 rfl (lv_at hl 3 rfl) ?_
    refine z_get (v := .int (zI ((mPyD c q (b01 (mF c q)) k23).1 4))) S inA5 hK hP 0 rfl rfl 7 (by decide) fl_X5_60 rfl dX5_pay_26 ?_
    refine z_icmp_ge (tgt := 125) S dX5_pay_29 (by decide) (by omega) (fun h_1 => ?_) (fun h_1 => ?_)
    · exact absurd h_1 (by omega)
    · refine lv_aload_n S.1 S.2.1 dX5_pay_32 rfl (lv_at hl 3 rfl) ?_
      refine lv_iload_n S.1 S.2.1 dX5_pay_33 rfl (lv_at hl 4 rfl) ?_
      refine lv_iload S.1 S.2.1 dX5_pay_34 (lv_at hl 0 rfl) ?_
      refine lv_iload_n S.1 S.2.1 dX5_pay_36 rfl (lv_at hl 2 rfl) ?_
      have hb_2 := b01_01 (mF c q)
      refine z_rV (As := [.int (zI q), .int (zI (k23 : Int)), .int (zI (b01 (mF c q)))]) (rest := []) S (m_X5_share l D g b (mPyD c q (b01 (mF c q)) k23) (mPyD_IM hI h1 q (b01 (mF c q)) k23) q (k23 : Int) (b01 (mF c q)) (by omega) (by omega) (by omega)) ml_X5_125 im_X5_share se_X5_share ini_X5 cd_X5_share ds_X5_share ⟨Nat.le_of_ble_eq_true rfl, Nat.le_of_ble_eq_true rfl⟩ hK hP (va_recv hK.1 hP (ci := 5) (q0 := 0) rfl rfl) rfl hl.1 rfl (Nat.le_of_ble_eq_true rfl) ⟨Nat.zero_le _, Nat.zero_le _⟩ dX5_pay_37 ?_
      refine lv_istore (lv' := [(5, .int (zI (mSh (mPyD c q (b01 (mF c q)) k23) q (k23 : Int) (b01 (mF c q))))), (4, .int (zI (k23 : Int))), (3, .int (zI (mLft c q (b01 (mF c q)) k23))), (2, .int (zI (b01 (mF c q)))), (0, .ref (b 0)), (1, .int (zI q))]) S.1 S.2.1 dX5_pay_40 hl (by decide) rfl (fun ls hl => ?_)
      refine lv_iload_n S.1 S.2.1 dX5_pay_42 rfl (lv_at hl 2 rfl) ?_
      refine lv_iload S.1 S.2.1 dX5_pay_43 (lv_at hl 0 rfl) ?_
      refine z_isub S dX5_pay_45 ?_
      refine lv_istore_n (lv' := [(3, .int (zI ((mLft c q (b01 (mF c q)) k23) - (mSh (mPyD c q (b01 (mF c q)) k23) q (k23 : Int) (b01 (mF c q)))))), (5, .int (zI (mSh (mPyD c q (b01 (mF c q)) k23) q (k23 : Int) (b01 (mF c q))))), (4, .int (zI (k23 : Int))), (2, .int (zI (b01 (mF c q)))), (0, .ref (b 0)), (1, .int (zI q))]) S.1 S.2.1 dX5_pay_46 rfl hl (by decide) rfl (fun ls hl => ?_)
      refine lv_aload_n S.1 S.2.1 dX5_pay_47 rfl (lv_at hl 4 rfl) ?_
      refine z_get (v := .ref (b 6)) S inA5 hK hP 0 rfl rfl 10 (by decide) fl_X5_29 rfl dX5_pay_48 ?_
      refine lv_iload S.1 S.2.1 dX5_pay_51 (lv_at hl 2 rfl) ?_
      refine lv_dup2_11 S.1 S.2.1 dX5_pay_53 rfl rfl ?_
      refine z_iald S hK hP 6 rfl (by decide) (by omega) dX5_pay_54 ?_
      have hb_3 := (mPyD_IM hI h1 q (b01 (mF c q)) k23).r5 (k23 : Int)
      refine lv_iload S.1 S.2.1 dX5_pay_55 (lv_at hl 1 rfl) ?_
      refine z_iadd S dX5_pay_57 ?_
      refine z_iast S hK hP (MW_D hda _) hS 6 rfl (by decide) (by omega) dX5_pay_58 (fun H locs hP hS => ?_)
      have hP : va_P D vwCl (MW g b (sA (mPyD c q (b01 (mF c q)) k23) 5 (upZ ((mPyD c q (b01 (mF c q)) k23).2 5) (k23 : Int) (((mPyD c q (b01 (mF c q)) k23).2 5 (k23 : Int)) + (mSh (mPyD c q (b01 (mF c q)) k23) q (k23 : Int) (b01 (mF c q))))))) H := hP
      refine lv_aload_n S.1 S.2.1 dX5_pay_59 rfl (lv_at hl 4 rfl) ?_
      refine z_get (v := .ref (b 13)) S inA5 hK hP 0 rfl rfl 19 (by decide) fl_X5_50 rfl dX5_pay_60 ?_
      refine z_iconst S dX5_pay_63 ?_
      refine lv_iload_n S.1 S.2.1 dX5_pay_64 rfl (lv_at hl 5 rfl) ?_
      refine z_imul S dX5_pay_65 ?_
      refine lv_iload S.1 S.2.1 dX5_pay_66 (lv_at hl 2 rfl) ?_
      refine z_iadd S dX5_pay_68 ?_
      refine z_iald (F := (mPyD c q (b01 (mF c q)) k23).2 12) S hK hP 13 rfl (by decide) (by omega) dX5_pay_69 ?_
      have hb_4 := (mPyD_IM hI h1 q (b01 (mF c q)) k23).r12 ((5 * q) + (k23 : Int))
      refine lv_istore (lv' := [(6, .int (zI ((mPyD c q (b01 (mF c q)) k23).2 12 ((5 * q) + (k23 : Int))))), (3, .int (zI ((mLft c q (b01 (mF c q)) k23) - (mSh (mPyD c q (b01 (mF c q)) k23) q (k23 : Int) (b01 (mF c q)))))), (5, .int (zI (mSh (mPyD c q (b01 (mF c q)) k23) q (k23 : Int) (b01 (mF c q))))), (4, .int (zI (k23 : Int))), (2, .int (zI (b01 (mF c q)))), (0, .ref (b 0)), (1, .int (zI q))]) S.1 S.2.1 dX5_pay_70 hl (by decide) rfl (fun ls hl => ?_)
      refine lv_iload S.1 S.2.1 dX5_pay_72 (lv_at hl 0 rfl) ?_
      refine z_if_ne (tgt := 80) S dX5_pay_74 (by decide) (by omega) (fun h_5 => ?_) (fun h_5 => ?_)
      · refine lv_iload S.1 S.2.1 dX5_pay_80 (lv_at hl 0 rfl) ?_
        refine z_if_le (tgt := 89) S dX5_pay_82 (by decide) (by omega) (fun h_6 => ?_) (fun h_6 => ?_)
        · refine z_iconst S dX5_pay_89 ?_
          refine lv_iload_n S.1 S.2.1 dX5_pay_90 rfl (lv_at hl 4 rfl) ?_
          have hb_8 := b01_01 (mF c q)
          refine z_icmp_ne (tgt := 108) S dX5_pay_91 (by decide) (by omega) (fun h_7 => ?_) (fun h_7 => ?_)
          · refine lv_aload_n S.1 S.2.1 dX5_pay_108 rfl (lv_at hl 5 rfl) ?_
            refine z_get (v := .ref (b 8)) S inA5 hK hP 0 rfl rfl 12 (by decide) fl_X5_35 rfl dX5_pay_109 ?_
            refine lv_iload S.1 S.2.1 dX5_pay_112 (lv_at hl 3 rfl) ?_
            refine lv_dup2_11 S.1 S.2.1 dX5_pay_114 rfl rfl ?_
            refine z_iald (F := (mPyD c q (b01 (mF c q)) k23).2 7) S hK hP 8 rfl (by decide) (by omega) dX5_pay_115 ?_
            refine z_iconst S dX5_pay_116 ?_
            refine z_iadd S dX5_pay_117 ?_
            refine z_iast (F := (mPyD c q (b01 (mF c q)) k23).2 7) S hK hP (MW_D hda _) hS 8 rfl (by decide) (by omega) dX5_pay_118 (fun H locs hP hS => ?_)
            have hP : va_P D vwCl (MW g b (sA (sA (mPyD c q (b01 (mF c q)) k23) 5 (upZ ((mPyD c q (b01 (mF c q)) k23).2 5) (k23 : Int) (((mPyD c q (b01 (mF c q)) k23).2 5 (k23 : Int)) + (mSh (mPyD c q (b01 (mF c q)) k23) q (k23 : Int) (b01 (mF c q)))))) 7 (upZ ((mPyD c q (b01 (mF c q)) k23).2 7) (k23 : Int) (((mPyD c q (b01 (mF c q)) k23).2 7 (k23 : Int)) + 1)))) H := hP
            refine z_iinc (lv' := [(4, .int (zI ((k23 : Int) + 1))), (6, .int (zI ((mPyD c q (b01 (mF c q)) k23).2 12 ((5 * q) + (k23 : Int))))), (3, .int (zI ((mLft c q (b01 (mF c q)) k23) - (mSh (mPyD c q (b01 (mF c q)) k23) q (k23 : Int) (b01 (mF c q)))))), (5, .int (zI (mSh (mPyD c q (b01 (mF c q)) k23) q (k23 : Int) (b01 (mF c q))))), (2, .int (zI (b01 (mF c q)))), (0, .ref (b 0)), (1, .int (zI q))]) S dX5_pay_119 hl (k := 3) rfl (by decide) rfl (fun ls hl => ?_)
            refine z_goto (tgt := 23) S dX5_pay_122 (by decide) ?_
            have hw : MW g b (sA (sA (mPyD c q (b01 (mF c q)) k23) 5 (upZ ((mPyD c q (b01 (mF c q)) k23).2 5) (k23 : Int) (((mPyD c q (b01 (mF c q)) k23).2 5 (k23 : Int)) + (mSh (mPyD c q (b01 (mF c q)) k23) q (k23 : Int) (b01 (mF c q)))))) 7 (upZ ((mPyD c q (b01 (mF c q)) k23).2 7) (k23 : Int) (((mPyD c q (b01 (mF c q)) k23).2 7 (k23 : Int)) + 1))) = MW g b (mPyD c q (b01 (mF c q)) (k23 + 1)) := by show MW g b _ = MW g b (mPay1 _ _ _ _); first | rw [mPay1, if_pos (by omega)] | rw [mPay1, if_neg (by omega), if_pos (by first | (rw [b01_t (by omega)]; omega) | (rw [b01_f (by omega)]; omega))] | rw [mPay1, if_neg (by omega), if_neg (by first | (rw [b01_t (by omega)]; omega) | (rw [b01_f (by omega)]; omega))]
            rw [hw] at hP
            exact ih23 _ _ hP hS _ (lv_sub hl [0, 2, 4, 5, 6] rfl) trivial
          · refine lv_aload_n S.1 S.2.1 dX5_pay_94 rfl (lv_at hl 5 rfl) ?_
            refine z_get (v := .ref (b 7)) S inA5 hK hP 0 rfl rfl 11 (by decide) fl_X5_32 rfl dX5_pay_95 ?_
            refine lv_iload S.1 S.2.1 dX5_pay_98 (lv_at hl 3 rfl) ?_
            refine lv_dup2_11 S.1 S.2.1 dX5_pay_100 rfl rfl ?_
            refine z_iald (F := (mPyD c q (b01 (mF c q)) k23).2 6) S hK hP 7 rfl (by decide) (by omega) dX5_pay_101 ?_
            refine z_iconst S dX5_pay_102 ?_
            refine z_iadd S dX5_pay_103 ?_
            refine z_iast (F := (mPyD c q (b01 (mF c q)) k23).2 6) S hK hP (MW_D hda _) hS 7 rfl (by decide) (by omega) dX5_pay_104 (fun H locs hP hS => ?_)
            have hP : va_P D vwCl (MW g b (sA (sA (mPyD c q (b01 (mF c q)) k23) 5 (upZ ((mPyD c q (b01 (mF c q)) k23).2 5) (k23 : Int) (((mPyD c q (b01 (mF c q)) k23).2 5 (k23 : Int)) + (mSh (mPyD c q (b01 (mF c q)) k23) q (k23 : Int) (b01 (mF c q)))))) 6 (upZ ((mPyD c q (b01 (mF c q)) k23).2 6) (k23 : Int) (((mPyD c q (b01 (mF c q)) k23).2 6 (k23 : Int)) + 1)))) H := hP
            refine z_goto (tgt := 119) S dX5_pay_105 (by decide) ?_
            refine z_iinc (lv' := [(4, .int (zI ((k23 : Int) + 1))), (6, .int (zI ((mPyD c q (b01 (mF c q)) k23).2 12 ((5 * q) + (k23 : Int))))), (3, .int (zI ((mLft c q (b01 (mF c q)) k23) - (mSh (mPyD c q (b01 (mF c q)) k23) q (k23 : Int) (b01 (mF c q)))))), (5, .int (zI (mSh (mPyD c q (b01 (mF c q)) k23) q (k23 : Int) (b01 (mF c q))))), (2, .int (zI (b01 (mF c q)))), (0, .ref (b 0)), (1, .int (zI q))]) S dX5_pay_119 hl (k := 3) rfl (by decide) rfl (fun ls hl => ?_)
            refine z_goto (tgt := 23) S dX5_pay_122 (by decide) ?_
            have hw : MW g b (sA (sA (mPyD c q (b01 (mF c q)) k23) 5 (upZ ((mPyD c q (b01 (mF c q)) k23).2 5) (k23 : Int) (((mPyD c q (b01 (mF c q)) k23).2 5 (k23 : Int)) + (mSh (mPyD c q (b01 (mF c q)) k23) q (k23 : Int) (b01 (mF c q)))))) 6 (upZ ((mPyD c q (b01 (mF c q)) k23).2 6) (k23 : Int) (((mPyD c q (b01 (mF c q)) k23).2 6 (k23 : Int)) + 1))) = MW g b (mPyD c q (b01 (mF c q)) (k23 + 1)) := by show MW g b _ = MW g b (mPay1 _ _ _ _); first | rw [mPay1, if_pos (by omega)] | rw [mPay1, if_neg (by omega), if_pos (by first | (rw [b01_t (by omega)]; omega) | (rw [b01_f (by omega)]; omega))] | rw [mPay1, if_neg (by omega), if_neg (by first | (rw [b01_t (by omega)]; omega) | (rw [b01_f (by omega)]; omega))]
            rw [hw] at hP
            exact ih23 _ _ hP hS _ (lv_sub hl [0, 2, 4, 5, 6] rfl) trivial
        · refine z_iconst S dX5_pay_85 ?_
          refine z_goto (tgt := 90) S dX5_pay_86 (by decide) ?_
          refine lv_iload_n S.1 S.2.1 dX5_pay_90 rfl (lv_at hl 4 rfl) ?_
          have hb_10 := b01_01 (mF c q)
          refine z_icmp_ne (tgt := 108) S dX5_pay_91 (by decide) (by omega) (fun h_9 => ?_) (fun h_9 => ?_)
          · refine lv_aload_n S.1 S.2.1 dX5_pay_108 rfl (lv_at hl 5 rfl) ?_
            refine z_get (v := .ref (b 8)) S inA5 hK hP 0 rfl rfl 12 (by decide) fl_X5_35 rfl dX5_pay_109 ?_
            refine lv_iload S.1 S.2.1 dX5_pay_112 (lv_at hl 3 rfl) ?_
            refine lv_dup2_11 S.1 S.2.1 dX5_pay_114 rfl rfl ?_
            refine z_iald (F := (mPyD c q (b01 (mF c q)) k23).2 7) S hK hP 8 rfl (by decide) (by omega) dX5_pay_115 ?_
            refine z_iconst S dX5_pay_116 ?_
            refine z_iadd S dX5_pay_117 ?_
            refine z_iast (F := (mPyD c q (b01 (mF c q)) k23).2 7) S hK hP (MW_D hda _) hS 8 rfl (by decide) (by omega) dX5_pay_118 (fun H locs hP hS => ?_)
            have hP : va_P D vwCl (MW g b (sA (sA (mPyD c q (b01 (mF c q)) k23) 5 (upZ ((mPyD c q (b01 (mF c q)) k23).2 5) (k23 : Int) (((mPyD c q (b01 (mF c q)) k23).2 5 (k23 : Int)) + (mSh (mPyD c q (b01 (mF c q)) k23) q (k23 : Int) (b01 (mF c q)))))) 7 (upZ ((mPyD c q (b01 (mF c q)) k23).2 7) (k23 : Int) (((mPyD c q (b01 (mF c q)) k23).2 7 (k23 : Int)) + 1)))) H := hP
            refine z_iinc (lv' := [(4, .int (zI ((k23 : Int) + 1))), (6, .int (zI ((mPyD c q (b01 (mF c q)) k23).2 12 ((5 * q) + (k23 : Int))))), (3, .int (zI ((mLft c q (b01 (mF c q)) k23) - (mSh (mPyD c q (b01 (mF c q)) k23) q (k23 : Int) (b01 (mF c q)))))), (5, .int (zI (mSh (mPyD c q (b01 (mF c q)) k23) q (k23 : Int) (b01 (mF c q))))), (2, .int (zI (b01 (mF c q)))), (0, .ref (b 0)), (1, .int (zI q))]) S dX5_pay_119 hl (k := 3) rfl (by decide) rfl (fun ls hl => ?_)
            refine z_goto (tgt := 23) S dX5_pay_122 (by decide) ?_
            have hw : MW g b (sA (sA (mPyD c q (b01 (mF c q)) k23) 5 (upZ ((mPyD c q (b01 (mF c q)) k23).2 5) (k23 : Int) (((mPyD c q (b01 (mF c q)) k23).2 5 (k23 : Int)) + (mSh (mPyD c q (b01 (mF c q)) k23) q (k23 : Int) (b01 (mF c q)))))) 7 (upZ ((mPyD c q (b01 (mF c q)) k23).2 7) (k23 : Int) (((mPyD c q (b01 (mF c q)) k23).2 7 (k23 : Int)) + 1))) = MW g b (mPyD c q (b01 (mF c q)) (k23 + 1)) := by show MW g b _ = MW g b (mPay1 _ _ _ _); first | rw [mPay1, if_pos (by omega)] | rw [mPay1, if_neg (by omega), if_pos (by first | (rw [b01_t (by omega)]; omega) | (rw [b01_f (by omega)]; omega))] | rw [mPay1, if_neg (by omega), if_neg (by first | (rw [b01_t (by omega)]; omega) | (rw [b01_f (by omega)]; omega))]
            rw [hw] at hP
            exact ih23 _ _ hP hS _ (lv_sub hl [0, 2, 4, 5, 6] rfl) trivial
          · refine lv_aload_n S.1 S.2.1 dX5_pay_94 rfl (lv_at hl 5 rfl) ?_
            refine z_get (v := .ref (b 7)) S inA5 hK hP 0 rfl rfl 11 (by decide) fl_X5_32 rfl dX5_pay_95 ?_
            refine lv_iload S.1 S.2.1 dX5_pay_98 (lv_at hl 3 rfl) ?_
            refine lv_dup2_11 S.1 S.2.1 dX5_pay_100 rfl rfl ?_
            refine z_iald (F := (mPyD c q (b01 (mF c q)) k23).2 6) S hK hP 7 rfl (by decide) (by omega) dX5_pay_101 ?_
            refine z_iconst S dX5_pay_102 ?_
            refine z_iadd S dX5_pay_103 ?_
            refine z_iast (F := (mPyD c q (b01 (mF c q)) k23).2 6) S hK hP (MW_D hda _) hS 7 rfl (by decide) (by omega) dX5_pay_104 (fun H locs hP hS => ?_)
            have hP : va_P D vwCl (MW g b (sA (sA (mPyD c q (b01 (mF c q)) k23) 5 (upZ ((mPyD c q (b01 (mF c q)) k23).2 5) (k23 : Int) (((mPyD c q (b01 (mF c q)) k23).2 5 (k23 : Int)) + (mSh (mPyD c q (b01 (mF c q)) k23) q (k23 : Int) (b01 (mF c q)))))) 6 (upZ ((mPyD c q (b01 (mF c q)) k23).2 6) (k23 : Int) (((mPyD c q (b01 (mF c q)) k23).2 6 (k23 : Int)) + 1)))) H := hP
            refine z_goto (tgt := 119) S dX5_pay_105 (by decide) ?_
            refine z_iinc (lv' := [(4, .int (zI ((k23 : Int) + 1))), (6, .int (zI ((mPyD c q (b01 (mF c q)) k23).2 12 ((5 * q) + (k23 : Int))))), (3, .int (zI ((mLft c q (b01 (mF c q)) k23) - (mSh (mPyD c q (b01 (mF c q)) k23) q (k23 : Int) (b01 (mF c q)))))), (5, .int (zI (mSh (mPyD c q (b01 (mF c q)) k23) q (k23 : Int) (b01 (mF c q))))), (2, .int (zI (b01 (mF c q)))), (0, .ref (b 0)), (1, .int (zI q))]) S dX5_pay_119 hl (k := 3) rfl (by decide) rfl (fun ls hl => ?_)
            refine z_goto (tgt := 23) S dX5_pay_122 (by decide) ?_
            have hw : MW g b (sA (sA (mPyD c q (b01 (mF c q)) k23) 5 (upZ ((mPyD c q (b01 (mF c q)) k23).2 5) (k23 : Int) (((mPyD c q (b01 (mF c q)) k23).2 5 (k23 : Int)) + (mSh (mPyD c q (b01 (mF c q)) k23) q (k23 : Int) (b01 (mF c q)))))) 6 (upZ ((mPyD c q (b01 (mF c q)) k23).2 6) (k23 : Int) (((mPyD c q (b01 (mF c q)) k23).2 6 (k23 : Int)) + 1))) = MW g b (mPyD c q (b01 (mF c q)) (k23 + 1)) := by show MW g b _ = MW g b (mPay1 _ _ _ _); first | rw [mPay1, if_pos (by omega)] | rw [mPay1, if_neg (by omega), if_pos (by first | (rw [b01_t (by omega)]; omega) | (rw [b01_f (by omega)]; omega))] | rw [mPay1, if_neg (by omega), if_neg (by first | (rw [b01_t (by omega)]; omega) | (rw [b01_f (by omega)]; omega))]
            rw [hw] at hP
            exact ih23 _ _ hP hS _ (lv_sub hl [0, 2, 4, 5, 6] rfl) trivial
      · refine z_goto (tgt := 119) S dX5_pay_77 (by decide) ?_
        refine z_iinc (lv' := [(4, .int (zI ((k23 : Int) + 1))), (6, .int (zI ((mPyD c q (b01 (mF c q)) k23).2 12 ((5 * q) + (k23 : Int))))), (3, .int (zI ((mLft c q (b01 (mF c q)) k23) - (mSh (mPyD c q (b01 (mF c q)) k23) q (k23 : Int) (b01 (mF c q)))))), (5, .int (zI (mSh (mPyD c q (b01 (mF c q)) k23) q (k23 : Int) (b01 (mF c q))))), (2, .int (zI (b01 (mF c q)))), (0, .ref (b 0)), (1, .int (zI q))]) S dX5_pay_119 hl (k := 3) rfl (by decide) rfl (fun ls hl => ?_)
        refine z_goto (tgt := 23) S dX5_pay_122 (by decide) ?_
        have hw : MW g b (sA (mPyD c q (b01 (mF c q)) k23) 5 (upZ ((mPyD c q (b01 (mF c q)) k23).2 5) (k23 : Int) (((mPyD c q (b01 (mF c q)) k23).2 5 (k23 : Int)) + (mSh (mPyD c q (b01 (mF c q)) k23) q (k23 : Int) (b01 (mF c q)))))) = MW g b (mPyD c q (b01 (mF c q)) (k23 + 1)) := by show MW g b _ = MW g b (mPay1 _ _ _ _); first | rw [mPay1, if_pos (by omega)] | rw [mPay1, if_neg (by omega), if_pos (by first | (rw [b01_t (by omega)]; omega) | (rw [b01_f (by omega)]; omega))] | rw [mPay1, if_neg (by omega), if_neg (by first | (rw [b01_t (by omega)]; omega) | (rw [b01_f (by omega)]; omega))]
        rw [hw] at hP
        exact ih23 _ _ hP hS _ (lv_sub hl [0, 2, 4, 5, 6] rfl) trivial
  · have hl : lv_has ls 7 [(4, .int (zI (((c.1 4).toNat : Nat) : Int))), (3, .int (zI (mLft c q (b01 (mF c q)) ((c.1 4).toNat)))), (2, .int (zI (b01 (mF c q)))), (0, .ref (b 0)), (1, .int (zI q))] := hl
    have hP : va_P D vwCl (MW g b (mPyD c q (b01 (mF c q)) ((c.1 4).toNat))) H := hP
    have hb1 : (mPyD c q (b01 (mF c q)) ((c.1 4).toNat)).1 4 = c.1 4 := congrFun (mPyD_c c q (b01 (mF c q)) ((c.1 4).toNat)).1 4
    refine lv_iload S.1 S.2.1 dX5_pay_23 (lv_at hl 0 rfl) ?_
    refine lv_aload_n S.1 S.2.1 dX5_pay_25 rfl (lv_at hl 3 rfl) ?_
    refine z_get (v := .int (zI ((mPyD c q (b01 (mF c q)) ((c.1 4).toNat)).1 4))) S inA5 hK hP 0 rfl rfl 7 (by decide) fl_X5_60 rfl dX5_pay_26 ?_
    refine z_icmp_ge (tgt := 125) S dX5_pay_29 (by decide) (by omega) (fun h_11 => ?_) (fun h_11 => ?_)
    · refine lv_aload_n S.1 S.2.1 dX5_pay_125 rfl (lv_at hl 3 rfl) ?_
      refine lv_dup S.1 S.2.1 dX5_pay_126 rfl ?_
      refine z_get (v := .int (zI ((mPyD c q (b01 (mF c q)) ((c.1 4).toNat)).1 2))) S inA5 hK hP 0 rfl rfl 2 (by decide) fl_X5_129 rfl dX5_pay_127 ?_
      refine lv_iload_n S.1 S.2.1 dX5_pay_130 rfl (lv_at hl 1 rfl) ?_
      refine z_iadd S dX5_pay_131 ?_
      refine z_put S inA5 tyX5 tyX5_ok nmX5 hK hP (MW_D hda _) hS 0 rfl rfl 2 (by decide) fl_X5_129 rfl (by decide +kernel) (Nat.le_of_ble_eq_true rfl) dX5_pay_132 (fun H locs hP hS => ?_)
      have hP : va_P D vwCl (MW g b (sS (mPyD c q (b01 (mF c q)) ((c.1 4).toNat)) 2 (((mPyD c q (b01 (mF c q)) ((c.1 4).toNat)).1 2) + (mLft c q (b01 (mF c q)) ((c.1 4).toNat))))) H := hP
      have hw : MW g b (sS (mPyD c q (b01 (mF c q)) ((c.1 4).toNat)) 2 (((mPyD c q (b01 (mF c q)) ((c.1 4).toNat)).1 2) + (mLft c q (b01 (mF c q)) ((c.1 4).toNat)))) = MW g b (mPay c q) := by exact rfl
      rw [hw] at hP
      exact z_retv S hr hlk hP hS dX5_pay_135
    · exact absurd h_11 (by omega)
set_option maxHeartbeats 4000000 in
set_option maxRecDepth 100000 in
theorem m_X5_vein (l : Launch) (D : va_G) (g : ClassId × ClassId × ClassId) (b : Nat → Nat) {B : Int} (c : CS) (hI : IM B c) (hda : CD 14 b) (x : Int) (y : Int) (tx : Int) (ty : Int) (dp : Int) (fl : Int) (h0 : I32 x) (h1 : I32 y) (h2 : I32 tx) (h3 : I32 ty) (h4 : I32 dp) (h5 : I32 fl) : WRi l yX5_vein cX5_vein 8 (some .int) 4 91 D g (CA 14 b) (MW g b c) [.ref (b 0), .int (zI x), .int (zI y), .int (zI tx), .int (zI ty), .int (zI dp), .int (zI fl)] (MW g b (mC c (jVein c x y tx ty dp fl) (mVein c x y tx ty dp fl))) (mA (jVein c x y tx ty dp fl) ((mLay (mOpn c dp fl) (c.1 3) (20 * y + x) (20 * ty + tx)).1 3 + 1 - 1)) := by
  refine z_enter RX5 (by decide) rfl (Nat.le_of_ble_eq_true rfl) ?_
  intro p e s m args below meth co S hr hlk hK hP ls hl
  have hl : lv_has ls 8 [(0, .ref (b 0)), (1, .int (zI x)), (2, .int (zI y)), (3, .int (zI tx)), (4, .int (zI ty)), (5, .int (zI dp)), (6, .int (zI fl))] := hl
  have hs := hI.s
  have hS : va_S (CA 14 b) s.heap s.heap [] := va_S.rf
  refine lv_aload_n S.1 S.2.1 dX5_vein_0 rfl (lv_at hl 0 rfl) ?_
  refine z_iconst S dX5_vein_1 ?_
  refine z_put S inA5 tyX5 tyX5_ok nmX5 hK hP (MW_D hda _) hS 0 rfl rfl 0 (by decide) fl_X5_53 rfl (by decide +kernel) (Nat.le_of_ble_eq_true rfl) dX5_vein_2 (fun H locs hP hS => ?_)
  have hP : va_P D vwCl (MW g b (sS c 0 0)) H := hP
  refine lv_iload_n S.1 S.2.1 dX5_vein_5 rfl (lv_at hl 1 rfl) ?_
  refine lv_iload_n S.1 S.2.1 dX5_vein_6 rfl (lv_at hl 2 rfl) ?_
  refine z_rS (As := [.int (zI x), .int (zI y)]) (rest := []) S (m_X5_isSpot l D g x y (by omega)) ml_X5_86 sm_X5_isSpot ini_X5 cd_X5_isSpot ds_X5_isSpot ⟨Nat.le_of_ble_eq_true rfl, Nat.le_of_ble_eq_true rfl⟩ hK va_P_nil rfl hl.1 rfl (Nat.le_of_ble_eq_true rfl) ⟨Nat.zero_le _, Nat.zero_le _⟩ dX5_vein_7 ?_
  refine z_top (b01 (inF x y)) rfl ?_
  refine z_ifb_eq (tgt := 22) S dX5_vein_10 (by decide) (fun h_1 => ?_) (fun h_1 => ?_)
  · refine lv_aload_n S.1 S.2.1 dX5_vein_22 rfl (lv_at hl 0 rfl) ?_
    refine z_iconst S dX5_vein_23 ?_
    refine z_wV (As := [.int (zI 1)]) (rest := []) S (m_X5_no l D g b (sS c 0 0) (hI.n0 (v := 0)) hda 1) ml_X5_89 im_X5_no se_X5_no ini_X5 cd_X5_no ds_X5_no ⟨Nat.le_of_ble_eq_true rfl, Nat.le_of_ble_eq_true rfl⟩ hK hP (va_recv hK.1 hP (ci := 5) (q0 := 0) rfl rfl) rfl hl.1 rfl (Nat.le_of_ble_eq_true rfl) ⟨Nat.zero_le _, Nat.zero_le _⟩ hS (fun _ h => h) dX5_vein_24 (fun H locs hP _ _ hS => ?_)
    have hw : MW g b (sS (sS c 0 0) 0 1) = MW g b (mC c (jVein c x y tx ty dp fl) (mVein c x y tx ty dp fl)) := by first | (rw [show jVein c x y tx ty dp fl = 1 from (by unfold jVein; repeat (first | rw [if_pos (by omega)] | rw [if_neg (by omega)]))]; rfl)
    rw [hw] at hP
    exact z_retw S hr hlk (by first | (rw [show jVein c x y tx ty dp fl = 1 from (by unfold jVein; repeat (first | rw [if_pos (by omega)] | rw [if_neg (by omega)]))]; rfl)) hP hS dX5_vein_27
  · refine lv_iload_n S.1 S.2.1 dX5_vein_13 rfl (lv_at hl 3 rfl) ?_
    refine lv_iload S.1 S.2.1 dX5_vein_14 (lv_at hl 4 rfl) ?_
    refine z_rS (As := [.int (zI tx), .int (zI ty)]) (rest := []) S (m_X5_isSpot l D g tx ty (by omega)) ml_X5_86 sm_X5_isSpot ini_X5 cd_X5_isSpot ds_X5_isSpot ⟨Nat.le_of_ble_eq_true rfl, Nat.le_of_ble_eq_true rfl⟩ hK va_P_nil rfl hl.1 rfl (Nat.le_of_ble_eq_true rfl) ⟨Nat.zero_le _, Nat.zero_le _⟩ dX5_vein_16 ?_
    refine z_top (b01 (inF tx ty)) rfl ?_
    refine z_ifb_ne (tgt := 28) S dX5_vein_19 (by decide) (fun h_2 => ?_) (fun h_2 => ?_)
    · refine lv_iload_n S.1 S.2.1 dX5_vein_28 rfl (lv_at hl 1 rfl) ?_
      refine lv_iload_n S.1 S.2.1 dX5_vein_29 rfl (lv_at hl 3 rfl) ?_
      refine z_icmp_eq (tgt := 55) S dX5_vein_30 (by decide) (by omega) (fun h_3 => ?_) (fun h_3 => ?_)
      · refine z_iconst S dX5_vein_55 ?_
        refine z_goto (tgt := 60) S dX5_vein_56 (by decide) ?_
        refine lv_istore (lv' := [(7, .int (zI 1)), (0, .ref (b 0)), (1, .int (zI x)), (2, .int (zI y)), (3, .int (zI tx)), (4, .int (zI ty)), (5, .int (zI dp)), (6, .int (zI fl))]) S.1 S.2.1 dX5_vein_60 hl (by decide) rfl (fun ls hl => ?_)
        refine lv_iload S.1 S.2.1 dX5_vein_62 (lv_at hl 0 rfl) ?_
        refine z_if_eq (tgt := 89) S dX5_vein_64 (by decide) (by omega) (fun h_4 => ?_) (fun h_4 => ?_)
        · exact absurd h_4 (by omega)
        · refine lv_iload S.1 S.2.1 dX5_vein_67 (lv_at hl 6 rfl) ?_
          refine z_iconst S dX5_vein_69 ?_
          refine z_bipush S (by decide) dX5_vein_70 ?_
          refine z_rS (As := [.int (zI dp), .int (zI 1), .int (zI 20)]) (rest := []) S (m_X5_isIn l D g dp 1 20 (by omega)) ml_X5_56 sm_X5_isIn ini_X5 cd_X5_isIn ds_X5_isIn ⟨Nat.le_of_ble_eq_true rfl, Nat.le_of_ble_eq_true rfl⟩ hK va_P_nil rfl hl.1 rfl (Nat.le_of_ble_eq_true rfl) ⟨Nat.zero_le _, Nat.zero_le _⟩ dX5_vein_72 ?_
          refine z_top (b01 (1 ≤ dp ∧ dp ≤ 20)) rfl ?_
          refine z_ifb_eq (tgt := 89) S dX5_vein_75 (by decide) (fun h_5 => ?_) (fun h_5 => ?_)
          · refine lv_aload_n S.1 S.2.1 dX5_vein_89 rfl (lv_at hl 1 rfl) ?_
            refine z_iconst S dX5_vein_90 ?_
            refine z_wV (As := [.int (zI 2)]) (rest := []) S (m_X5_no l D g b (sS c 0 0) (hI.n0 (v := 0)) hda 2) ml_X5_89 im_X5_no se_X5_no ini_X5 cd_X5_no ds_X5_no ⟨Nat.le_of_ble_eq_true rfl, Nat.le_of_ble_eq_true rfl⟩ hK hP (va_recv hK.1 hP (ci := 5) (q0 := 0) rfl rfl) rfl hl.1 rfl (Nat.le_of_ble_eq_true rfl) ⟨Nat.zero_le _, Nat.zero_le _⟩ hS (fun _ h => h) dX5_vein_91 (fun H locs hP _ _ hS => ?_)
            have hw : MW g b (sS (sS c 0 0) 0 2) = MW g b (mC c (jVein c x y tx ty dp fl) (mVein c x y tx ty dp fl)) := by first | (rw [show jVein c x y tx ty dp fl = 2 from (by unfold jVein; repeat (first | rw [if_pos (by omega)] | rw [if_neg (by omega)]))]; rfl)
            rw [hw] at hP
            exact z_retw S hr hlk (by first | (rw [show jVein c x y tx ty dp fl = 2 from (by unfold jVein; repeat (first | rw [if_pos (by omega)] | rw [if_neg (by omega)]))]; rfl)) hP hS dX5_vein_94
          · refine lv_iload S.1 S.2.1 dX5_vein_78 (lv_at hl 7 rfl) ?_
            refine z_iconst S dX5_vein_80 ?_
            refine z_bipush S (by decide) dX5_vein_81 ?_
            refine z_rS (As := [.int (zI fl), .int (zI 1), .int (zI 9)]) (rest := []) S (m_X5_isIn l D g fl 1 9 (by omega)) ml_X5_56 sm_X5_isIn ini_X5 cd_X5_isIn ds_X5_isIn ⟨Nat.le_of_ble_eq_true rfl, Nat.le_of_ble_eq_true rfl⟩ hK va_P_nil rfl hl.1 rfl (Nat.le_of_ble_eq_true rfl) ⟨Nat.zero_le _, Nat.zero_le _⟩ dX5_vein_83 ?_
            refine z_top (b01 (1 ≤ fl ∧ fl ≤ 9)) rfl ?_
            refine z_ifb_ne (tgt := 95) S dX5_vein_86 (by decide) (fun h_6 => ?_) (fun h_6 => ?_)
            · refine lv_aload_n S.1 S.2.1 dX5_vein_95 rfl (lv_at hl 1 rfl) ?_
              refine z_get (v := .int (zI (c.1 3))) S inA5 hK hP 0 rfl rfl 3 (by decide) fl_X5_72 rfl dX5_vein_96 ?_
              refine z_bipush S (by decide) dX5_vein_99 ?_
              refine z_icmp_ne (tgt := 110) S dX5_vein_101 (by decide) (by omega) (fun h_7 => ?_) (fun h_7 => ?_)
              · refine lv_aload_n S.1 S.2.1 dX5_vein_110 rfl (lv_at hl 1 rfl) ?_
                refine z_get (v := .ref (b 1)) S inA5 hK hP 0 rfl rfl 4 (by decide) fl_X5_13 rfl dX5_vein_111 ?_
                refine lv_aload_n S.1 S.2.1 dX5_vein_114 rfl (lv_at hl 1 rfl) ?_
                refine z_get (v := .int (zI (c.1 3))) S inA5 hK hP 0 rfl rfl 3 (by decide) fl_X5_72 rfl dX5_vein_115 ?_
                refine lv_iload S.1 S.2.1 dX5_vein_118 (lv_at hl 6 rfl) ?_
                refine z_iast (F := c.2 0) S hK hP (MW_D hda _) hS 1 rfl (by decide) (by omega) dX5_vein_120 (fun H locs hP hS => ?_)
                have hP : va_P D vwCl (MW g b (sA (sS c 0 0) 0 (upZ (c.2 0) (c.1 3) dp))) H := hP
                refine lv_aload_n S.1 S.2.1 dX5_vein_121 rfl (lv_at hl 1 rfl) ?_
                refine z_get (v := .ref (b 2)) S inA5 hK hP 0 rfl rfl 5 (by decide) fl_X5_17 rfl dX5_vein_122 ?_
                refine lv_aload_n S.1 S.2.1 dX5_vein_125 rfl (lv_at hl 1 rfl) ?_
                refine z_get (v := .int (zI (c.1 3))) S inA5 hK hP 0 rfl rfl 3 (by decide) fl_X5_72 rfl dX5_vein_126 ?_
                refine lv_iload S.1 S.2.1 dX5_vein_129 (lv_at hl 7 rfl) ?_
                refine z_iast (F := c.2 1) S hK hP (MW_D hda _) hS 2 rfl (by decide) (by omega) dX5_vein_131 (fun H locs hP hS => ?_)
                have hP : va_P D vwCl (MW g b (sA (sA (sS c 0 0) 0 (upZ (c.2 0) (c.1 3) dp)) 1 (upZ (c.2 1) (c.1 3) fl))) H := hP
                refine lv_aload_n S.1 S.2.1 dX5_vein_132 rfl (lv_at hl 1 rfl) ?_
                refine lv_aload_n S.1 S.2.1 dX5_vein_133 rfl (lv_at hl 1 rfl) ?_
                refine z_get (v := .int (zI (c.1 3))) S inA5 hK hP 0 rfl rfl 3 (by decide) fl_X5_72 rfl dX5_vein_134 ?_
                refine z_bipush S (by decide) dX5_vein_137 ?_
                refine lv_iload_n S.1 S.2.1 dX5_vein_139 rfl (lv_at hl 3 rfl) ?_
                refine z_imul S dX5_vein_140 ?_
                refine lv_iload_n S.1 S.2.1 dX5_vein_141 rfl (lv_at hl 2 rfl) ?_
                refine z_iadd S dX5_vein_142 ?_
                refine z_bipush S (by decide) dX5_vein_143 ?_
                refine lv_iload S.1 S.2.1 dX5_vein_145 (lv_at hl 5 rfl) ?_
                refine z_imul S dX5_vein_147 ?_
                refine lv_iload_n S.1 S.2.1 dX5_vein_148 rfl (lv_at hl 4 rfl) ?_
                refine z_iadd S dX5_vein_149 ?_
                have hw : MW g b (sA (sA (sS c 0 0) 0 (upZ (c.2 0) (c.1 3) dp)) 1 (upZ (c.2 1) (c.1 3) fl)) = MW g b (mOpn c dp fl) := by rfl
                rw [hw] at hP
                refine z_wVv (As := [.int (zI (c.1 3)), .int (zI ((20 * y) + x)), .int (zI ((20 * ty) + tx))]) (rest := []) S (m_X5_layOut l D g b (mOpn c dp fl) (mOpn_IM hI dp fl (by omega) (by omega)) hda (c.1 3) ((20 * y) + x) ((20 * ty) + tx) (by omega) (by omega) (by omega) (mby_in (by omega) (by omega) (by omega))) ml_X5_92 im_X5_layOut se_X5_layOut ini_X5 cd_X5_layOut ds_X5_layOut ⟨Nat.le_of_ble_eq_true rfl, Nat.le_of_ble_eq_true rfl⟩ hK hP (va_recv hK.1 hP (ci := 5) (q0 := 0) rfl rfl) rfl hl.1 rfl (Nat.le_of_ble_eq_true rfl) ⟨Nat.zero_le _, Nat.zero_le _⟩ hS (fun _ h => h) dX5_vein_150 (fun H locs hP _ _ hS => ?_)
                refine lv_aload_n S.1 S.2.1 dX5_vein_153 rfl (lv_at hl 1 rfl) ?_
                refine lv_dup S.1 S.2.1 dX5_vein_154 rfl ?_
                refine z_get (v := .int (zI ((mLay (mOpn c dp fl) (c.1 3) ((20 * y) + x) ((20 * ty) + tx)).1 3))) S inA5 hK hP 0 rfl rfl 3 (by decide) fl_X5_72 rfl dX5_vein_155 ?_
                refine z_iconst S dX5_vein_158 ?_
                refine z_iadd S dX5_vein_159 ?_
                refine z_put S inA5 tyX5 tyX5_ok nmX5 hK hP (MW_D hda _) hS 0 rfl rfl 3 (by decide) fl_X5_72 rfl (by decide +kernel) (Nat.le_of_ble_eq_true rfl) dX5_vein_160 (fun H locs hP hS => ?_)
                have hP : va_P D vwCl (MW g b (sS (mLay (mOpn c dp fl) (c.1 3) ((20 * y) + x) ((20 * ty) + tx)) 3 (((mLay (mOpn c dp fl) (c.1 3) ((20 * y) + x) ((20 * ty) + tx)).1 3) + 1))) H := hP
                refine lv_aload_n S.1 S.2.1 dX5_vein_163 rfl (lv_at hl 1 rfl) ?_
                refine z_get (v := .int (zI (((mLay (mOpn c dp fl) (c.1 3) ((20 * y) + x) ((20 * ty) + tx)).1 3) + 1))) S inA5 hK hP 0 rfl rfl 3 (by decide) fl_X5_72 rfl dX5_vein_164 ?_
                refine z_iconst S dX5_vein_167 ?_
                refine z_isub S dX5_vein_168 ?_
                have hw : MW g b (sS (mLay (mOpn c dp fl) (c.1 3) ((20 * y) + x) ((20 * ty) + tx)) 3 (((mLay (mOpn c dp fl) (c.1 3) ((20 * y) + x) ((20 * ty) + tx)).1 3) + 1)) = MW g b (mC c (jVein c x y tx ty dp fl) (mVein c x y tx ty dp fl)) := by first | (rw [show jVein c x y tx ty dp fl = 0 from (by unfold jVein; repeat (first | rw [if_pos (by omega)] | rw [if_neg (by omega)]))]; rfl)
                rw [hw] at hP
                exact z_retw S hr hlk (by first | (rw [show jVein c x y tx ty dp fl = 0 from (by unfold jVein; repeat (first | rw [if_pos (by omega)] | rw [if_neg (by omega)]))]; (show _ = ((mLay (mOpn c dp fl) (c.1 3) (20 * y + x) (20 * ty + tx)).1 3 + 1 - 1); first | rfl | grind))) hP hS dX5_vein_169
              · refine lv_aload_n S.1 S.2.1 dX5_vein_104 rfl (lv_at hl 1 rfl) ?_
                refine z_iconst S dX5_vein_105 ?_
                refine z_wV (As := [.int (zI 3)]) (rest := []) S (m_X5_no l D g b (sS c 0 0) (hI.n0 (v := 0)) hda 3) ml_X5_89 im_X5_no se_X5_no ini_X5 cd_X5_no ds_X5_no ⟨Nat.le_of_ble_eq_true rfl, Nat.le_of_ble_eq_true rfl⟩ hK hP (va_recv hK.1 hP (ci := 5) (q0 := 0) rfl rfl) rfl hl.1 rfl (Nat.le_of_ble_eq_true rfl) ⟨Nat.zero_le _, Nat.zero_le _⟩ hS (fun _ h => h) dX5_vein_106 (fun H locs hP _ _ hS => ?_)
                have hw : MW g b (sS (sS c 0 0) 0 3) = MW g b (mC c (jVein c x y tx ty dp fl) (mVein c x y tx ty dp fl)) := by first | (rw [show jVein c x y tx ty dp fl = 3 from (by unfold jVein; repeat (first | rw [if_pos (by omega)] | rw [if_neg (by omega)]))]; rfl)
                rw [hw] at hP
                exact z_retw S hr hlk (by first | (rw [show jVein c x y tx ty dp fl = 3 from (by unfold jVein; repeat (first | rw [if_pos (by omega)] | rw [if_neg (by omega)]))]; rfl)) hP hS dX5_vein_109
            · refine lv_aload_n S.1 S.2.1 dX5_vein_89 rfl (lv_at hl 1 rfl) ?_
              refine z_iconst S dX5_vein_90 ?_
              refine z_wV (As := [.int (zI 2)]) (rest := []) S (m_X5_no l D g b (sS c 0 0) (hI.n0 (v := 0)) hda 2) ml_X5_89 im_X5_no se_X5_no ini_X5 cd_X5_no ds_X5_no ⟨Nat.le_of_ble_eq_true rfl, Nat.le_of_ble_eq_true rfl⟩ hK hP (va_recv hK.1 hP (ci := 5) (q0 := 0) rfl rfl) rfl hl.1 rfl (Nat.le_of_ble_eq_true rfl) ⟨Nat.zero_le _, Nat.zero_le _⟩ hS (fun _ h => h) dX5_vein_91 (fun H locs hP _ _ hS => ?_)
              have hw : MW g b (sS (sS c 0 0) 0 2) = MW g b (mC c (jVein c x y tx ty dp fl) (mVein c x y tx ty dp fl)) := by first | (rw [show jVein c x y tx ty dp fl = 2 from (by unfold jVein; repeat (first | rw [if_pos (by omega)] | rw [if_neg (by omega)]))]; rfl)
              rw [hw] at hP
              exact z_retw S hr hlk (by first | (rw [show jVein c x y tx ty dp fl = 2 from (by unfold jVein; repeat (first | rw [if_pos (by omega)] | rw [if_neg (by omega)]))]; rfl)) hP hS dX5_vein_94
      · refine lv_iload_n S.1 S.2.1 dX5_vein_33 rfl (lv_at hl 2 rfl) ?_
        refine lv_iload S.1 S.2.1 dX5_vein_34 (lv_at hl 4 rfl) ?_
        refine z_icmp_eq (tgt := 55) S dX5_vein_36 (by decide) (by omega) (fun h_8 => ?_) (fun h_8 => ?_)
        · refine z_iconst S dX5_vein_55 ?_
          refine z_goto (tgt := 60) S dX5_vein_56 (by decide) ?_
          refine lv_istore (lv' := [(7, .int (zI 1)), (0, .ref (b 0)), (1, .int (zI x)), (2, .int (zI y)), (3, .int (zI tx)), (4, .int (zI ty)), (5, .int (zI dp)), (6, .int (zI fl))]) S.1 S.2.1 dX5_vein_60 hl (by decide) rfl (fun ls hl => ?_)
          refine lv_iload S.1 S.2.1 dX5_vein_62 (lv_at hl 0 rfl) ?_
          refine z_if_eq (tgt := 89) S dX5_vein_64 (by decide) (by omega) (fun h_9 => ?_) (fun h_9 => ?_)
          · exact absurd h_9 (by omega)
          · refine lv_iload S.1 S.2.1 dX5_vein_67 (lv_at hl 6 rfl) ?_
            refine z_iconst S dX5_vein_69 ?_
            refine z_bipush S (by decide) dX5_vein_70 ?_
            refine z_rS (As := [.int (zI dp), .int (zI 1), .int (zI 20)]) (rest := []) S (m_X5_isIn l D g dp 1 20 (by omega)) ml_X5_56 sm_X5_isIn ini_X5 cd_X5_isIn ds_X5_isIn ⟨Nat.le_of_ble_eq_true rfl, Nat.le_of_ble_eq_true rfl⟩ hK va_P_nil rfl hl.1 rfl (Nat.le_of_ble_eq_true rfl) ⟨Nat.zero_le _, Nat.zero_le _⟩ dX5_vein_72 ?_
            refine z_top (b01 (1 ≤ dp ∧ dp ≤ 20)) rfl ?_
            refine z_ifb_eq (tgt := 89) S dX5_vein_75 (by decide) (fun h_10 => ?_) (fun h_10 => ?_)
            · refine lv_aload_n S.1 S.2.1 dX5_vein_89 rfl (lv_at hl 1 rfl) ?_
              refine z_iconst S dX5_vein_90 ?_
              refine z_wV (As := [.int (zI 2)]) (rest := []) S (m_X5_no l D g b (sS c 0 0) (hI.n0 (v := 0)) hda 2) ml_X5_89 im_X5_no se_X5_no ini_X5 cd_X5_no ds_X5_no ⟨Nat.le_of_ble_eq_true rfl, Nat.le_of_ble_eq_true rfl⟩ hK hP (va_recv hK.1 hP (ci := 5) (q0 := 0) rfl rfl) rfl hl.1 rfl (Nat.le_of_ble_eq_true rfl) ⟨Nat.zero_le _, Nat.zero_le _⟩ hS (fun _ h => h) dX5_vein_91 (fun H locs hP _ _ hS => ?_)
              have hw : MW g b (sS (sS c 0 0) 0 2) = MW g b (mC c (jVein c x y tx ty dp fl) (mVein c x y tx ty dp fl)) := by first | (rw [show jVein c x y tx ty dp fl = 2 from (by unfold jVein; repeat (first | rw [if_pos (by omega)] | rw [if_neg (by omega)]))]; rfl)
              rw [hw] at hP
              exact z_retw S hr hlk (by first | (rw [show jVein c x y tx ty dp fl = 2 from (by unfold jVein; repeat (first | rw [if_pos (by omega)] | rw [if_neg (by omega)]))]; rfl)) hP hS dX5_vein_94
            · refine lv_iload S.1 S.2.1 dX5_vein_78 (lv_at hl 7 rfl) ?_
              refine z_iconst S dX5_vein_80 ?_
              refine z_bipush S (by decide) dX5_vein_81 ?_
              refine z_rS (As := [.int (zI fl), .int (zI 1), .int (zI 9)]) (rest := []) S (m_X5_isIn l D g fl 1 9 (by omega)) ml_X5_56 sm_X5_isIn ini_X5 cd_X5_isIn ds_X5_isIn ⟨Nat.le_of_ble_eq_true rfl, Nat.le_of_ble_eq_true rfl⟩ hK va_P_nil rfl hl.1 rfl (Nat.le_of_ble_eq_true rfl) ⟨Nat.zero_le _, Nat.zero_le _⟩ dX5_vein_83 ?_
              refine z_top (b01 (1 ≤ fl ∧ fl ≤ 9)) rfl ?_
              refine z_ifb_ne (tgt := 95) S dX5_vein_86 (by decide) (fun h_11 => ?_) (fun h_11 => ?_)
              · refine lv_aload_n S.1 S.2.1 dX5_vein_95 rfl (lv_at hl 1 rfl) ?_
                refine z_get (v := .int (zI (c.1 3))) S inA5 hK hP 0 rfl rfl 3 (by decide) fl_X5_72 rfl dX5_vein_96 ?_
                refine z_bipush S (by decide) dX5_vein_99 ?_
                refine z_icmp_ne (tgt := 110) S dX5_vein_101 (by decide) (by omega) (fun h_12 => ?_) (fun h_12 => ?_)
                · refine lv_aload_n S.1 S.2.1 dX5_vein_110 rfl (lv_at hl 1 rfl) ?_
                  refine z_get (v := .ref (b 1)) S inA5 hK hP 0 rfl rfl 4 (by decide) fl_X5_13 rfl dX5_vein_111 ?_
                  refine lv_aload_n S.1 S.2.1 dX5_vein_114 rfl (lv_at hl 1 rfl) ?_
                  refine z_get (v := .int (zI (c.1 3))) S inA5 hK hP 0 rfl rfl 3 (by decide) fl_X5_72 rfl dX5_vein_115 ?_
                  refine lv_iload S.1 S.2.1 dX5_vein_118 (lv_at hl 6 rfl) ?_
                  refine z_iast (F := c.2 0) S hK hP (MW_D hda _) hS 1 rfl (by decide) (by omega) dX5_vein_120 (fun H locs hP hS => ?_)
                  have hP : va_P D vwCl (MW g b (sA (sS c 0 0) 0 (upZ (c.2 0) (c.1 3) dp))) H := hP
                  refine lv_aload_n S.1 S.2.1 dX5_vein_121 rfl (lv_at hl 1 rfl) ?_
                  refine z_get (v := .ref (b 2)) S inA5 hK hP 0 rfl rfl 5 (by decide) fl_X5_17 rfl dX5_vein_122 ?_
                  refine lv_aload_n S.1 S.2.1 dX5_vein_125 rfl (lv_at hl 1 rfl) ?_
                  refine z_get (v := .int (zI (c.1 3))) S inA5 hK hP 0 rfl rfl 3 (by decide) fl_X5_72 rfl dX5_vein_126 ?_
                  refine lv_iload S.1 S.2.1 dX5_vein_129 (lv_at hl 7 rfl) ?_
                  refine z_iast (F := c.2 1) S hK hP (MW_D hda _) hS 2 rfl (by decide) (by omega) dX5_vein_131 (fun H locs hP hS => ?_)
                  have hP : va_P D vwCl (MW g b (sA (sA (sS c 0 0) 0 (upZ (c.2 0) (c.1 3) dp)) 1 (upZ (c.2 1) (c.1 3) fl))) H := hP
                  refine lv_aload_n S.1 S.2.1 dX5_vein_132 rfl (lv_at hl 1 rfl) ?_
                  refine lv_aload_n S.1 S.2.1 dX5_vein_133 rfl (lv_at hl 1 rfl) ?_
                  refine z_get (v := .int (zI (c.1 3))) S inA5 hK hP 0 rfl rfl 3 (by decide) fl_X5_72 rfl dX5_vein_134 ?_
                  refine z_bipush S (by decide) dX5_vein_137 ?_
                  refine lv_iload_n S.1 S.2.1 dX5_vein_139 rfl (lv_at hl 3 rfl) ?_
                  refine z_imul S dX5_vein_140 ?_
                  refine lv_iload_n S.1 S.2.1 dX5_vein_141 rfl (lv_at hl 2 rfl) ?_
                  refine z_iadd S dX5_vein_142 ?_
                  refine z_bipush S (by decide) dX5_vein_143 ?_
                  refine lv_iload S.1 S.2.1 dX5_vein_145 (lv_at hl 5 rfl) ?_
                  refine z_imul S dX5_vein_147 ?_
                  refine lv_iload_n S.1 S.2.1 dX5_vein_148 rfl (lv_at hl 4 rfl) ?_
                  refine z_iadd S dX5_vein_149 ?_
                  have hw : MW g b (sA (sA (sS c 0 0) 0 (upZ (c.2 0) (c.1 3) dp)) 1 (upZ (c.2 1) (c.1 3) fl)) = MW g b (mOpn c dp fl) := by rfl
                  rw [hw] at hP
                  refine z_wVv (As := [.int (zI (c.1 3)), .int (zI ((20 * y) + x)), .int (zI ((20 * ty) + tx))]) (rest := []) S (m_X5_layOut l D g b (mOpn c dp fl) (mOpn_IM hI dp fl (by omega) (by omega)) hda (c.1 3) ((20 * y) + x) ((20 * ty) + tx) (by omega) (by omega) (by omega) (mby_in (by omega) (by omega) (by omega))) ml_X5_92 im_X5_layOut se_X5_layOut ini_X5 cd_X5_layOut ds_X5_layOut ⟨Nat.le_of_ble_eq_true rfl, Nat.le_of_ble_eq_true rfl⟩ hK hP (va_recv hK.1 hP (ci := 5) (q0 := 0) rfl rfl) rfl hl.1 rfl (Nat.le_of_ble_eq_true rfl) ⟨Nat.zero_le _, Nat.zero_le _⟩ hS (fun _ h => h) dX5_vein_150 (fun H locs hP _ _ hS => ?_)
                  refine lv_aload_n S.1 S.2.1 dX5_vein_153 rfl (lv_at hl 1 rfl) ?_
                  refine lv_dup S.1 S.2.1 dX5_vein_154 rfl ?_
                  refine z_get (v := .int (zI ((mLay (mOpn c dp fl) (c.1 3) ((20 * y) + x) ((20 * ty) + tx)).1 3))) S inA5 hK hP 0 rfl rfl 3 (by decide) fl_X5_72 rfl dX5_vein_155 ?_
                  refine z_iconst S dX5_vein_158 ?_
                  refine z_iadd S dX5_vein_159 ?_
                  refine z_put S inA5 tyX5 tyX5_ok nmX5 hK hP (MW_D hda _) hS 0 rfl rfl 3 (by decide) fl_X5_72 rfl (by decide +kernel) (Nat.le_of_ble_eq_true rfl) dX5_vein_160 (fun H locs hP hS => ?_)
                  have hP : va_P D vwCl (MW g b (sS (mLay (mOpn c dp fl) (c.1 3) ((20 * y) + x) ((20 * ty) + tx)) 3 (((mLay (mOpn c dp fl) (c.1 3) ((20 * y) + x) ((20 * ty) + tx)).1 3) + 1))) H := hP
                  refine lv_aload_n S.1 S.2.1 dX5_vein_163 rfl (lv_at hl 1 rfl) ?_
                  refine z_get (v := .int (zI (((mLay (mOpn c dp fl) (c.1 3) ((20 * y) + x) ((20 * ty) + tx)).1 3) + 1))) S inA5 hK hP 0 rfl rfl 3 (by decide) fl_X5_72 rfl dX5_vein_164 ?_
                  refine z_iconst S dX5_vein_167 ?_
                  refine z_isub S dX5_vein_168 ?_
                  have hw : MW g b (sS (mLay (mOpn c dp fl) (c.1 3) ((20 * y) + x) ((20 * ty) + tx)) 3 (((mLay (mOpn c dp fl) (c.1 3) ((20 * y) + x) ((20 * ty) + tx)).1 3) + 1)) = MW g b (mC c (jVein c x y tx ty dp fl) (mVein c x y tx ty dp fl)) := by first | (rw [show jVein c x y tx ty dp fl = 0 from (by unfold jVein; repeat (first | rw [if_pos (by omega)] | rw [if_neg (by omega)]))]; rfl)
                  rw [hw] at hP
                  exact z_retw S hr hlk (by first | (rw [show jVein c x y tx ty dp fl = 0 from (by unfold jVein; repeat (first | rw [if_pos (by omega)] | rw [if_neg (by omega)]))]; (show _ = ((mLay (mOpn c dp fl) (c.1 3) (20 * y + x) (20 * ty + tx)).1 3 + 1 - 1); first | rfl | grind))) hP hS dX5_vein_169
                · refine lv_aload_n S.1 S.2.1 dX5_vein_104 rfl (lv_at hl 1 rfl) ?_
                  refine z_iconst S dX5_vein_105 ?_
                  refine z_wV (As := [.int (zI 3)]) (rest := []) S (m_X5_no l D g b (sS c 0 0) (hI.n0 (v := 0)) hda 3) ml_X5_89 im_X5_no se_X5_no ini_X5 cd_X5_no ds_X5_no ⟨Nat.le_of_ble_eq_true rfl, Nat.le_of_ble_eq_true rfl⟩ hK hP (va_recv hK.1 hP (ci := 5) (q0 := 0) rfl rfl) rfl hl.1 rfl (Nat.le_of_ble_eq_true rfl) ⟨Nat.zero_le _, Nat.zero_le _⟩ hS (fun _ h => h) dX5_vein_106 (fun H locs hP _ _ hS => ?_)
                  have hw : MW g b (sS (sS c 0 0) 0 3) = MW g b (mC c (jVein c x y tx ty dp fl) (mVein c x y tx ty dp fl)) := by first | (rw [show jVein c x y tx ty dp fl = 3 from (by unfold jVein; repeat (first | rw [if_pos (by omega)] | rw [if_neg (by omega)]))]; rfl)
                  rw [hw] at hP
                  exact z_retw S hr hlk (by first | (rw [show jVein c x y tx ty dp fl = 3 from (by unfold jVein; repeat (first | rw [if_pos (by omega)] | rw [if_neg (by omega)]))]; rfl)) hP hS dX5_vein_109
              · refine lv_aload_n S.1 S.2.1 dX5_vein_89 rfl (lv_at hl 1 rfl) ?_
                refine z_iconst S dX5_vein_90 ?_
                refine z_wV (As := [.int (zI 2)]) (rest := []) S (m_X5_no l D g b (sS c 0 0) (hI.n0 (v := 0)) hda 2) ml_X5_89 im_X5_no se_X5_no ini_X5 cd_X5_no ds_X5_no ⟨Nat.le_of_ble_eq_true rfl, Nat.le_of_ble_eq_true rfl⟩ hK hP (va_recv hK.1 hP (ci := 5) (q0 := 0) rfl rfl) rfl hl.1 rfl (Nat.le_of_ble_eq_true rfl) ⟨Nat.zero_le _, Nat.zero_le _⟩ hS (fun _ h => h) dX5_vein_91 (fun H locs hP _ _ hS => ?_)
                have hw : MW g b (sS (sS c 0 0) 0 2) = MW g b (mC c (jVein c x y tx ty dp fl) (mVein c x y tx ty dp fl)) := by first | (rw [show jVein c x y tx ty dp fl = 2 from (by unfold jVein; repeat (first | rw [if_pos (by omega)] | rw [if_neg (by omega)]))]; rfl)
                rw [hw] at hP
                exact z_retw S hr hlk (by first | (rw [show jVein c x y tx ty dp fl = 2 from (by unfold jVein; repeat (first | rw [if_pos (by omega)] | rw [if_neg (by omega)]))]; rfl)) hP hS dX5_vein_94
        · have hb1 := ab_le (x := x - tx) (n := 19) (by omega)
          have hb2 := ab_le (x := y - ty) (n := 19) (by omega)
          refine lv_iload_n S.1 S.2.1 dX5_vein_39 rfl (lv_at hl 1 rfl) ?_
          refine lv_iload_n S.1 S.2.1 dX5_vein_40 rfl (lv_at hl 3 rfl) ?_
          refine z_isub S dX5_vein_41 ?_
          refine z_abs S ml_X5_66 hl.1 (Nat.le_of_ble_eq_true rfl) (Nat.le_of_ble_eq_true rfl) ⟨Nat.zero_le _, Nat.zero_le _⟩ (by omega) dX5_vein_42 ?_
          refine lv_iload_n S.1 S.2.1 dX5_vein_45 rfl (lv_at hl 2 rfl) ?_
          refine lv_iload S.1 S.2.1 dX5_vein_46 (lv_at hl 4 rfl) ?_
          refine z_isub S dX5_vein_48 ?_
          refine z_abs S ml_X5_66 hl.1 (Nat.le_of_ble_eq_true rfl) (Nat.le_of_ble_eq_true rfl) ⟨Nat.zero_le _, Nat.zero_le _⟩ (by omega) dX5_vein_49 ?_
          refine z_icmp_ne (tgt := 59) S dX5_vein_52 (by decide) (by omega) (fun h_13 => ?_) (fun h_13 => ?_)
          · refine z_iconst S dX5_vein_59 ?_
            refine lv_istore (lv' := [(7, .int (zI 0)), (0, .ref (b 0)), (1, .int (zI x)), (2, .int (zI y)), (3, .int (zI tx)), (4, .int (zI ty)), (5, .int (zI dp)), (6, .int (zI fl))]) S.1 S.2.1 dX5_vein_60 hl (by decide) rfl (fun ls hl => ?_)
            refine lv_iload S.1 S.2.1 dX5_vein_62 (lv_at hl 0 rfl) ?_
            refine z_if_eq (tgt := 89) S dX5_vein_64 (by decide) (by omega) (fun h_14 => ?_) (fun h_14 => ?_)
            · refine lv_aload_n S.1 S.2.1 dX5_vein_89 rfl (lv_at hl 1 rfl) ?_
              refine z_iconst S dX5_vein_90 ?_
              refine z_wV (As := [.int (zI 2)]) (rest := []) S (m_X5_no l D g b (sS c 0 0) (hI.n0 (v := 0)) hda 2) ml_X5_89 im_X5_no se_X5_no ini_X5 cd_X5_no ds_X5_no ⟨Nat.le_of_ble_eq_true rfl, Nat.le_of_ble_eq_true rfl⟩ hK hP (va_recv hK.1 hP (ci := 5) (q0 := 0) rfl rfl) rfl hl.1 rfl (Nat.le_of_ble_eq_true rfl) ⟨Nat.zero_le _, Nat.zero_le _⟩ hS (fun _ h => h) dX5_vein_91 (fun H locs hP _ _ hS => ?_)
              have hw : MW g b (sS (sS c 0 0) 0 2) = MW g b (mC c (jVein c x y tx ty dp fl) (mVein c x y tx ty dp fl)) := by first | (rw [show jVein c x y tx ty dp fl = 2 from (by unfold jVein; repeat (first | rw [if_pos (by omega)] | rw [if_neg (by omega)]))]; rfl)
              rw [hw] at hP
              exact z_retw S hr hlk (by first | (rw [show jVein c x y tx ty dp fl = 2 from (by unfold jVein; repeat (first | rw [if_pos (by omega)] | rw [if_neg (by omega)]))]; rfl)) hP hS dX5_vein_94
            · exact absurd h_14 (by omega)
          · refine z_iconst S dX5_vein_55 ?_
            refine z_goto (tgt := 60) S dX5_vein_56 (by decide) ?_
            refine lv_istore (lv' := [(7, .int (zI 1)), (0, .ref (b 0)), (1, .int (zI x)), (2, .int (zI y)), (3, .int (zI tx)), (4, .int (zI ty)), (5, .int (zI dp)), (6, .int (zI fl))]) S.1 S.2.1 dX5_vein_60 hl (by decide) rfl (fun ls hl => ?_)
            refine lv_iload S.1 S.2.1 dX5_vein_62 (lv_at hl 0 rfl) ?_
            refine z_if_eq (tgt := 89) S dX5_vein_64 (by decide) (by omega) (fun h_15 => ?_) (fun h_15 => ?_)
            · exact absurd h_15 (by omega)
            · refine lv_iload S.1 S.2.1 dX5_vein_67 (lv_at hl 6 rfl) ?_
              refine z_iconst S dX5_vein_69 ?_
              refine z_bipush S (by decide) dX5_vein_70 ?_
              refine z_rS (As := [.int (zI dp), .int (zI 1), .int (zI 20)]) (rest := []) S (m_X5_isIn l D g dp 1 20 (by omega)) ml_X5_56 sm_X5_isIn ini_X5 cd_X5_isIn ds_X5_isIn ⟨Nat.le_of_ble_eq_true rfl, Nat.le_of_ble_eq_true rfl⟩ hK va_P_nil rfl hl.1 rfl (Nat.le_of_ble_eq_true rfl) ⟨Nat.zero_le _, Nat.zero_le _⟩ dX5_vein_72 ?_
              refine z_top (b01 (1 ≤ dp ∧ dp ≤ 20)) rfl ?_
              refine z_ifb_eq (tgt := 89) S dX5_vein_75 (by decide) (fun h_16 => ?_) (fun h_16 => ?_)
              · refine lv_aload_n S.1 S.2.1 dX5_vein_89 rfl (lv_at hl 1 rfl) ?_
                refine z_iconst S dX5_vein_90 ?_
                refine z_wV (As := [.int (zI 2)]) (rest := []) S (m_X5_no l D g b (sS c 0 0) (hI.n0 (v := 0)) hda 2) ml_X5_89 im_X5_no se_X5_no ini_X5 cd_X5_no ds_X5_no ⟨Nat.le_of_ble_eq_true rfl, Nat.le_of_ble_eq_true rfl⟩ hK hP (va_recv hK.1 hP (ci := 5) (q0 := 0) rfl rfl) rfl hl.1 rfl (Nat.le_of_ble_eq_true rfl) ⟨Nat.zero_le _, Nat.zero_le _⟩ hS (fun _ h => h) dX5_vein_91 (fun H locs hP _ _ hS => ?_)
                have hw : MW g b (sS (sS c 0 0) 0 2) = MW g b (mC c (jVein c x y tx ty dp fl) (mVein c x y tx ty dp fl)) := by first | (rw [show jVein c x y tx ty dp fl = 2 from (by unfold jVein; repeat (first | rw [if_pos (by omega)] | rw [if_neg (by omega)]))]; rfl)
                rw [hw] at hP
                exact z_retw S hr hlk (by first | (rw [show jVein c x y tx ty dp fl = 2 from (by unfold jVein; repeat (first | rw [if_pos (by omega)] | rw [if_neg (by omega)]))]; rfl)) hP hS dX5_vein_94
              · refine lv_iload S.1 S.2.1 dX5_vein_78 (lv_at hl 7 rfl) ?_
                refine z_iconst S dX5_vein_80 ?_
                refine z_bipush S (by decide) dX5_vein_81 ?_
                refine z_rS (As := [.int (zI fl), .int (zI 1), .int (zI 9)]) (rest := []) S (m_X5_isIn l D g fl 1 9 (by omega)) ml_X5_56 sm_X5_isIn ini_X5 cd_X5_isIn ds_X5_isIn ⟨Nat.le_of_ble_eq_true rfl, Nat.le_of_ble_eq_true rfl⟩ hK va_P_nil rfl hl.1 rfl (Nat.le_of_ble_eq_true rfl) ⟨Nat.zero_le _, Nat.zero_le _⟩ dX5_vein_83 ?_
                refine z_top (b01 (1 ≤ fl ∧ fl ≤ 9)) rfl ?_
                refine z_ifb_ne (tgt := 95) S dX5_vein_86 (by decide) (fun h_17 => ?_) (fun h_17 => ?_)
                · refine lv_aload_n S.1 S.2.1 dX5_vein_95 rfl (lv_at hl 1 rfl) ?_
                  refine z_get (v := .int (zI (c.1 3))) S inA5 hK hP 0 rfl rfl 3 (by decide) fl_X5_72 rfl dX5_vein_96 ?_
                  refine z_bipush S (by decide) dX5_vein_99 ?_
                  refine z_icmp_ne (tgt := 110) S dX5_vein_101 (by decide) (by omega) (fun h_18 => ?_) (fun h_18 => ?_)
                  · refine lv_aload_n S.1 S.2.1 dX5_vein_110 rfl (lv_at hl 1 rfl) ?_
                    refine z_get (v := .ref (b 1)) S inA5 hK hP 0 rfl rfl 4 (by decide) fl_X5_13 rfl dX5_vein_111 ?_
                    refine lv_aload_n S.1 S.2.1 dX5_vein_114 rfl (lv_at hl 1 rfl) ?_
                    refine z_get (v := .int (zI (c.1 3))) S inA5 hK hP 0 rfl rfl 3 (by decide) fl_X5_72 rfl dX5_vein_115 ?_
                    refine lv_iload S.1 S.2.1 dX5_vein_118 (lv_at hl 6 rfl) ?_
                    refine z_iast (F := c.2 0) S hK hP (MW_D hda _) hS 1 rfl (by decide) (by omega) dX5_vein_120 (fun H locs hP hS => ?_)
                    have hP : va_P D vwCl (MW g b (sA (sS c 0 0) 0 (upZ (c.2 0) (c.1 3) dp))) H := hP
                    refine lv_aload_n S.1 S.2.1 dX5_vein_121 rfl (lv_at hl 1 rfl) ?_
                    refine z_get (v := .ref (b 2)) S inA5 hK hP 0 rfl rfl 5 (by decide) fl_X5_17 rfl dX5_vein_122 ?_
                    refine lv_aload_n S.1 S.2.1 dX5_vein_125 rfl (lv_at hl 1 rfl) ?_
                    refine z_get (v := .int (zI (c.1 3))) S inA5 hK hP 0 rfl rfl 3 (by decide) fl_X5_72 rfl dX5_vein_126 ?_
                    refine lv_iload S.1 S.2.1 dX5_vein_129 (lv_at hl 7 rfl) ?_
                    refine z_iast (F := c.2 1) S hK hP (MW_D hda _) hS 2 rfl (by decide) (by omega) dX5_vein_131 (fun H locs hP hS => ?_)
                    have hP : va_P D vwCl (MW g b (sA (sA (sS c 0 0) 0 (upZ (c.2 0) (c.1 3) dp)) 1 (upZ (c.2 1) (c.1 3) fl))) H := hP
                    refine lv_aload_n S.1 S.2.1 dX5_vein_132 rfl (lv_at hl 1 rfl) ?_
                    refine lv_aload_n S.1 S.2.1 dX5_vein_133 rfl (lv_at hl 1 rfl) ?_
                    refine z_get (v := .int (zI (c.1 3))) S inA5 hK hP 0 rfl rfl 3 (by decide) fl_X5_72 rfl dX5_vein_134 ?_
                    refine z_bipush S (by decide) dX5_vein_137 ?_
                    refine lv_iload_n S.1 S.2.1 dX5_vein_139 rfl (lv_at hl 3 rfl) ?_
                    refine z_imul S dX5_vein_140 ?_
                    refine lv_iload_n S.1 S.2.1 dX5_vein_141 rfl (lv_at hl 2 rfl) ?_
                    refine z_iadd S dX5_vein_142 ?_
                    refine z_bipush S (by decide) dX5_vein_143 ?_
                    refine lv_iload S.1 S.2.1 dX5_vein_145 (lv_at hl 5 rfl) ?_
                    refine z_imul S dX5_vein_147 ?_
                    refine lv_iload_n S.1 S.2.1 dX5_vein_148 rfl (lv_at hl 4 rfl) ?_
                    refine z_iadd S dX5_vein_149 ?_
                    have hw : MW g b (sA (sA (sS c 0 0) 0 (upZ (c.2 0) (c.1 3) dp)) 1 (upZ (c.2 1) (c.1 3) fl)) = MW g b (mOpn c dp fl) := by rfl
                    rw [hw] at hP
                    refine z_wVv (As := [.int (zI (c.1 3)), .int (zI ((20 * y) + x)), .int (zI ((20 * ty) + tx))]) (rest := []) S (m_X5_layOut l D g b (mOpn c dp fl) (mOpn_IM hI dp fl (by omega) (by omega)) hda (c.1 3) ((20 * y) + x) ((20 * ty) + tx) (by omega) (by omega) (by omega) (mby_in (by omega) (by omega) (by omega))) ml_X5_92 im_X5_layOut se_X5_layOut ini_X5 cd_X5_layOut ds_X5_layOut ⟨Nat.le_of_ble_eq_true rfl, Nat.le_of_ble_eq_true rfl⟩ hK hP (va_recv hK.1 hP (ci := 5) (q0 := 0) rfl rfl) rfl hl.1 rfl (Nat.le_of_ble_eq_true rfl) ⟨Nat.zero_le _, Nat.zero_le _⟩ hS (fun _ h => h) dX5_vein_150 (fun H locs hP _ _ hS => ?_)
                    refine lv_aload_n S.1 S.2.1 dX5_vein_153 rfl (lv_at hl 1 rfl) ?_
                    refine lv_dup S.1 S.2.1 dX5_vein_154 rfl ?_
                    refine z_get (v := .int (zI ((mLay (mOpn c dp fl) (c.1 3) ((20 * y) + x) ((20 * ty) + tx)).1 3))) S inA5 hK hP 0 rfl rfl 3 (by decide) fl_X5_72 rfl dX5_vein_155 ?_
                    refine z_iconst S dX5_vein_158 ?_
                    refine z_iadd S dX5_vein_159 ?_
                    refine z_put S inA5 tyX5 tyX5_ok nmX5 hK hP (MW_D hda _) hS 0 rfl rfl 3 (by decide) fl_X5_72 rfl (by decide +kernel) (Nat.le_of_ble_eq_true rfl) dX5_vein_160 (fun H locs hP hS => ?_)
                    have hP : va_P D vwCl (MW g b (sS (mLay (mOpn c dp fl) (c.1 3) ((20 * y) + x) ((20 * ty) + tx)) 3 (((mLay (mOpn c dp fl) (c.1 3) ((20 * y) + x) ((20 * ty) + tx)).1 3) + 1))) H := hP
                    refine lv_aload_n S.1 S.2.1 dX5_vein_163 rfl (lv_at hl 1 rfl) ?_
                    refine z_get (v := .int (zI (((mLay (mOpn c dp fl) (c.1 3) ((20 * y) + x) ((20 * ty) + tx)).1 3) + 1))) S inA5 hK hP 0 rfl rfl 3 (by decide) fl_X5_72 rfl dX5_vein_164 ?_
                    refine z_iconst S dX5_vein_167 ?_
                    refine z_isub S dX5_vein_168 ?_
                    have hw : MW g b (sS (mLay (mOpn c dp fl) (c.1 3) ((20 * y) + x) ((20 * ty) + tx)) 3 (((mLay (mOpn c dp fl) (c.1 3) ((20 * y) + x) ((20 * ty) + tx)).1 3) + 1)) = MW g b (mC c (jVein c x y tx ty dp fl) (mVein c x y tx ty dp fl)) := by first | (rw [show jVein c x y tx ty dp fl = 0 from (by unfold jVein; repeat (first | rw [if_pos (by omega)] | rw [if_neg (by omega)]))]; rfl)
                    rw [hw] at hP
                    exact z_retw S hr hlk (by first | (rw [show jVein c x y tx ty dp fl = 0 from (by unfold jVein; repeat (first | rw [if_pos (by omega)] | rw [if_neg (by omega)]))]; (show _ = ((mLay (mOpn c dp fl) (c.1 3) (20 * y + x) (20 * ty + tx)).1 3 + 1 - 1); first | rfl | grind))) hP hS dX5_vein_169
                  · refine lv_aload_n S.1 S.2.1 dX5_vein_104 rfl (lv_at hl 1 rfl) ?_
                    refine z_iconst S dX5_vein_105 ?_
                    refine z_wV (As := [.int (zI 3)]) (rest := []) S (m_X5_no l D g b (sS c 0 0) (hI.n0 (v := 0)) hda 3) ml_X5_89 im_X5_no se_X5_no ini_X5 cd_X5_no ds_X5_no ⟨Nat.le_of_ble_eq_true rfl, Nat.le_of_ble_eq_true rfl⟩ hK hP (va_recv hK.1 hP (ci := 5) (q0 := 0) rfl rfl) rfl hl.1 rfl (Nat.le_of_ble_eq_true rfl) ⟨Nat.zero_le _, Nat.zero_le _⟩ hS (fun _ h => h) dX5_vein_106 (fun H locs hP _ _ hS => ?_)
                    have hw : MW g b (sS (sS c 0 0) 0 3) = MW g b (mC c (jVein c x y tx ty dp fl) (mVein c x y tx ty dp fl)) := by first | (rw [show jVein c x y tx ty dp fl = 3 from (by unfold jVein; repeat (first | rw [if_pos (by omega)] | rw [if_neg (by omega)]))]; rfl)
                    rw [hw] at hP
                    exact z_retw S hr hlk (by first | (rw [show jVein c x y tx ty dp fl = 3 from (by unfold jVein; repeat (first | rw [if_pos (by omega)] | rw [if_neg (by omega)]))]; rfl)) hP hS dX5_vein_109
                · refine lv_aload_n S.1 S.2.1 dX5_vein_89 rfl (lv_at hl 1 rfl) ?_
                  refine z_iconst S dX5_vein_90 ?_
                  refine z_wV (As := [.int (zI 2)]) (rest := []) S (m_X5_no l D g b (sS c 0 0) (hI.n0 (v := 0)) hda 2) ml_X5_89 im_X5_no se_X5_no ini_X5 cd_X5_no ds_X5_no ⟨Nat.le_of_ble_eq_true rfl, Nat.le_of_ble_eq_true rfl⟩ hK hP (va_recv hK.1 hP (ci := 5) (q0 := 0) rfl rfl) rfl hl.1 rfl (Nat.le_of_ble_eq_true rfl) ⟨Nat.zero_le _, Nat.zero_le _⟩ hS (fun _ h => h) dX5_vein_91 (fun H locs hP _ _ hS => ?_)
                  have hw : MW g b (sS (sS c 0 0) 0 2) = MW g b (mC c (jVein c x y tx ty dp fl) (mVein c x y tx ty dp fl)) := by first | (rw [show jVein c x y tx ty dp fl = 2 from (by unfold jVein; repeat (first | rw [if_pos (by omega)] | rw [if_neg (by omega)]))]; rfl)
                  rw [hw] at hP
                  exact z_retw S hr hlk (by first | (rw [show jVein c x y tx ty dp fl = 2 from (by unfold jVein; repeat (first | rw [if_pos (by omega)] | rw [if_neg (by omega)]))]; rfl)) hP hS dX5_vein_94
    · refine lv_aload_n S.1 S.2.1 dX5_vein_22 rfl (lv_at hl 0 rfl) ?_
      refine z_iconst S dX5_vein_23 ?_
      refine z_wV (As := [.int (zI 1)]) (rest := []) S (m_X5_no l D g b (sS c 0 0) (hI.n0 (v := 0)) hda 1) ml_X5_89 im_X5_no se_X5_no ini_X5 cd_X5_no ds_X5_no ⟨Nat.le_of_ble_eq_true rfl, Nat.le_of_ble_eq_true rfl⟩ hK hP (va_recv hK.1 hP (ci := 5) (q0 := 0) rfl rfl) rfl hl.1 rfl (Nat.le_of_ble_eq_true rfl) ⟨Nat.zero_le _, Nat.zero_le _⟩ hS (fun _ h => h) dX5_vein_24 (fun H locs hP _ _ hS => ?_)
      have hw : MW g b (sS (sS c 0 0) 0 1) = MW g b (mC c (jVein c x y tx ty dp fl) (mVein c x y tx ty dp fl)) := by first | (rw [show jVein c x y tx ty dp fl = 1 from (by unfold jVein; repeat (first | rw [if_pos (by omega)] | rw [if_neg (by omega)]))]; rfl)
      rw [hw] at hP
      exact z_retw S hr hlk (by first | (rw [show jVein c x y tx ty dp fl = 1 from (by unfold jVein; repeat (first | rw [if_pos (by omega)] | rw [if_neg (by omega)]))]; rfl)) hP hS dX5_vein_27
set_option maxHeartbeats 4000000 in
set_option maxRecDepth 100000 in
theorem m_X5_dowser (l : Launch) (D : va_G) (g : ClassId × ClassId × ClassId) (b : Nat → Nat) {B : Int} (c : CS) (hI : IM B c) (hda : CD 14 b) (fl : Int) (ln : Int) (h0 : I32 fl) (h1 : I32 ln) : WRi l yX5_dowser cX5_dowser 3 (some .int) 1 22 D g (CA 14 b) (MW g b c) [.ref (b 0), .int (zI fl), .int (zI ln)] (MW g b (mC c (jDow c fl ln) (mDow c fl ln))) (mA (jDow c fl ln) (c.1 4)) := by
  refine z_enter RX5 (by decide) rfl (Nat.le_of_ble_eq_true rfl) ?_
  intro p e s m args below meth co S hr hlk hK hP ls hl
  have hl : lv_has ls 3 [(0, .ref (b 0)), (1, .int (zI fl)), (2, .int (zI ln))] := hl
  have hs := hI.s
  have hS : va_S (CA 14 b) s.heap s.heap [] := va_S.rf
  refine lv_aload_n S.1 S.2.1 dX5_dowser_0 rfl (lv_at hl 0 rfl) ?_
  refine z_iconst S dX5_dowser_1 ?_
  refine z_put S inA5 tyX5 tyX5_ok nmX5 hK hP (MW_D hda _) hS 0 rfl rfl 0 (by decide) fl_X5_53 rfl (by decide +kernel) (Nat.le_of_ble_eq_true rfl) dX5_dowser_2 (fun H locs hP hS => ?_)
  have hP : va_P D vwCl (MW g b (sS c 0 0)) H := hP
  refine lv_iload_n S.1 S.2.1 dX5_dowser_5 rfl (lv_at hl 1 rfl) ?_
  refine z_iconst S dX5_dowser_6 ?_
  refine z_bipush S (by decide) dX5_dowser_7 ?_
  refine z_rS (As := [.int (zI fl), .int (zI 0), .int (zI 9)]) (rest := []) S (m_X5_isIn l D g fl 0 9 (by omega)) ml_X5_56 sm_X5_isIn ini_X5 cd_X5_isIn ds_X5_isIn ⟨Nat.le_of_ble_eq_true rfl, Nat.le_of_ble_eq_true rfl⟩ hK va_P_nil rfl hl.1 rfl (Nat.le_of_ble_eq_true rfl) ⟨Nat.zero_le _, Nat.zero_le _⟩ dX5_dowser_9 ?_
  refine z_top (b01 (0 ≤ fl ∧ fl ≤ 9)) rfl ?_
  refine z_ifb_eq (tgt := 25) S dX5_dowser_12 (by decide) (fun h_1 => ?_) (fun h_1 => ?_)
  · refine lv_aload_n S.1 S.2.1 dX5_dowser_25 rfl (lv_at hl 0 rfl) ?_
    refine z_iconst S dX5_dowser_26 ?_
    refine z_wV (As := [.int (zI 1)]) (rest := []) S (m_X5_no l D g b (sS c 0 0) (hI.n0 (v := 0)) hda 1) ml_X5_89 im_X5_no se_X5_no ini_X5 cd_X5_no ds_X5_no ⟨Nat.le_of_ble_eq_true rfl, Nat.le_of_ble_eq_true rfl⟩ hK hP (va_recv hK.1 hP (ci := 5) (q0 := 0) rfl rfl) rfl hl.1 rfl (Nat.le_of_ble_eq_true rfl) ⟨Nat.zero_le _, Nat.zero_le _⟩ hS (fun _ h => h) dX5_dowser_27 (fun H locs hP _ _ hS => ?_)
    have hw : MW g b (sS (sS c 0 0) 0 1) = MW g b (mC c (jDow c fl ln) (mDow c fl ln)) := by first | (rw [show jDow c fl ln = 1 from (by unfold jDow; repeat (first | rw [if_pos (by omega)] | rw [if_neg (by omega)]))]; rfl)
    rw [hw] at hP
    exact z_retw S hr hlk (by first | (rw [show jDow c fl ln = 1 from (by unfold jDow; repeat (first | rw [if_pos (by omega)] | rw [if_neg (by omega)]))]; rfl)) hP hS dX5_dowser_30
  · refine lv_iload_n S.1 S.2.1 dX5_dowser_15 rfl (lv_at hl 2 rfl) ?_
    refine z_bipush S (by decide) dX5_dowser_16 ?_
    refine z_iconst S dX5_dowser_18 ?_
    refine z_rS (As := [.int (zI ln), .int (zI (-3)), .int (zI 3)]) (rest := []) S (m_X5_isIn l D g ln (-3) 3 (by omega)) ml_X5_56 sm_X5_isIn ini_X5 cd_X5_isIn ds_X5_isIn ⟨Nat.le_of_ble_eq_true rfl, Nat.le_of_ble_eq_true rfl⟩ hK va_P_nil rfl hl.1 rfl (Nat.le_of_ble_eq_true rfl) ⟨Nat.zero_le _, Nat.zero_le _⟩ dX5_dowser_19 ?_
    refine z_top (b01 ((-3) ≤ ln ∧ ln ≤ 3)) rfl ?_
    refine z_ifb_ne (tgt := 31) S dX5_dowser_22 (by decide) (fun h_2 => ?_) (fun h_2 => ?_)
    · refine lv_aload_n S.1 S.2.1 dX5_dowser_31 rfl (lv_at hl 0 rfl) ?_
      refine z_get (v := .int (zI (c.1 4))) S inA5 hK hP 0 rfl rfl 7 (by decide) fl_X5_60 rfl dX5_dowser_32 ?_
      refine z_iconst S dX5_dowser_35 ?_
      refine z_icmp_ne (tgt := 45) S dX5_dowser_36 (by decide) (by omega) (fun h_3 => ?_) (fun h_3 => ?_)
      · refine lv_aload_n S.1 S.2.1 dX5_dowser_45 rfl (lv_at hl 0 rfl) ?_
        refine z_get (v := .ref (b 4)) S inA5 hK hP 0 rfl rfl 8 (by decide) fl_X5_23 rfl dX5_dowser_46 ?_
        refine lv_aload_n S.1 S.2.1 dX5_dowser_49 rfl (lv_at hl 0 rfl) ?_
        refine z_get (v := .int (zI (c.1 4))) S inA5 hK hP 0 rfl rfl 7 (by decide) fl_X5_60 rfl dX5_dowser_50 ?_
        refine lv_iload_n S.1 S.2.1 dX5_dowser_53 rfl (lv_at hl 1 rfl) ?_
        refine z_iast (F := c.2 3) S hK hP (MW_D hda _) hS 4 rfl (by decide) (by omega) dX5_dowser_54 (fun H locs hP hS => ?_)
        have hP : va_P D vwCl (MW g b (sA (sS c 0 0) 3 (upZ (c.2 3) (c.1 4) fl))) H := hP
        refine lv_aload_n S.1 S.2.1 dX5_dowser_55 rfl (lv_at hl 0 rfl) ?_
        refine z_get (v := .ref (b 5)) S inA5 hK hP 0 rfl rfl 9 (by decide) fl_X5_26 rfl dX5_dowser_56 ?_
        refine lv_aload_n S.1 S.2.1 dX5_dowser_59 rfl (lv_at hl 0 rfl) ?_
        refine z_get (v := .int (zI (c.1 4))) S inA5 hK hP 0 rfl rfl 7 (by decide) fl_X5_60 rfl dX5_dowser_60 ?_
        refine lv_iload_n S.1 S.2.1 dX5_dowser_63 rfl (lv_at hl 2 rfl) ?_
        refine z_iast (F := c.2 4) S hK hP (MW_D hda _) hS 5 rfl (by decide) (by omega) dX5_dowser_64 (fun H locs hP hS => ?_)
        have hP : va_P D vwCl (MW g b (sA (sA (sS c 0 0) 3 (upZ (c.2 3) (c.1 4) fl)) 4 (upZ (c.2 4) (c.1 4) ln))) H := hP
        refine lv_aload_n S.1 S.2.1 dX5_dowser_65 rfl (lv_at hl 0 rfl) ?_
        refine z_get (v := .ref (b 6)) S inA5 hK hP 0 rfl rfl 10 (by decide) fl_X5_29 rfl dX5_dowser_66 ?_
        refine lv_aload_n S.1 S.2.1 dX5_dowser_69 rfl (lv_at hl 0 rfl) ?_
        refine z_get (v := .int (zI (c.1 4))) S inA5 hK hP 0 rfl rfl 7 (by decide) fl_X5_60 rfl dX5_dowser_70 ?_
        refine z_bipush S (by decide) dX5_dowser_73 ?_
        refine z_iast (F := c.2 5) S hK hP (MW_D hda _) hS 6 rfl (by decide) (by omega) dX5_dowser_75 (fun H locs hP hS => ?_)
        have hP : va_P D vwCl (MW g b (sA (sA (sA (sS c 0 0) 3 (upZ (c.2 3) (c.1 4) fl)) 4 (upZ (c.2 4) (c.1 4) ln)) 5 (upZ (c.2 5) (c.1 4) 50))) H := hP
        refine lv_aload_n S.1 S.2.1 dX5_dowser_76 rfl (lv_at hl 0 rfl) ?_
        refine lv_dup S.1 S.2.1 dX5_dowser_77 rfl ?_
        refine z_get (v := .int (zI (c.1 4))) S inA5 hK hP 0 rfl rfl 7 (by decide) fl_X5_60 rfl dX5_dowser_78 ?_
        refine z_iconst S dX5_dowser_81 ?_
        refine z_iadd S dX5_dowser_82 ?_
        refine z_put S inA5 tyX5 tyX5_ok nmX5 hK hP (MW_D hda _) hS 0 rfl rfl 7 (by decide) fl_X5_60 rfl (by decide +kernel) (Nat.le_of_ble_eq_true rfl) dX5_dowser_83 (fun H locs hP hS => ?_)
        have hP : va_P D vwCl (MW g b (sS (sA (sA (sA (sS c 0 0) 3 (upZ (c.2 3) (c.1 4) fl)) 4 (upZ (c.2 4) (c.1 4) ln)) 5 (upZ (c.2 5) (c.1 4) 50)) 4 ((c.1 4) + 1))) H := hP
        refine lv_aload_n S.1 S.2.1 dX5_dowser_86 rfl (lv_at hl 0 rfl) ?_
        refine z_get (v := .int (zI ((c.1 4) + 1))) S inA5 hK hP 0 rfl rfl 7 (by decide) fl_X5_60 rfl dX5_dowser_87 ?_
        refine z_iconst S dX5_dowser_90 ?_
        refine z_isub S dX5_dowser_91 ?_
        have hw : MW g b (sS (sA (sA (sA (sS c 0 0) 3 (upZ (c.2 3) (c.1 4) fl)) 4 (upZ (c.2 4) (c.1 4) ln)) 5 (upZ (c.2 5) (c.1 4) 50)) 4 ((c.1 4) + 1)) = MW g b (mC c (jDow c fl ln) (mDow c fl ln)) := by first | (rw [show jDow c fl ln = 0 from (by unfold jDow; repeat (first | rw [if_pos (by omega)] | rw [if_neg (by omega)]))]; rfl)
        rw [hw] at hP
        exact z_retw S hr hlk (by first | (rw [show jDow c fl ln = 0 from (by unfold jDow; repeat (first | rw [if_pos (by omega)] | rw [if_neg (by omega)]))]; (show _ = (c.1 4); first | rfl | grind))) hP hS dX5_dowser_92
      · refine lv_aload_n S.1 S.2.1 dX5_dowser_39 rfl (lv_at hl 0 rfl) ?_
        refine z_iconst S dX5_dowser_40 ?_
        refine z_wV (As := [.int (zI 2)]) (rest := []) S (m_X5_no l D g b (sS c 0 0) (hI.n0 (v := 0)) hda 2) ml_X5_89 im_X5_no se_X5_no ini_X5 cd_X5_no ds_X5_no ⟨Nat.le_of_ble_eq_true rfl, Nat.le_of_ble_eq_true rfl⟩ hK hP (va_recv hK.1 hP (ci := 5) (q0 := 0) rfl rfl) rfl hl.1 rfl (Nat.le_of_ble_eq_true rfl) ⟨Nat.zero_le _, Nat.zero_le _⟩ hS (fun _ h => h) dX5_dowser_41 (fun H locs hP _ _ hS => ?_)
        have hw : MW g b (sS (sS c 0 0) 0 2) = MW g b (mC c (jDow c fl ln) (mDow c fl ln)) := by first | (rw [show jDow c fl ln = 2 from (by unfold jDow; repeat (first | rw [if_pos (by omega)] | rw [if_neg (by omega)]))]; rfl)
        rw [hw] at hP
        exact z_retw S hr hlk (by first | (rw [show jDow c fl ln = 2 from (by unfold jDow; repeat (first | rw [if_pos (by omega)] | rw [if_neg (by omega)]))]; rfl)) hP hS dX5_dowser_44
    · refine lv_aload_n S.1 S.2.1 dX5_dowser_25 rfl (lv_at hl 0 rfl) ?_
      refine z_iconst S dX5_dowser_26 ?_
      refine z_wV (As := [.int (zI 1)]) (rest := []) S (m_X5_no l D g b (sS c 0 0) (hI.n0 (v := 0)) hda 1) ml_X5_89 im_X5_no se_X5_no ini_X5 cd_X5_no ds_X5_no ⟨Nat.le_of_ble_eq_true rfl, Nat.le_of_ble_eq_true rfl⟩ hK hP (va_recv hK.1 hP (ci := 5) (q0 := 0) rfl rfl) rfl hl.1 rfl (Nat.le_of_ble_eq_true rfl) ⟨Nat.zero_le _, Nat.zero_le _⟩ hS (fun _ h => h) dX5_dowser_27 (fun H locs hP _ _ hS => ?_)
      have hw : MW g b (sS (sS c 0 0) 0 1) = MW g b (mC c (jDow c fl ln) (mDow c fl ln)) := by first | (rw [show jDow c fl ln = 1 from (by unfold jDow; repeat (first | rw [if_pos (by omega)] | rw [if_neg (by omega)]))]; rfl)
      rw [hw] at hP
      exact z_retw S hr hlk (by first | (rw [show jDow c fl ln = 1 from (by unfold jDow; repeat (first | rw [if_pos (by omega)] | rw [if_neg (by omega)]))]; rfl)) hP hS dX5_dowser_30
set_option maxHeartbeats 4000000 in
set_option maxRecDepth 100000 in
theorem m_X5_setMark (l : Launch) (D : va_G) (g : ClassId × ClassId × ClassId) (b : Nat → Nat) {B : Int} (c : CS) (hI : IM B c) (hda : CD 14 b) (mk : Int) (h0 : I32 mk) : WRi l yX5_setMark cX5_setMark 3 (some .int) 1 22 D g (CA 14 b) (MW g b c) [.ref (b 0), .int (zI mk)] (MW g b (mC c (jMark mk) (sS (sS c 0 0) 1 mk))) (mA (jMark mk) (c.1 1)) := by
  refine z_enter RX5 (by decide) rfl (Nat.le_of_ble_eq_true rfl) ?_
  intro p e s m args below meth co S hr hlk hK hP ls hl
  have hl : lv_has ls 3 [(0, .ref (b 0)), (1, .int (zI mk))] := hl
  have hs := hI.s
  have hS : va_S (CA 14 b) s.heap s.heap [] := va_S.rf
  refine lv_aload_n S.1 S.2.1 dX5_setMark_0 rfl (lv_at hl 0 rfl) ?_
  refine z_iconst S dX5_setMark_1 ?_
  refine z_put S inA5 tyX5 tyX5_ok nmX5 hK hP (MW_D hda _) hS 0 rfl rfl 0 (by decide) fl_X5_53 rfl (by decide +kernel) (Nat.le_of_ble_eq_true rfl) dX5_setMark_2 (fun H locs hP hS => ?_)
  have hP : va_P D vwCl (MW g b (sS c 0 0)) H := hP
  refine lv_iload_n S.1 S.2.1 dX5_setMark_5 rfl (lv_at hl 1 rfl) ?_
  refine z_iconst S dX5_setMark_6 ?_
  refine z_bipush S (by decide) dX5_setMark_7 ?_
  refine z_rS (As := [.int (zI mk), .int (zI 1), .int (zI 30)]) (rest := []) S (m_X5_isIn l D g mk 1 30 (by omega)) ml_X5_56 sm_X5_isIn ini_X5 cd_X5_isIn ds_X5_isIn ⟨Nat.le_of_ble_eq_true rfl, Nat.le_of_ble_eq_true rfl⟩ hK va_P_nil rfl hl.1 rfl (Nat.le_of_ble_eq_true rfl) ⟨Nat.zero_le _, Nat.zero_le _⟩ dX5_setMark_9 ?_
  refine z_top (b01 (1 ≤ mk ∧ mk ≤ 30)) rfl ?_
  refine z_ifb_ne (tgt := 21) S dX5_setMark_12 (by decide) (fun h_1 => ?_) (fun h_1 => ?_)
  · refine lv_aload_n S.1 S.2.1 dX5_setMark_21 rfl (lv_at hl 0 rfl) ?_
    refine z_get (v := .int (zI (c.1 1))) S inA5 hK hP 0 rfl rfl 1 (by decide) fl_X5_9 rfl dX5_setMark_22 ?_
    refine lv_istore_n (lv' := [(2, .int (zI (c.1 1))), (0, .ref (b 0)), (1, .int (zI mk))]) S.1 S.2.1 dX5_setMark_25 rfl hl (by decide) rfl (fun ls hl => ?_)
    refine lv_aload_n S.1 S.2.1 dX5_setMark_26 rfl (lv_at hl 1 rfl) ?_
    refine lv_iload_n S.1 S.2.1 dX5_setMark_27 rfl (lv_at hl 2 rfl) ?_
    refine z_put S inA5 tyX5 tyX5_ok nmX5 hK hP (MW_D hda _) hS 0 rfl rfl 1 (by decide) fl_X5_9 rfl (by decide +kernel) (Nat.le_of_ble_eq_true rfl) dX5_setMark_28 (fun H locs hP hS => ?_)
    have hP : va_P D vwCl (MW g b (sS (sS c 0 0) 1 mk)) H := hP
    refine lv_iload_n S.1 S.2.1 dX5_setMark_31 rfl (lv_at hl 0 rfl) ?_
    have hw : MW g b (sS (sS c 0 0) 1 mk) = MW g b (mC c (jMark mk) (sS (sS c 0 0) 1 mk)) := by first | (rw [show jMark mk = 0 from (by unfold jMark; repeat (first | rw [if_pos (by omega)] | rw [if_neg (by omega)]))]; rfl)
    rw [hw] at hP
    exact z_retw S hr hlk (by first | (rw [show jMark mk = 0 from (by unfold jMark; repeat (first | rw [if_pos (by omega)] | rw [if_neg (by omega)]))]; (show _ = (c.1 1); first | rfl | grind))) hP hS dX5_setMark_32
  · refine lv_aload_n S.1 S.2.1 dX5_setMark_15 rfl (lv_at hl 0 rfl) ?_
    refine z_iconst S dX5_setMark_16 ?_
    refine z_wV (As := [.int (zI 1)]) (rest := []) S (m_X5_no l D g b (sS c 0 0) (hI.n0 (v := 0)) hda 1) ml_X5_89 im_X5_no se_X5_no ini_X5 cd_X5_no ds_X5_no ⟨Nat.le_of_ble_eq_true rfl, Nat.le_of_ble_eq_true rfl⟩ hK hP (va_recv hK.1 hP (ci := 5) (q0 := 0) rfl rfl) rfl hl.1 rfl (Nat.le_of_ble_eq_true rfl) ⟨Nat.zero_le _, Nat.zero_le _⟩ hS (fun _ h => h) dX5_setMark_17 (fun H locs hP _ _ hS => ?_)
    have hw : MW g b (sS (sS c 0 0) 0 1) = MW g b (mC c (jMark mk) (sS (sS c 0 0) 1 mk)) := by first | (rw [show jMark mk = 1 from (by unfold jMark; repeat (first | rw [if_pos (by omega)] | rw [if_neg (by omega)]))]; rfl)
    rw [hw] at hP
    exact z_retw S hr hlk (by first | (rw [show jMark mk = 1 from (by unfold jMark; repeat (first | rw [if_pos (by omega)] | rw [if_neg (by omega)]))]; rfl)) hP hS dX5_setMark_20
set_option maxHeartbeats 4000000 in
set_option maxRecDepth 100000 in
theorem m_X5_walk (l : Launch) (D : va_G) (g : ClassId × ClassId × ClassId) (b : Nat → Nat) {B : Int} (c : CS) (hI : IM B c) (hda : CD 14 b) (d : Int) (x : Int) (y : Int) (tx : Int) (ty : Int) (h0 : I32 d) (h1 : I32 x) (h2 : I32 y) (h3 : I32 tx) (h4 : I32 ty) : WRi l yX5_walk cX5_walk 10 (some .int) 3 69 D g (CA 14 b) (MW g b c) [.ref (b 0), .int (zI d), .int (zI x), .int (zI y), .int (zI tx), .int (zI ty)] (MW g b (mC c (jWalk c d x y tx ty) (mWkC c d x y tx ty))) (mA (jWalk c d x y tx ty) (mWkR c d x y tx ty)) := by
  refine z_enter RX5 (by decide) rfl (Nat.le_of_ble_eq_true rfl) ?_
  intro p e s m args below meth co S hr hlk hK hP ls hl
  have hl : lv_has ls 10 [(0, .ref (b 0)), (1, .int (zI d)), (2, .int (zI x)), (3, .int (zI y)), (4, .int (zI tx)), (5, .int (zI ty))] := hl
  have hs := hI.s
  have hS : va_S (CA 14 b) s.heap s.heap [] := va_S.rf
  refine lv_aload_n S.1 S.2.1 dX5_walk_0 rfl (lv_at hl 0 rfl) ?_
  refine z_iconst S dX5_walk_1 ?_
  refine z_put S inA5 tyX5 tyX5_ok nmX5 hK hP (MW_D hda _) hS 0 rfl rfl 0 (by decide) fl_X5_53 rfl (by decide +kernel) (Nat.le_of_ble_eq_true rfl) dX5_walk_2 (fun H locs hP hS => ?_)
  have hP : va_P D vwCl (MW g b (sS c 0 0)) H := hP
  refine lv_aload_n S.1 S.2.1 dX5_walk_5 rfl (lv_at hl 0 rfl) ?_
  refine lv_iload_n S.1 S.2.1 dX5_walk_6 rfl (lv_at hl 1 rfl) ?_
  refine z_rV (As := [.int (zI d)]) (rest := []) S (m_X5_isDowser l D g b (sS c 0 0) (hI.n0 (v := 0)) d (by omega)) ml_X5_102 im_X5_isDowser se_X5_isDowser ini_X5 cd_X5_isDowser ds_X5_isDowser ⟨Nat.le_of_ble_eq_true rfl, Nat.le_of_ble_eq_true rfl⟩ hK hP (va_recv hK.1 hP (ci := 5) (q0 := 0) rfl rfl) rfl hl.1 rfl (Nat.le_of_ble_eq_true rfl) ⟨Nat.zero_le _, Nat.zero_le _⟩ dX5_walk_7 ?_
  refine z_top (b01 (mD c d)) rfl ?_
  refine z_ifb_eq (tgt := 31) S dX5_walk_10 (by decide) (fun h_1 => ?_) (fun h_1 => ?_)
  · refine lv_aload_n S.1 S.2.1 dX5_walk_31 rfl (lv_at hl 0 rfl) ?_
    refine z_iconst S dX5_walk_32 ?_
    refine z_wV (As := [.int (zI 1)]) (rest := []) S (m_X5_no l D g b (sS c 0 0) (hI.n0 (v := 0)) hda 1) ml_X5_89 im_X5_no se_X5_no ini_X5 cd_X5_no ds_X5_no ⟨Nat.le_of_ble_eq_true rfl, Nat.le_of_ble_eq_true rfl⟩ hK hP (va_recv hK.1 hP (ci := 5) (q0 := 0) rfl rfl) rfl hl.1 rfl (Nat.le_of_ble_eq_true rfl) ⟨Nat.zero_le _, Nat.zero_le _⟩ hS (fun _ h => h) dX5_walk_33 (fun H locs hP _ _ hS => ?_)
    have hw : MW g b (sS (sS c 0 0) 0 1) = MW g b (mC c (jWalk c d x y tx ty) (mWkC c d x y tx ty)) := by first | (rw [show jWalk c d x y tx ty = 1 from (by unfold jWalk; repeat (first | rw [if_pos (by omega)] | rw [if_neg (by omega)]))]; rfl)
    rw [hw] at hP
    exact z_retw S hr hlk (by first | (rw [show jWalk c d x y tx ty = 1 from (by unfold jWalk; repeat (first | rw [if_pos (by omega)] | rw [if_neg (by omega)]))]; rfl)) hP hS dX5_walk_36
  · refine lv_iload_n S.1 S.2.1 dX5_walk_13 rfl (lv_at hl 2 rfl) ?_
    refine lv_iload_n S.1 S.2.1 dX5_walk_14 rfl (lv_at hl 3 rfl) ?_
    refine z_rS (As := [.int (zI x), .int (zI y)]) (rest := []) S (m_X5_isSpot l D g x y (by omega)) ml_X5_86 sm_X5_isSpot ini_X5 cd_X5_isSpot ds_X5_isSpot ⟨Nat.le_of_ble_eq_true rfl, Nat.le_of_ble_eq_true rfl⟩ hK va_P_nil rfl hl.1 rfl (Nat.le_of_ble_eq_true rfl) ⟨Nat.zero_le _, Nat.zero_le _⟩ dX5_walk_15 ?_
    refine z_top (b01 (inF x y)) rfl ?_
    refine z_ifb_eq (tgt := 31) S dX5_walk_18 (by decide) (fun h_2 => ?_) (fun h_2 => ?_)
    · refine lv_aload_n S.1 S.2.1 dX5_walk_31 rfl (lv_at hl 0 rfl) ?_
      refine z_iconst S dX5_walk_32 ?_
      refine z_wV (As := [.int (zI 1)]) (rest := []) S (m_X5_no l D g b (sS c 0 0) (hI.n0 (v := 0)) hda 1) ml_X5_89 im_X5_no se_X5_no ini_X5 cd_X5_no ds_X5_no ⟨Nat.le_of_ble_eq_true rfl, Nat.le_of_ble_eq_true rfl⟩ hK hP (va_recv hK.1 hP (ci := 5) (q0 := 0) rfl rfl) rfl hl.1 rfl (Nat.le_of_ble_eq_true rfl) ⟨Nat.zero_le _, Nat.zero_le _⟩ hS (fun _ h => h) dX5_walk_33 (fun H locs hP _ _ hS => ?_)
      have hw : MW g b (sS (sS c 0 0) 0 1) = MW g b (mC c (jWalk c d x y tx ty) (mWkC c d x y tx ty)) := by first | (rw [show jWalk c d x y tx ty = 1 from (by unfold jWalk; repeat (first | rw [if_pos (by omega)] | rw [if_neg (by omega)]))]; rfl)
      rw [hw] at hP
      exact z_retw S hr hlk (by first | (rw [show jWalk c d x y tx ty = 1 from (by unfold jWalk; repeat (first | rw [if_pos (by omega)] | rw [if_neg (by omega)]))]; rfl)) hP hS dX5_walk_36
    · refine lv_iload S.1 S.2.1 dX5_walk_21 (lv_at hl 4 rfl) ?_
      refine lv_iload S.1 S.2.1 dX5_walk_23 (lv_at hl 5 rfl) ?_
      refine z_rS (As := [.int (zI tx), .int (zI ty)]) (rest := []) S (m_X5_isSpot l D g tx ty (by omega)) ml_X5_86 sm_X5_isSpot ini_X5 cd_X5_isSpot ds_X5_isSpot ⟨Nat.le_of_ble_eq_true rfl, Nat.le_of_ble_eq_true rfl⟩ hK va_P_nil rfl hl.1 rfl (Nat.le_of_ble_eq_true rfl) ⟨Nat.zero_le _, Nat.zero_le _⟩ dX5_walk_25 ?_
      refine z_top (b01 (inF tx ty)) rfl ?_
      refine z_ifb_ne (tgt := 37) S dX5_walk_28 (by decide) (fun h_3 => ?_) (fun h_3 => ?_)
      · have hb1 := ab_le (x := tx - x) (n := 19) (by omega)
        have hb2 := ab_le (x := ty - y) (n := 19) (by omega)
        have hd0 : 0 ≤ d ∧ d < 5 := by omega
        refine lv_iload S.1 S.2.1 dX5_walk_37 (lv_at hl 4 rfl) ?_
        refine lv_iload_n S.1 S.2.1 dX5_walk_39 rfl (lv_at hl 2 rfl) ?_
        refine z_icmp_ge (tgt := 47) S dX5_walk_40 (by decide) (by omega) (fun h_4 => ?_) (fun h_4 => ?_)
        · refine z_iconst S dX5_walk_47 ?_
          refine lv_istore (lv' := [(6, .int (zI 1)), (0, .ref (b 0)), (1, .int (zI d)), (2, .int (zI x)), (3, .int (zI y)), (4, .int (zI tx)), (5, .int (zI ty))]) S.1 S.2.1 dX5_walk_48 hl (by decide) rfl (fun ls hl => ?_)
          refine lv_iload S.1 S.2.1 dX5_walk_50 (lv_at hl 6 rfl) ?_
          refine lv_iload_n S.1 S.2.1 dX5_walk_52 rfl (lv_at hl 4 rfl) ?_
          refine z_icmp_ge (tgt := 60) S dX5_walk_53 (by decide) (by omega) (fun h_5 => ?_) (fun h_5 => ?_)
          · refine z_iconst S dX5_walk_60 ?_
            refine lv_istore (lv' := [(7, .int (zI 1)), (6, .int (zI 1)), (0, .ref (b 0)), (1, .int (zI d)), (2, .int (zI x)), (3, .int (zI y)), (4, .int (zI tx)), (5, .int (zI ty))]) S.1 S.2.1 dX5_walk_61 hl (by decide) rfl (fun ls hl => ?_)
            refine z_iconst S dX5_walk_63 ?_
            refine lv_istore (lv' := [(8, .int (zI 0)), (7, .int (zI 1)), (6, .int (zI 1)), (0, .ref (b 0)), (1, .int (zI d)), (2, .int (zI x)), (3, .int (zI y)), (4, .int (zI tx)), (5, .int (zI ty))]) S.1 S.2.1 dX5_walk_64 hl (by decide) rfl (fun ls hl => ?_)
            refine lv_iload_n S.1 S.2.1 dX5_walk_66 rfl (lv_at hl 5 rfl) ?_
            refine lv_istore (lv' := [(9, .int (zI x)), (8, .int (zI 0)), (7, .int (zI 1)), (6, .int (zI 1)), (0, .ref (b 0)), (1, .int (zI d)), (2, .int (zI x)), (3, .int (zI y)), (4, .int (zI tx)), (5, .int (zI ty))]) S.1 S.2.1 dX5_walk_67 hl (by decide) rfl (fun ls hl => ?_)
            have e_6 : x + acr x tx * ((0 : Nat) : Int) = x := by simp
            have hac1 : acr x tx = 1 := by unfold acr; first | rw [if_pos (by omega)] | rw [if_neg (by omega)]
            have hac2 : acr y ty = 1 := by unfold acr; first | rw [if_pos (by omega)] | rw [if_neg (by omega)]
            refine z_forW (D := D) (nL := 10) (A := (CA 14 b)) (H0 := s.heap) ((ab (tx - x)).toNat) (fun (k69 : Nat) => [(9, .int (zI (x + acr x tx * (k69 : Int)))), (8, .int (zI (mwR (sS c 0 0) d (m1 x y tx) k69))), (7, .int (zI 1)), (6, .int (zI 1)), (0, .ref (b 0)), (1, .int (zI d)), (2, .int (zI x)), (3, .int (zI y)), (4, .int (zI tx)), (5, .int (zI ty))]) (fun (k69 : Nat) => MW g b (mwC (sS c 0 0) d (m1 x y tx) k69)) (fun k69 => True) (fun k69 hk69 hJ69 H locs hP hS ls hl ih69 => ?_) (fun hJ69 H locs hP hS ls hl => ?_) 0 (by omega) trivial _ _ hP hS ls (lv_sub hl [0, 1, 2, 3, 4, 5, 6, 7, 8, 9] (by show _ = ([(9, .int (zI (x + acr x tx * ((0 : Nat) : Int)))), (8, .int (zI (mwR (sS c 0 0) d (m1 x y tx) 0))), (7, .int (zI 1)), (6, .int (zI 1)), (0, .ref (b 0)), (1, .int (zI d)), (2, .int (zI x)), (3, .int (zI y)), (4, .int (zI tx)), (5, .int (zI ty))] : List (Nat × Value)); rw [e_6]; first | done | rfl))
            · have hl : lv_has ls 10 [(9, .int (zI (x + acr x tx * (k69 : Int)))), (8, .int (zI (mwR (sS c 0 0) d (m1 x y tx) k69))), (7, .int (zI 1)), (6, .int (zI 1)), (0, .ref (b 0)), (1, .int (zI d)), (2, .int (zI x)), (3, .int (zI y)), (4, .int (zI tx)), (5, .int (zI ty))] := hl
              have hP : va_P D vwCl (MW g b (mwC (sS c 0 0) d (m1 x y tx) k69)) H := hP
              have hb3 := acr_in (x := x) (tx := tx) (by omega) (k := (k69 : Int)) (by omega)
              refine lv_iload S.1 S.2.1 dX5_walk_69 (lv_at hl 0 rfl) ?_
              refine lv_iload S.1 S.2.1 dX5_walk_71 (lv_at hl 8 rfl) ?_
              refine z_icmp_eq (tgt := 103) S dX5_walk_73 (by decide) (by omega) (fun h_7 => ?_) (fun h_7 => ?_)
              · exact absurd h_7 (acr_ne (by omega))
              · refine lv_iload S.1 S.2.1 dX5_walk_76 (lv_at hl 1 rfl) ?_
                refine lv_aload_n S.1 S.2.1 dX5_walk_78 rfl (lv_at hl 4 rfl) ?_
                refine lv_iload_n S.1 S.2.1 dX5_walk_79 rfl (lv_at hl 5 rfl) ?_
                refine z_bipush S (by decide) dX5_walk_80 ?_
                refine lv_iload_n S.1 S.2.1 dX5_walk_82 rfl (lv_at hl 7 rfl) ?_
                refine z_imul S dX5_walk_83 ?_
                refine lv_iload S.1 S.2.1 dX5_walk_84 (lv_at hl 0 rfl) ?_
                refine z_iadd S dX5_walk_86 ?_
                refine z_wV (As := [.int (zI d), .int (zI ((20 * y) + (x + acr x tx * (k69 : Int))))]) (rest := [.int (zI (mwR (sS c 0 0) d (m1 x y tx) k69))]) S (m_X5_marks l D g b (mwC (sS c 0 0) d (m1 x y tx) k69) (mwC_IM (hI.n0 (v := 0)) hd0 (m1 x y tx) k69) hda d ((20 * y) + (x + acr x tx * (k69 : Int))) (by omega) (by omega)) ml_X5_106 im_X5_marks se_X5_marks ini_X5 cd_X5_marks ds_X5_marks ⟨Nat.le_of_ble_eq_true rfl, Nat.le_of_ble_eq_true rfl⟩ hK hP (va_recv hK.1 hP (ci := 5) (q0 := 0) rfl rfl) rfl hl.1 rfl (Nat.le_of_ble_eq_true rfl) ⟨Nat.zero_le _, Nat.zero_le _⟩ hS (fun _ h => h) dX5_walk_87 (fun H locs hP _ _ hS => ?_)
                refine z_iadd S dX5_walk_90 ?_
                refine lv_istore (lv' := [(8, .int (zI ((mwR (sS c 0 0) d (m1 x y tx) k69) + (b01 (mMk (mwC (sS c 0 0) d (m1 x y tx) k69) d ((20 * y) + (x + acr x tx * (k69 : Int)))))))), (9, .int (zI (x + acr x tx * (k69 : Int)))), (7, .int (zI 1)), (6, .int (zI 1)), (0, .ref (b 0)), (1, .int (zI d)), (2, .int (zI x)), (3, .int (zI y)), (4, .int (zI tx)), (5, .int (zI ty))]) S.1 S.2.1 dX5_walk_91 hl (by decide) rfl (fun ls hl => ?_)
                refine lv_iload S.1 S.2.1 dX5_walk_93 (lv_at hl 1 rfl) ?_
                refine lv_iload S.1 S.2.1 dX5_walk_95 (lv_at hl 3 rfl) ?_
                refine z_iadd S dX5_walk_97 ?_
                refine lv_istore (lv' := [(9, .int (zI ((x + acr x tx * (k69 : Int)) + 1))), (8, .int (zI ((mwR (sS c 0 0) d (m1 x y tx) k69) + (b01 (mMk (mwC (sS c 0 0) d (m1 x y tx) k69) d ((20 * y) + (x + acr x tx * (k69 : Int)))))))), (7, .int (zI 1)), (6, .int (zI 1)), (0, .ref (b 0)), (1, .int (zI d)), (2, .int (zI x)), (3, .int (zI y)), (4, .int (zI tx)), (5, .int (zI ty))]) S.1 S.2.1 dX5_walk_98 hl (by decide) rfl (fun ls hl => ?_)
                refine z_goto (tgt := 69) S dX5_walk_100 (by decide) ?_
                have e_8 : x + acr x tx * ((k69 + 1 : Nat) : Int) = (x + acr x tx * (k69 : Int)) + 1 := by rw [hac1]; omega
                have hw : MW g b (mMkC (mwC (sS c 0 0) d (m1 x y tx) k69) d ((20 * y) + (x + acr x tx * (k69 : Int)))) = MW g b (mwC (sS c 0 0) d (m1 x y tx) (k69 + 1)) := by exact rfl
                rw [hw] at hP
                exact ih69 _ _ hP hS _ (lv_sub hl [0, 1, 2, 3, 4, 5, 6, 7, 8, 9] (by show _ = ([(9, .int (zI (x + acr x tx * ((k69 + 1 : Nat) : Int)))), (8, .int (zI (mwR (sS c 0 0) d (m1 x y tx) (k69 + 1)))), (7, .int (zI 1)), (6, .int (zI 1)), (0, .ref (b 0)), (1, .int (zI d)), (2, .int (zI x)), (3, .int (zI y)), (4, .int (zI tx)), (5, .int (zI ty))] : List (Nat × Value)); rw [e_8]; first | done | rfl)) trivial
            · have hl : lv_has ls 10 [(9, .int (zI (x + acr x tx * (((ab (tx - x)).toNat : Nat) : Int)))), (8, .int (zI (mwR (sS c 0 0) d (m1 x y tx) ((ab (tx - x)).toNat)))), (7, .int (zI 1)), (6, .int (zI 1)), (0, .ref (b 0)), (1, .int (zI d)), (2, .int (zI x)), (3, .int (zI y)), (4, .int (zI tx)), (5, .int (zI ty))] := hl
              have hP : va_P D vwCl (MW g b (mwC (sS c 0 0) d (m1 x y tx) ((ab (tx - x)).toNat))) H := hP
              have hb3 := acr_in (x := x) (tx := tx) (by omega) (k := (((ab (tx - x)).toNat : Nat) : Int)) (by omega)
              refine lv_iload S.1 S.2.1 dX5_walk_69 (lv_at hl 0 rfl) ?_
              refine lv_iload S.1 S.2.1 dX5_walk_71 (lv_at hl 8 rfl) ?_
              refine z_icmp_eq (tgt := 103) S dX5_walk_73 (by decide) (by omega) (fun h_9 => ?_) (fun h_9 => ?_)
              · refine lv_iload_n S.1 S.2.1 dX5_walk_103 rfl (lv_at hl 7 rfl) ?_
                refine lv_istore (lv' := [(9, .int (zI y)), (8, .int (zI (mwR (sS c 0 0) d (m1 x y tx) ((ab (tx - x)).toNat)))), (7, .int (zI 1)), (6, .int (zI 1)), (0, .ref (b 0)), (1, .int (zI d)), (2, .int (zI x)), (3, .int (zI y)), (4, .int (zI tx)), (5, .int (zI ty))]) S.1 S.2.1 dX5_walk_104 hl (by decide) rfl (fun ls hl => ?_)
                have e_10 : mwR (sS c 0 0) d (m1 x y tx) (ab (tx - x)).toNat + mwR (mWkA c d x y tx) d (m2 y tx ty) 0 = mwR (sS c 0 0) d (m1 x y tx) ((ab (tx - x)).toNat) := by exact Int.add_zero _
                have e_11 : y + acr y ty * ((0 : Nat) : Int) = y := by simp
                refine z_forW (D := D) (nL := 10) (A := (CA 14 b)) (H0 := s.heap) ((ab (ty - y)).toNat) (fun (k106 : Nat) => [(9, .int (zI (y + acr y ty * (k106 : Int)))), (8, .int (zI (mwR (sS c 0 0) d (m1 x y tx) (ab (tx - x)).toNat + mwR (mWkA c d x y tx) d (m2 y tx ty) k106))), (7, .int (zI 1)), (6, .int (zI 1)), (0, .ref (b 0)), (1, .int (zI d)), (2, .int (zI x)), (3, .int (zI y)), (4, .int (zI tx)), (5, .int (zI ty))]) (fun (k106 : Nat) => MW g b (mwC (mWkA c d x y tx) d (m2 y tx ty) k106)) (fun k106 => True) (fun k106 hk106 hJ106 H locs hP hS ls hl ih106 => ?_) (fun hJ106 H locs hP hS ls hl => ?_) 0 (by omega) trivial _ _ hP hS ls (lv_sub hl [0, 1, 2, 3, 4, 5, 6, 7, 8, 9] (by show _ = ([(9, .int (zI (y + acr y ty * ((0 : Nat) : Int)))), (8, .int (zI (mwR (sS c 0 0) d (m1 x y tx) (ab (tx - x)).toNat + mwR (mWkA c d x y tx) d (m2 y tx ty) 0))), (7, .int (zI 1)), (6, .int (zI 1)), (0, .ref (b 0)), (1, .int (zI d)), (2, .int (zI x)), (3, .int (zI y)), (4, .int (zI tx)), (5, .int (zI ty))] : List (Nat × Value)); rw [e_10, e_11]; first | done | rfl))
                · have hl : lv_has ls 10 [(9, .int (zI (y + acr y ty * (k106 : Int)))), (8, .int (zI (mwR (sS c 0 0) d (m1 x y tx) (ab (tx - x)).toNat + mwR (mWkA c d x y tx) d (m2 y tx ty) k106))), (7, .int (zI 1)), (6, .int (zI 1)), (0, .ref (b 0)), (1, .int (zI d)), (2, .int (zI x)), (3, .int (zI y)), (4, .int (zI tx)), (5, .int (zI ty))] := hl
                  have hP : va_P D vwCl (MW g b (mwC (mWkA c d x y tx) d (m2 y tx ty) k106)) H := hP
                  have hb4 := acr_in (x := y) (tx := ty) (by omega) (k := (k106 : Int)) (by omega)
                  refine lv_iload S.1 S.2.1 dX5_walk_106 (lv_at hl 0 rfl) ?_
                  refine lv_iload S.1 S.2.1 dX5_walk_108 (lv_at hl 9 rfl) ?_
                  refine z_icmp_eq (tgt := 141) S dX5_walk_110 (by decide) (by omega) (fun h_12 => ?_) (fun h_12 => ?_)
                  · exact absurd h_12 (acr_ne (by omega))
                  · refine lv_iload S.1 S.2.1 dX5_walk_113 (lv_at hl 1 rfl) ?_
                    refine lv_aload_n S.1 S.2.1 dX5_walk_115 rfl (lv_at hl 4 rfl) ?_
                    refine lv_iload_n S.1 S.2.1 dX5_walk_116 rfl (lv_at hl 5 rfl) ?_
                    refine z_bipush S (by decide) dX5_walk_117 ?_
                    refine lv_iload S.1 S.2.1 dX5_walk_119 (lv_at hl 0 rfl) ?_
                    refine z_imul S dX5_walk_121 ?_
                    refine lv_iload S.1 S.2.1 dX5_walk_122 (lv_at hl 8 rfl) ?_
                    refine z_iadd S dX5_walk_124 ?_
                    refine z_wV (As := [.int (zI d), .int (zI ((20 * (y + acr y ty * (k106 : Int))) + tx))]) (rest := [.int (zI (mwR (sS c 0 0) d (m1 x y tx) (ab (tx - x)).toNat + mwR (mWkA c d x y tx) d (m2 y tx ty) k106))]) S (m_X5_marks l D g b (mwC (mWkA c d x y tx) d (m2 y tx ty) k106) (mwC_IM (mwC_IM (hI.n0 (v := 0)) hd0 (m1 x y tx) (ab (tx - x)).toNat) hd0 (m2 y tx ty) k106) hda d ((20 * (y + acr y ty * (k106 : Int))) + tx) (by omega) (by omega)) ml_X5_106 im_X5_marks se_X5_marks ini_X5 cd_X5_marks ds_X5_marks ⟨Nat.le_of_ble_eq_true rfl, Nat.le_of_ble_eq_true rfl⟩ hK hP (va_recv hK.1 hP (ci := 5) (q0 := 0) rfl rfl) rfl hl.1 rfl (Nat.le_of_ble_eq_true rfl) ⟨Nat.zero_le _, Nat.zero_le _⟩ hS (fun _ h => h) dX5_walk_125 (fun H locs hP _ _ hS => ?_)
                    refine z_iadd S dX5_walk_128 ?_
                    refine lv_istore (lv' := [(8, .int (zI ((mwR (sS c 0 0) d (m1 x y tx) (ab (tx - x)).toNat + mwR (mWkA c d x y tx) d (m2 y tx ty) k106) + (b01 (mMk (mwC (mWkA c d x y tx) d (m2 y tx ty) k106) d ((20 * (y + acr y ty * (k106 : Int))) + tx)))))), (9, .int (zI (y + acr y ty * (k106 : Int)))), (7, .int (zI 1)), (6, .int (zI 1)), (0, .ref (b 0)), (1, .int (zI d)), (2, .int (zI x)), (3, .int (zI y)), (4, .int (zI tx)), (5, .int (zI ty))]) S.1 S.2.1 dX5_walk_129 hl (by decide) rfl (fun ls hl => ?_)
                    refine lv_iload S.1 S.2.1 dX5_walk_131 (lv_at hl 1 rfl) ?_
                    refine lv_iload S.1 S.2.1 dX5_walk_133 (lv_at hl 2 rfl) ?_
                    refine z_iadd S dX5_walk_135 ?_
                    refine lv_istore (lv' := [(9, .int (zI ((y + acr y ty * (k106 : Int)) + 1))), (8, .int (zI ((mwR (sS c 0 0) d (m1 x y tx) (ab (tx - x)).toNat + mwR (mWkA c d x y tx) d (m2 y tx ty) k106) + (b01 (mMk (mwC (mWkA c d x y tx) d (m2 y tx ty) k106) d ((20 * (y + acr y ty * (k106 : Int))) + tx)))))), (7, .int (zI 1)), (6, .int (zI 1)), (0, .ref (b 0)), (1, .int (zI d)), (2, .int (zI x)), (3, .int (zI y)), (4, .int (zI tx)), (5, .int (zI ty))]) S.1 S.2.1 dX5_walk_136 hl (by decide) rfl (fun ls hl => ?_)
                    refine z_goto (tgt := 106) S dX5_walk_138 (by decide) ?_
                    have e_13 : y + acr y ty * ((k106 + 1 : Nat) : Int) = (y + acr y ty * (k106 : Int)) + 1 := by rw [hac2]; omega
                    have e_14 : mwR (sS c 0 0) d (m1 x y tx) (ab (tx - x)).toNat + mwR (mWkA c d x y tx) d (m2 y tx ty) (k106 + 1) = (mwR (sS c 0 0) d (m1 x y tx) (ab (tx - x)).toNat + mwR (mWkA c d x y tx) d (m2 y tx ty) k106) + (b01 (mMk (mwC (mWkA c d x y tx) d (m2 y tx ty) k106) d ((20 * (y + acr y ty * (k106 : Int))) + tx))) := by rw [mwR]; exact (Int.add_assoc _ _ _).symm
                    have hw : MW g b (mMkC (mwC (mWkA c d x y tx) d (m2 y tx ty) k106) d ((20 * (y + acr y ty * (k106 : Int))) + tx)) = MW g b (mwC (mWkA c d x y tx) d (m2 y tx ty) (k106 + 1)) := by exact rfl
                    rw [hw] at hP
                    exact ih106 _ _ hP hS _ (lv_sub hl [0, 1, 2, 3, 4, 5, 6, 7, 8, 9] (by show _ = ([(9, .int (zI (y + acr y ty * ((k106 + 1 : Nat) : Int)))), (8, .int (zI (mwR (sS c 0 0) d (m1 x y tx) (ab (tx - x)).toNat + mwR (mWkA c d x y tx) d (m2 y tx ty) (k106 + 1)))), (7, .int (zI 1)), (6, .int (zI 1)), (0, .ref (b 0)), (1, .int (zI d)), (2, .int (zI x)), (3, .int (zI y)), (4, .int (zI tx)), (5, .int (zI ty))] : List (Nat × Value)); rw [e_13, e_14]; first | done | rfl)) trivial
                · have hl : lv_has ls 10 [(9, .int (zI (y + acr y ty * (((ab (ty - y)).toNat : Nat) : Int)))), (8, .int (zI (mwR (sS c 0 0) d (m1 x y tx) (ab (tx - x)).toNat + mwR (mWkA c d x y tx) d (m2 y tx ty) ((ab (ty - y)).toNat)))), (7, .int (zI 1)), (6, .int (zI 1)), (0, .ref (b 0)), (1, .int (zI d)), (2, .int (zI x)), (3, .int (zI y)), (4, .int (zI tx)), (5, .int (zI ty))] := hl
                  have hP : va_P D vwCl (MW g b (mwC (mWkA c d x y tx) d (m2 y tx ty) ((ab (ty - y)).toNat))) H := hP
                  have hb4 := acr_in (x := y) (tx := ty) (by omega) (k := (((ab (ty - y)).toNat : Nat) : Int)) (by omega)
                  refine lv_iload S.1 S.2.1 dX5_walk_106 (lv_at hl 0 rfl) ?_
                  refine lv_iload S.1 S.2.1 dX5_walk_108 (lv_at hl 9 rfl) ?_
                  refine z_icmp_eq (tgt := 141) S dX5_walk_110 (by decide) (by omega) (fun h_15 => ?_) (fun h_15 => ?_)
                  · refine lv_iload S.1 S.2.1 dX5_walk_141 (lv_at hl 1 rfl) ?_
                    refine lv_aload_n S.1 S.2.1 dX5_walk_143 rfl (lv_at hl 4 rfl) ?_
                    refine lv_iload_n S.1 S.2.1 dX5_walk_144 rfl (lv_at hl 5 rfl) ?_
                    refine z_bipush S (by decide) dX5_walk_145 ?_
                    refine lv_iload S.1 S.2.1 dX5_walk_147 (lv_at hl 9 rfl) ?_
                    refine z_imul S dX5_walk_149 ?_
                    refine lv_iload S.1 S.2.1 dX5_walk_150 (lv_at hl 8 rfl) ?_
                    refine z_iadd S dX5_walk_152 ?_
                    refine z_wV (As := [.int (zI d), .int (zI ((20 * ty) + tx))]) (rest := [.int (zI (mwR (sS c 0 0) d (m1 x y tx) (ab (tx - x)).toNat + mwR (mWkA c d x y tx) d (m2 y tx ty) ((ab (ty - y)).toNat)))]) S (m_X5_marks l D g b (mwC (mWkA c d x y tx) d (m2 y tx ty) ((ab (ty - y)).toNat)) (mwC_IM (mwC_IM (hI.n0 (v := 0)) hd0 (m1 x y tx) (ab (tx - x)).toNat) hd0 (m2 y tx ty) ((ab (ty - y)).toNat)) hda d ((20 * ty) + tx) (by omega) (by omega)) ml_X5_106 im_X5_marks se_X5_marks ini_X5 cd_X5_marks ds_X5_marks ⟨Nat.le_of_ble_eq_true rfl, Nat.le_of_ble_eq_true rfl⟩ hK hP (va_recv hK.1 hP (ci := 5) (q0 := 0) rfl rfl) rfl hl.1 rfl (Nat.le_of_ble_eq_true rfl) ⟨Nat.zero_le _, Nat.zero_le _⟩ hS (fun _ h => h) dX5_walk_153 (fun H locs hP _ _ hS => ?_)
                    refine z_iadd S dX5_walk_156 ?_
                    have hw : MW g b (mMkC (mwC (mWkA c d x y tx) d (m2 y tx ty) ((ab (ty - y)).toNat)) d ((20 * ty) + tx)) = MW g b (mC c (jWalk c d x y tx ty) (mWkC c d x y tx ty)) := by first | (rw [show jWalk c d x y tx ty = 0 from (by unfold jWalk; repeat (first | rw [if_pos (by omega)] | rw [if_neg (by omega)]))]; rfl)
                    rw [hw] at hP
                    exact z_retw S hr hlk (by first | (rw [show jWalk c d x y tx ty = 0 from (by unfold jWalk; repeat (first | rw [if_pos (by omega)] | rw [if_neg (by omega)]))]; (show _ = (mWkR c d x y tx ty); first | rfl | grind))) hP hS dX5_walk_157
                  · exact absurd (by rw [show (((ab (ty - y)).toNat : Nat) : Int) = ab (ty - y) by omega, acr_ab]) h_15
              · exact absurd (by rw [show (((ab (tx - x)).toNat : Nat) : Int) = ab (tx - x) by omega, acr_ab]) h_9
          · refine z_iconst S dX5_walk_56 ?_
            refine z_goto (tgt := 61) S dX5_walk_57 (by decide) ?_
            refine lv_istore (lv' := [(7, .int (zI (-1))), (6, .int (zI 1)), (0, .ref (b 0)), (1, .int (zI d)), (2, .int (zI x)), (3, .int (zI y)), (4, .int (zI tx)), (5, .int (zI ty))]) S.1 S.2.1 dX5_walk_61 hl (by decide) rfl (fun ls hl => ?_)
            refine z_iconst S dX5_walk_63 ?_
            refine lv_istore (lv' := [(8, .int (zI 0)), (7, .int (zI (-1))), (6, .int (zI 1)), (0, .ref (b 0)), (1, .int (zI d)), (2, .int (zI x)), (3, .int (zI y)), (4, .int (zI tx)), (5, .int (zI ty))]) S.1 S.2.1 dX5_walk_64 hl (by decide) rfl (fun ls hl => ?_)
            refine lv_iload_n S.1 S.2.1 dX5_walk_66 rfl (lv_at hl 5 rfl) ?_
            refine lv_istore (lv' := [(9, .int (zI x)), (8, .int (zI 0)), (7, .int (zI (-1))), (6, .int (zI 1)), (0, .ref (b 0)), (1, .int (zI d)), (2, .int (zI x)), (3, .int (zI y)), (4, .int (zI tx)), (5, .int (zI ty))]) S.1 S.2.1 dX5_walk_67 hl (by decide) rfl (fun ls hl => ?_)
            have e_16 : x + acr x tx * ((0 : Nat) : Int) = x := by simp
            have hac1 : acr x tx = 1 := by unfold acr; first | rw [if_pos (by omega)] | rw [if_neg (by omega)]
            have hac2 : acr y ty = (-1) := by unfold acr; first | rw [if_pos (by omega)] | rw [if_neg (by omega)]
            refine z_forW (D := D) (nL := 10) (A := (CA 14 b)) (H0 := s.heap) ((ab (tx - x)).toNat) (fun (k69 : Nat) => [(9, .int (zI (x + acr x tx * (k69 : Int)))), (8, .int (zI (mwR (sS c 0 0) d (m1 x y tx) k69))), (7, .int (zI (-1))), (6, .int (zI 1)), (0, .ref (b 0)), (1, .int (zI d)), (2, .int (zI x)), (3, .int (zI y)), (4, .int (zI tx)), (5, .int (zI ty))]) (fun (k69 : Nat) => MW g b (mwC (sS c 0 0) d (m1 x y tx) k69)) (fun k69 => True) (fun k69 hk69 hJ69 H locs hP hS ls hl ih69 => ?_) (fun hJ69 H locs hP hS ls hl => ?_) 0 (by omega) trivial _ _ hP hS ls (lv_sub hl [0, 1, 2, 3, 4, 5, 6, 7, 8, 9] (by show _ = ([(9, .int (zI (x + acr x tx * ((0 : Nat) : Int)))), (8, .int (zI (mwR (sS c 0 0) d (m1 x y tx) 0))), (7, .int (zI (-1))), (6, .int (zI 1)), (0, .ref (b 0)), (1, .int (zI d)), (2, .int (zI x)), (3, .int (zI y)), (4, .int (zI tx)), (5, .int (zI ty))] : List (Nat × Value)); rw [e_16]; first | done | rfl))
            · have hl : lv_has ls 10 [(9, .int (zI (x + acr x tx * (k69 : Int)))), (8, .int (zI (mwR (sS c 0 0) d (m1 x y tx) k69))), (7, .int (zI (-1))), (6, .int (zI 1)), (0, .ref (b 0)), (1, .int (zI d)), (2, .int (zI x)), (3, .int (zI y)), (4, .int (zI tx)), (5, .int (zI ty))] := hl
              have hP : va_P D vwCl (MW g b (mwC (sS c 0 0) d (m1 x y tx) k69)) H := hP
              have hb3 := acr_in (x := x) (tx := tx) (by omega) (k := (k69 : Int)) (by omega)
              refine lv_iload S.1 S.2.1 dX5_walk_69 (lv_at hl 0 rfl) ?_
              refine lv_iload S.1 S.2.1 dX5_walk_71 (lv_at hl 8 rfl) ?_
              refine z_icmp_eq (tgt := 103) S dX5_walk_73 (by decide) (by omega) (fun h_17 => ?_) (fun h_17 => ?_)
              · exact absurd h_17 (acr_ne (by omega))
              · refine lv_iload S.1 S.2.1 dX5_walk_76 (lv_at hl 1 rfl) ?_
                refine lv_aload_n S.1 S.2.1 dX5_walk_78 rfl (lv_at hl 4 rfl) ?_
                refine lv_iload_n S.1 S.2.1 dX5_walk_79 rfl (lv_at hl 5 rfl) ?_
                refine z_bipush S (by decide) dX5_walk_80 ?_
                refine lv_iload_n S.1 S.2.1 dX5_walk_82 rfl (lv_at hl 7 rfl) ?_
                refine z_imul S dX5_walk_83 ?_
                refine lv_iload S.1 S.2.1 dX5_walk_84 (lv_at hl 0 rfl) ?_
                refine z_iadd S dX5_walk_86 ?_
                refine z_wV (As := [.int (zI d), .int (zI ((20 * y) + (x + acr x tx * (k69 : Int))))]) (rest := [.int (zI (mwR (sS c 0 0) d (m1 x y tx) k69))]) S (m_X5_marks l D g b (mwC (sS c 0 0) d (m1 x y tx) k69) (mwC_IM (hI.n0 (v := 0)) hd0 (m1 x y tx) k69) hda d ((20 * y) + (x + acr x tx * (k69 : Int))) (by omega) (by omega)) ml_X5_106 im_X5_marks se_X5_marks ini_X5 cd_X5_marks ds_X5_marks ⟨Nat.le_of_ble_eq_true rfl, Nat.le_of_ble_eq_true rfl⟩ hK hP (va_recv hK.1 hP (ci := 5) (q0 := 0) rfl rfl) rfl hl.1 rfl (Nat.le_of_ble_eq_true rfl) ⟨Nat.zero_le _, Nat.zero_le _⟩ hS (fun _ h => h) dX5_walk_87 (fun H locs hP _ _ hS => ?_)
                refine z_iadd S dX5_walk_90 ?_
                refine lv_istore (lv' := [(8, .int (zI ((mwR (sS c 0 0) d (m1 x y tx) k69) + (b01 (mMk (mwC (sS c 0 0) d (m1 x y tx) k69) d ((20 * y) + (x + acr x tx * (k69 : Int)))))))), (9, .int (zI (x + acr x tx * (k69 : Int)))), (7, .int (zI (-1))), (6, .int (zI 1)), (0, .ref (b 0)), (1, .int (zI d)), (2, .int (zI x)), (3, .int (zI y)), (4, .int (zI tx)), (5, .int (zI ty))]) S.1 S.2.1 dX5_walk_91 hl (by decide) rfl (fun ls hl => ?_)
                refine lv_iload S.1 S.2.1 dX5_walk_93 (lv_at hl 1 rfl) ?_
                refine lv_iload S.1 S.2.1 dX5_walk_95 (lv_at hl 3 rfl) ?_
                refine z_iadd S dX5_walk_97 ?_
                refine lv_istore (lv' := [(9, .int (zI ((x + acr x tx * (k69 : Int)) + 1))), (8, .int (zI ((mwR (sS c 0 0) d (m1 x y tx) k69) + (b01 (mMk (mwC (sS c 0 0) d (m1 x y tx) k69) d ((20 * y) + (x + acr x tx * (k69 : Int)))))))), (7, .int (zI (-1))), (6, .int (zI 1)), (0, .ref (b 0)), (1, .int (zI d)), (2, .int (zI x)), (3, .int (zI y)), (4, .int (zI tx)), (5, .int (zI ty))]) S.1 S.2.1 dX5_walk_98 hl (by decide) rfl (fun ls hl => ?_)
                refine z_goto (tgt := 69) S dX5_walk_100 (by decide) ?_
                have e_18 : x + acr x tx * ((k69 + 1 : Nat) : Int) = (x + acr x tx * (k69 : Int)) + 1 := by rw [hac1]; omega
                have hw : MW g b (mMkC (mwC (sS c 0 0) d (m1 x y tx) k69) d ((20 * y) + (x + acr x tx * (k69 : Int)))) = MW g b (mwC (sS c 0 0) d (m1 x y tx) (k69 + 1)) := by exact rfl
                rw [hw] at hP
                exact ih69 _ _ hP hS _ (lv_sub hl [0, 1, 2, 3, 4, 5, 6, 7, 8, 9] (by show _ = ([(9, .int (zI (x + acr x tx * ((k69 + 1 : Nat) : Int)))), (8, .int (zI (mwR (sS c 0 0) d (m1 x y tx) (k69 + 1)))), (7, .int (zI (-1))), (6, .int (zI 1)), (0, .ref (b 0)), (1, .int (zI d)), (2, .int (zI x)), (3, .int (zI y)), (4, .int (zI tx)), (5, .int (zI ty))] : List (Nat × Value)); rw [e_18]; first | done | rfl)) trivial
            · have hl : lv_has ls 10 [(9, .int (zI (x + acr x tx * (((ab (tx - x)).toNat : Nat) : Int)))), (8, .int (zI (mwR (sS c 0 0) d (m1 x y tx) ((ab (tx - x)).toNat)))), (7, .int (zI (-1))), (6, .int (zI 1)), (0, .ref (b 0)), (1, .int (zI d)), (2, .int (zI x)), (3, .int (zI y)), (4, .int (zI tx)), (5, .int (zI ty))] := hl
              have hP : va_P D vwCl (MW g b (mwC (sS c 0 0) d (m1 x y tx) ((ab (tx - x)).toNat))) H := hP
              have hb3 := acr_in (x := x) (tx := tx) (by omega) (k := (((ab (tx - x)).toNat : Nat) : Int)) (by omega)
              refine lv_iload S.1 S.2.1 dX5_walk_69 (lv_at hl 0 rfl) ?_
              refine lv_iload S.1 S.2.1 dX5_walk_71 (lv_at hl 8 rfl) ?_
              refine z_icmp_eq (tgt := 103) S dX5_walk_73 (by decide) (by omega) (fun h_19 => ?_) (fun h_19 => ?_)
              · refine lv_iload_n S.1 S.2.1 dX5_walk_103 rfl (lv_at hl 7 rfl) ?_
                refine lv_istore (lv' := [(9, .int (zI y)), (8, .int (zI (mwR (sS c 0 0) d (m1 x y tx) ((ab (tx - x)).toNat)))), (7, .int (zI (-1))), (6, .int (zI 1)), (0, .ref (b 0)), (1, .int (zI d)), (2, .int (zI x)), (3, .int (zI y)), (4, .int (zI tx)), (5, .int (zI ty))]) S.1 S.2.1 dX5_walk_104 hl (by decide) rfl (fun ls hl => ?_)
                have e_20 : mwR (sS c 0 0) d (m1 x y tx) (ab (tx - x)).toNat + mwR (mWkA c d x y tx) d (m2 y tx ty) 0 = mwR (sS c 0 0) d (m1 x y tx) ((ab (tx - x)).toNat) := by exact Int.add_zero _
                have e_21 : y + acr y ty * ((0 : Nat) : Int) = y := by simp
                refine z_forW (D := D) (nL := 10) (A := (CA 14 b)) (H0 := s.heap) ((ab (ty - y)).toNat) (fun (k106 : Nat) => [(9, .int (zI (y + acr y ty * (k106 : Int)))), (8, .int (zI (mwR (sS c 0 0) d (m1 x y tx) (ab (tx - x)).toNat + mwR (mWkA c d x y tx) d (m2 y tx ty) k106))), (7, .int (zI (-1))), (6, .int (zI 1)), (0, .ref (b 0)), (1, .int (zI d)), (2, .int (zI x)), (3, .int (zI y)), (4, .int (zI tx)), (5, .int (zI ty))]) (fun (k106 : Nat) => MW g b (mwC (mWkA c d x y tx) d (m2 y tx ty) k106)) (fun k106 => True) (fun k106 hk106 hJ106 H locs hP hS ls hl ih106 => ?_) (fun hJ106 H locs hP hS ls hl => ?_) 0 (by omega) trivial _ _ hP hS ls (lv_sub hl [0, 1, 2, 3, 4, 5, 6, 7, 8, 9] (by show _ = ([(9, .int (zI (y + acr y ty * ((0 : Nat) : Int)))), (8, .int (zI (mwR (sS c 0 0) d (m1 x y tx) (ab (tx - x)).toNat + mwR (mWkA c d x y tx) d (m2 y tx ty) 0))), (7, .int (zI (-1))), (6, .int (zI 1)), (0, .ref (b 0)), (1, .int (zI d)), (2, .int (zI x)), (3, .int (zI y)), (4, .int (zI tx)), (5, .int (zI ty))] : List (Nat × Value)); rw [e_20, e_21]; first | done | rfl))
                · have hl : lv_has ls 10 [(9, .int (zI (y + acr y ty * (k106 : Int)))), (8, .int (zI (mwR (sS c 0 0) d (m1 x y tx) (ab (tx - x)).toNat + mwR (mWkA c d x y tx) d (m2 y tx ty) k106))), (7, .int (zI (-1))), (6, .int (zI 1)), (0, .ref (b 0)), (1, .int (zI d)), (2, .int (zI x)), (3, .int (zI y)), (4, .int (zI tx)), (5, .int (zI ty))] := hl
                  have hP : va_P D vwCl (MW g b (mwC (mWkA c d x y tx) d (m2 y tx ty) k106)) H := hP
                  have hb4 := acr_in (x := y) (tx := ty) (by omega) (k := (k106 : Int)) (by omega)
                  refine lv_iload S.1 S.2.1 dX5_walk_106 (lv_at hl 0 rfl) ?_
                  refine lv_iload S.1 S.2.1 dX5_walk_108 (lv_at hl 9 rfl) ?_
                  refine z_icmp_eq (tgt := 141) S dX5_walk_110 (by decide) (by omega) (fun h_22 => ?_) (fun h_22 => ?_)
                  · exact absurd h_22 (acr_ne (by omega))
                  · refine lv_iload S.1 S.2.1 dX5_walk_113 (lv_at hl 1 rfl) ?_
                    refine lv_aload_n S.1 S.2.1 dX5_walk_115 rfl (lv_at hl 4 rfl) ?_
                    refine lv_iload_n S.1 S.2.1 dX5_walk_116 rfl (lv_at hl 5 rfl) ?_
                    refine z_bipush S (by decide) dX5_walk_117 ?_
                    refine lv_iload S.1 S.2.1 dX5_walk_119 (lv_at hl 0 rfl) ?_
                    refine z_imul S dX5_walk_121 ?_
                    refine lv_iload S.1 S.2.1 dX5_walk_122 (lv_at hl 8 rfl) ?_
                    refine z_iadd S dX5_walk_124 ?_
                    refine z_wV (As := [.int (zI d), .int (zI ((20 * (y + acr y ty * (k106 : Int))) + tx))]) (rest := [.int (zI (mwR (sS c 0 0) d (m1 x y tx) (ab (tx - x)).toNat + mwR (mWkA c d x y tx) d (m2 y tx ty) k106))]) S (m_X5_marks l D g b (mwC (mWkA c d x y tx) d (m2 y tx ty) k106) (mwC_IM (mwC_IM (hI.n0 (v := 0)) hd0 (m1 x y tx) (ab (tx - x)).toNat) hd0 (m2 y tx ty) k106) hda d ((20 * (y + acr y ty * (k106 : Int))) + tx) (by omega) (by omega)) ml_X5_106 im_X5_marks se_X5_marks ini_X5 cd_X5_marks ds_X5_marks ⟨Nat.le_of_ble_eq_true rfl, Nat.le_of_ble_eq_true rfl⟩ hK hP (va_recv hK.1 hP (ci := 5) (q0 := 0) rfl rfl) rfl hl.1 rfl (Nat.le_of_ble_eq_true rfl) ⟨Nat.zero_le _, Nat.zero_le _⟩ hS (fun _ h => h) dX5_walk_125 (fun H locs hP _ _ hS => ?_)
                    refine z_iadd S dX5_walk_128 ?_
                    refine lv_istore (lv' := [(8, .int (zI ((mwR (sS c 0 0) d (m1 x y tx) (ab (tx - x)).toNat + mwR (mWkA c d x y tx) d (m2 y tx ty) k106) + (b01 (mMk (mwC (mWkA c d x y tx) d (m2 y tx ty) k106) d ((20 * (y + acr y ty * (k106 : Int))) + tx)))))), (9, .int (zI (y + acr y ty * (k106 : Int)))), (7, .int (zI (-1))), (6, .int (zI 1)), (0, .ref (b 0)), (1, .int (zI d)), (2, .int (zI x)), (3, .int (zI y)), (4, .int (zI tx)), (5, .int (zI ty))]) S.1 S.2.1 dX5_walk_129 hl (by decide) rfl (fun ls hl => ?_)
                    refine lv_iload S.1 S.2.1 dX5_walk_131 (lv_at hl 1 rfl) ?_
                    refine lv_iload S.1 S.2.1 dX5_walk_133 (lv_at hl 2 rfl) ?_
                    refine z_iadd S dX5_walk_135 ?_
                    refine lv_istore (lv' := [(9, .int (zI ((y + acr y ty * (k106 : Int)) + (-1)))), (8, .int (zI ((mwR (sS c 0 0) d (m1 x y tx) (ab (tx - x)).toNat + mwR (mWkA c d x y tx) d (m2 y tx ty) k106) + (b01 (mMk (mwC (mWkA c d x y tx) d (m2 y tx ty) k106) d ((20 * (y + acr y ty * (k106 : Int))) + tx)))))), (7, .int (zI (-1))), (6, .int (zI 1)), (0, .ref (b 0)), (1, .int (zI d)), (2, .int (zI x)), (3, .int (zI y)), (4, .int (zI tx)), (5, .int (zI ty))]) S.1 S.2.1 dX5_walk_136 hl (by decide) rfl (fun ls hl => ?_)
                    refine z_goto (tgt := 106) S dX5_walk_138 (by decide) ?_
                    have e_23 : y + acr y ty * ((k106 + 1 : Nat) : Int) = (y + acr y ty * (k106 : Int)) + (-1) := by rw [hac2]; omega
                    have e_24 : mwR (sS c 0 0) d (m1 x y tx) (ab (tx - x)).toNat + mwR (mWkA c d x y tx) d (m2 y tx ty) (k106 + 1) = (mwR (sS c 0 0) d (m1 x y tx) (ab (tx - x)).toNat + mwR (mWkA c d x y tx) d (m2 y tx ty) k106) + (b01 (mMk (mwC (mWkA c d x y tx) d (m2 y tx ty) k106) d ((20 * (y + acr y ty * (k106 : Int))) + tx))) := by rw [mwR]; exact (Int.add_assoc _ _ _).symm
                    have hw : MW g b (mMkC (mwC (mWkA c d x y tx) d (m2 y tx ty) k106) d ((20 * (y + acr y ty * (k106 : Int))) + tx)) = MW g b (mwC (mWkA c d x y tx) d (m2 y tx ty) (k106 + 1)) := by exact rfl
                    rw [hw] at hP
                    exact ih106 _ _ hP hS _ (lv_sub hl [0, 1, 2, 3, 4, 5, 6, 7, 8, 9] (by show _ = ([(9, .int (zI (y + acr y ty * ((k106 + 1 : Nat) : Int)))), (8, .int (zI (mwR (sS c 0 0) d (m1 x y tx) (ab (tx - x)).toNat + mwR (mWkA c d x y tx) d (m2 y tx ty) (k106 + 1)))), (7, .int (zI (-1))), (6, .int (zI 1)), (0, .ref (b 0)), (1, .int (zI d)), (2, .int (zI x)), (3, .int (zI y)), (4, .int (zI tx)), (5, .int (zI ty))] : List (Nat × Value)); rw [e_23, e_24]; first | done | rfl)) trivial
                · have hl : lv_has ls 10 [(9, .int (zI (y + acr y ty * (((ab (ty - y)).toNat : Nat) : Int)))), (8, .int (zI (mwR (sS c 0 0) d (m1 x y tx) (ab (tx - x)).toNat + mwR (mWkA c d x y tx) d (m2 y tx ty) ((ab (ty - y)).toNat)))), (7, .int (zI (-1))), (6, .int (zI 1)), (0, .ref (b 0)), (1, .int (zI d)), (2, .int (zI x)), (3, .int (zI y)), (4, .int (zI tx)), (5, .int (zI ty))] := hl
                  have hP : va_P D vwCl (MW g b (mwC (mWkA c d x y tx) d (m2 y tx ty) ((ab (ty - y)).toNat))) H := hP
                  have hb4 := acr_in (x := y) (tx := ty) (by omega) (k := (((ab (ty - y)).toNat : Nat) : Int)) (by omega)
                  refine lv_iload S.1 S.2.1 dX5_walk_106 (lv_at hl 0 rfl) ?_
                  refine lv_iload S.1 S.2.1 dX5_walk_108 (lv_at hl 9 rfl) ?_
                  refine z_icmp_eq (tgt := 141) S dX5_walk_110 (by decide) (by omega) (fun h_25 => ?_) (fun h_25 => ?_)
                  · refine lv_iload S.1 S.2.1 dX5_walk_141 (lv_at hl 1 rfl) ?_
                    refine lv_aload_n S.1 S.2.1 dX5_walk_143 rfl (lv_at hl 4 rfl) ?_
                    refine lv_iload_n S.1 S.2.1 dX5_walk_144 rfl (lv_at hl 5 rfl) ?_
                    refine z_bipush S (by decide) dX5_walk_145 ?_
                    refine lv_iload S.1 S.2.1 dX5_walk_147 (lv_at hl 9 rfl) ?_
                    refine z_imul S dX5_walk_149 ?_
                    refine lv_iload S.1 S.2.1 dX5_walk_150 (lv_at hl 8 rfl) ?_
                    refine z_iadd S dX5_walk_152 ?_
                    refine z_wV (As := [.int (zI d), .int (zI ((20 * ty) + tx))]) (rest := [.int (zI (mwR (sS c 0 0) d (m1 x y tx) (ab (tx - x)).toNat + mwR (mWkA c d x y tx) d (m2 y tx ty) ((ab (ty - y)).toNat)))]) S (m_X5_marks l D g b (mwC (mWkA c d x y tx) d (m2 y tx ty) ((ab (ty - y)).toNat)) (mwC_IM (mwC_IM (hI.n0 (v := 0)) hd0 (m1 x y tx) (ab (tx - x)).toNat) hd0 (m2 y tx ty) ((ab (ty - y)).toNat)) hda d ((20 * ty) + tx) (by omega) (by omega)) ml_X5_106 im_X5_marks se_X5_marks ini_X5 cd_X5_marks ds_X5_marks ⟨Nat.le_of_ble_eq_true rfl, Nat.le_of_ble_eq_true rfl⟩ hK hP (va_recv hK.1 hP (ci := 5) (q0 := 0) rfl rfl) rfl hl.1 rfl (Nat.le_of_ble_eq_true rfl) ⟨Nat.zero_le _, Nat.zero_le _⟩ hS (fun _ h => h) dX5_walk_153 (fun H locs hP _ _ hS => ?_)
                    refine z_iadd S dX5_walk_156 ?_
                    have hw : MW g b (mMkC (mwC (mWkA c d x y tx) d (m2 y tx ty) ((ab (ty - y)).toNat)) d ((20 * ty) + tx)) = MW g b (mC c (jWalk c d x y tx ty) (mWkC c d x y tx ty)) := by first | (rw [show jWalk c d x y tx ty = 0 from (by unfold jWalk; repeat (first | rw [if_pos (by omega)] | rw [if_neg (by omega)]))]; rfl)
                    rw [hw] at hP
                    exact z_retw S hr hlk (by first | (rw [show jWalk c d x y tx ty = 0 from (by unfold jWalk; repeat (first | rw [if_pos (by omega)] | rw [if_neg (by omega)]))]; (show _ = (mWkR c d x y tx ty); first | rfl | grind))) hP hS dX5_walk_157
                  · exact absurd (by rw [show (((ab (ty - y)).toNat : Nat) : Int) = ab (ty - y) by omega, acr_ab]) h_25
              · exact absurd (by rw [show (((ab (tx - x)).toNat : Nat) : Int) = ab (tx - x) by omega, acr_ab]) h_19
        · refine z_iconst S dX5_walk_43 ?_
          refine z_goto (tgt := 48) S dX5_walk_44 (by decide) ?_
          refine lv_istore (lv' := [(6, .int (zI (-1))), (0, .ref (b 0)), (1, .int (zI d)), (2, .int (zI x)), (3, .int (zI y)), (4, .int (zI tx)), (5, .int (zI ty))]) S.1 S.2.1 dX5_walk_48 hl (by decide) rfl (fun ls hl => ?_)
          refine lv_iload S.1 S.2.1 dX5_walk_50 (lv_at hl 6 rfl) ?_
          refine lv_iload_n S.1 S.2.1 dX5_walk_52 rfl (lv_at hl 4 rfl) ?_
          refine z_icmp_ge (tgt := 60) S dX5_walk_53 (by decide) (by omega) (fun h_26 => ?_) (fun h_26 => ?_)
          · refine z_iconst S dX5_walk_60 ?_
            refine lv_istore (lv' := [(7, .int (zI 1)), (6, .int (zI (-1))), (0, .ref (b 0)), (1, .int (zI d)), (2, .int (zI x)), (3, .int (zI y)), (4, .int (zI tx)), (5, .int (zI ty))]) S.1 S.2.1 dX5_walk_61 hl (by decide) rfl (fun ls hl => ?_)
            refine z_iconst S dX5_walk_63 ?_
            refine lv_istore (lv' := [(8, .int (zI 0)), (7, .int (zI 1)), (6, .int (zI (-1))), (0, .ref (b 0)), (1, .int (zI d)), (2, .int (zI x)), (3, .int (zI y)), (4, .int (zI tx)), (5, .int (zI ty))]) S.1 S.2.1 dX5_walk_64 hl (by decide) rfl (fun ls hl => ?_)
            refine lv_iload_n S.1 S.2.1 dX5_walk_66 rfl (lv_at hl 5 rfl) ?_
            refine lv_istore (lv' := [(9, .int (zI x)), (8, .int (zI 0)), (7, .int (zI 1)), (6, .int (zI (-1))), (0, .ref (b 0)), (1, .int (zI d)), (2, .int (zI x)), (3, .int (zI y)), (4, .int (zI tx)), (5, .int (zI ty))]) S.1 S.2.1 dX5_walk_67 hl (by decide) rfl (fun ls hl => ?_)
            have e_27 : x + acr x tx * ((0 : Nat) : Int) = x := by simp
            have hac1 : acr x tx = (-1) := by unfold acr; first | rw [if_pos (by omega)] | rw [if_neg (by omega)]
            have hac2 : acr y ty = 1 := by unfold acr; first | rw [if_pos (by omega)] | rw [if_neg (by omega)]
            refine z_forW (D := D) (nL := 10) (A := (CA 14 b)) (H0 := s.heap) ((ab (tx - x)).toNat) (fun (k69 : Nat) => [(9, .int (zI (x + acr x tx * (k69 : Int)))), (8, .int (zI (mwR (sS c 0 0) d (m1 x y tx) k69))), (7, .int (zI 1)), (6, .int (zI (-1))), (0, .ref (b 0)), (1, .int (zI d)), (2, .int (zI x)), (3, .int (zI y)), (4, .int (zI tx)), (5, .int (zI ty))]) (fun (k69 : Nat) => MW g b (mwC (sS c 0 0) d (m1 x y tx) k69)) (fun k69 => True) (fun k69 hk69 hJ69 H locs hP hS ls hl ih69 => ?_) (fun hJ69 H locs hP hS ls hl => ?_) 0 (by omega) trivial _ _ hP hS ls (lv_sub hl [0, 1, 2, 3, 4, 5, 6, 7, 8, 9] (by show _ = ([(9, .int (zI (x + acr x tx * ((0 : Nat) : Int)))), (8, .int (zI (mwR (sS c 0 0) d (m1 x y tx) 0))), (7, .int (zI 1)), (6, .int (zI (-1))), (0, .ref (b 0)), (1, .int (zI d)), (2, .int (zI x)), (3, .int (zI y)), (4, .int (zI tx)), (5, .int (zI ty))] : List (Nat × Value)); rw [e_27]; first | done | rfl))
            · have hl : lv_has ls 10 [(9, .int (zI (x + acr x tx * (k69 : Int)))), (8, .int (zI (mwR (sS c 0 0) d (m1 x y tx) k69))), (7, .int (zI 1)), (6, .int (zI (-1))), (0, .ref (b 0)), (1, .int (zI d)), (2, .int (zI x)), (3, .int (zI y)), (4, .int (zI tx)), (5, .int (zI ty))] := hl
              have hP : va_P D vwCl (MW g b (mwC (sS c 0 0) d (m1 x y tx) k69)) H := hP
              have hb3 := acr_in (x := x) (tx := tx) (by omega) (k := (k69 : Int)) (by omega)
              refine lv_iload S.1 S.2.1 dX5_walk_69 (lv_at hl 0 rfl) ?_
              refine lv_iload S.1 S.2.1 dX5_walk_71 (lv_at hl 8 rfl) ?_
              refine z_icmp_eq (tgt := 103) S dX5_walk_73 (by decide) (by omega) (fun h_28 => ?_) (fun h_28 => ?_)
              · exact absurd h_28 (acr_ne (by omega))
              · refine lv_iload S.1 S.2.1 dX5_walk_76 (lv_at hl 1 rfl) ?_
                refine lv_aload_n S.1 S.2.1 dX5_walk_78 rfl (lv_at hl 4 rfl) ?_
                refine lv_iload_n S.1 S.2.1 dX5_walk_79 rfl (lv_at hl 5 rfl) ?_
                refine z_bipush S (by decide) dX5_walk_80 ?_
                refine lv_iload_n S.1 S.2.1 dX5_walk_82 rfl (lv_at hl 7 rfl) ?_
                refine z_imul S dX5_walk_83 ?_
                refine lv_iload S.1 S.2.1 dX5_walk_84 (lv_at hl 0 rfl) ?_
                refine z_iadd S dX5_walk_86 ?_
                refine z_wV (As := [.int (zI d), .int (zI ((20 * y) + (x + acr x tx * (k69 : Int))))]) (rest := [.int (zI (mwR (sS c 0 0) d (m1 x y tx) k69))]) S (m_X5_marks l D g b (mwC (sS c 0 0) d (m1 x y tx) k69) (mwC_IM (hI.n0 (v := 0)) hd0 (m1 x y tx) k69) hda d ((20 * y) + (x + acr x tx * (k69 : Int))) (by omega) (by omega)) ml_X5_106 im_X5_marks se_X5_marks ini_X5 cd_X5_marks ds_X5_marks ⟨Nat.le_of_ble_eq_true rfl, Nat.le_of_ble_eq_true rfl⟩ hK hP (va_recv hK.1 hP (ci := 5) (q0 := 0) rfl rfl) rfl hl.1 rfl (Nat.le_of_ble_eq_true rfl) ⟨Nat.zero_le _, Nat.zero_le _⟩ hS (fun _ h => h) dX5_walk_87 (fun H locs hP _ _ hS => ?_)
                refine z_iadd S dX5_walk_90 ?_
                refine lv_istore (lv' := [(8, .int (zI ((mwR (sS c 0 0) d (m1 x y tx) k69) + (b01 (mMk (mwC (sS c 0 0) d (m1 x y tx) k69) d ((20 * y) + (x + acr x tx * (k69 : Int)))))))), (9, .int (zI (x + acr x tx * (k69 : Int)))), (7, .int (zI 1)), (6, .int (zI (-1))), (0, .ref (b 0)), (1, .int (zI d)), (2, .int (zI x)), (3, .int (zI y)), (4, .int (zI tx)), (5, .int (zI ty))]) S.1 S.2.1 dX5_walk_91 hl (by decide) rfl (fun ls hl => ?_)
                refine lv_iload S.1 S.2.1 dX5_walk_93 (lv_at hl 1 rfl) ?_
                refine lv_iload S.1 S.2.1 dX5_walk_95 (lv_at hl 3 rfl) ?_
                refine z_iadd S dX5_walk_97 ?_
                refine lv_istore (lv' := [(9, .int (zI ((x + acr x tx * (k69 : Int)) + (-1)))), (8, .int (zI ((mwR (sS c 0 0) d (m1 x y tx) k69) + (b01 (mMk (mwC (sS c 0 0) d (m1 x y tx) k69) d ((20 * y) + (x + acr x tx * (k69 : Int)))))))), (7, .int (zI 1)), (6, .int (zI (-1))), (0, .ref (b 0)), (1, .int (zI d)), (2, .int (zI x)), (3, .int (zI y)), (4, .int (zI tx)), (5, .int (zI ty))]) S.1 S.2.1 dX5_walk_98 hl (by decide) rfl (fun ls hl => ?_)
                refine z_goto (tgt := 69) S dX5_walk_100 (by decide) ?_
                have e_29 : x + acr x tx * ((k69 + 1 : Nat) : Int) = (x + acr x tx * (k69 : Int)) + (-1) := by rw [hac1]; omega
                have hw : MW g b (mMkC (mwC (sS c 0 0) d (m1 x y tx) k69) d ((20 * y) + (x + acr x tx * (k69 : Int)))) = MW g b (mwC (sS c 0 0) d (m1 x y tx) (k69 + 1)) := by exact rfl
                rw [hw] at hP
                exact ih69 _ _ hP hS _ (lv_sub hl [0, 1, 2, 3, 4, 5, 6, 7, 8, 9] (by show _ = ([(9, .int (zI (x + acr x tx * ((k69 + 1 : Nat) : Int)))), (8, .int (zI (mwR (sS c 0 0) d (m1 x y tx) (k69 + 1)))), (7, .int (zI 1)), (6, .int (zI (-1))), (0, .ref (b 0)), (1, .int (zI d)), (2, .int (zI x)), (3, .int (zI y)), (4, .int (zI tx)), (5, .int (zI ty))] : List (Nat × Value)); rw [e_29]; first | done | rfl)) trivial
            · have hl : lv_has ls 10 [(9, .int (zI (x + acr x tx * (((ab (tx - x)).toNat : Nat) : Int)))), (8, .int (zI (mwR (sS c 0 0) d (m1 x y tx) ((ab (tx - x)).toNat)))), (7, .int (zI 1)), (6, .int (zI (-1))), (0, .ref (b 0)), (1, .int (zI d)), (2, .int (zI x)), (3, .int (zI y)), (4, .int (zI tx)), (5, .int (zI ty))] := hl
              have hP : va_P D vwCl (MW g b (mwC (sS c 0 0) d (m1 x y tx) ((ab (tx - x)).toNat))) H := hP
              have hb3 := acr_in (x := x) (tx := tx) (by omega) (k := (((ab (tx - x)).toNat : Nat) : Int)) (by omega)
              refine lv_iload S.1 S.2.1 dX5_walk_69 (lv_at hl 0 rfl) ?_
              refine lv_iload S.1 S.2.1 dX5_walk_71 (lv_at hl 8 rfl) ?_
              refine z_icmp_eq (tgt := 103) S dX5_walk_73 (by decide) (by omega) (fun h_30 => ?_) (fun h_30 => ?_)
              · refine lv_iload_n S.1 S.2.1 dX5_walk_103 rfl (lv_at hl 7 rfl) ?_
                refine lv_istore (lv' := [(9, .int (zI y)), (8, .int (zI (mwR (sS c 0 0) d (m1 x y tx) ((ab (tx - x)).toNat)))), (7, .int (zI 1)), (6, .int (zI (-1))), (0, .ref (b 0)), (1, .int (zI d)), (2, .int (zI x)), (3, .int (zI y)), (4, .int (zI tx)), (5, .int (zI ty))]) S.1 S.2.1 dX5_walk_104 hl (by decide) rfl (fun ls hl => ?_)
                have e_31 : mwR (sS c 0 0) d (m1 x y tx) (ab (tx - x)).toNat + mwR (mWkA c d x y tx) d (m2 y tx ty) 0 = mwR (sS c 0 0) d (m1 x y tx) ((ab (tx - x)).toNat) := by exact Int.add_zero _
                have e_32 : y + acr y ty * ((0 : Nat) : Int) = y := by simp
                refine z_forW (D := D) (nL := 10) (A := (CA 14 b)) (H0 := s.heap) ((ab (ty - y)).toNat) (fun (k106 : Nat) => [(9, .int (zI (y + acr y ty * (k106 : Int)))), (8, .int (zI (mwR (sS c 0 0) d (m1 x y tx) (ab (tx - x)).toNat + mwR (mWkA c d x y tx) d (m2 y tx ty) k106))), (7, .int (zI 1)), (6, .int (zI (-1))), (0, .ref (b 0)), (1, .int (zI d)), (2, .int (zI x)), (3, .int (zI y)), (4, .int (zI tx)), (5, .int (zI ty))]) (fun (k106 : Nat) => MW g b (mwC (mWkA c d x y tx) d (m2 y tx ty) k106)) (fun k106 => True) (fun k106 hk106 hJ106 H locs hP hS ls hl ih106 => ?_) (fun hJ106 H locs hP hS ls hl => ?_) 0 (by omega) trivial _ _ hP hS ls (lv_sub hl [0, 1, 2, 3, 4, 5, 6, 7, 8, 9] (by show _ = ([(9, .int (zI (y + acr y ty * ((0 : Nat) : Int)))), (8, .int (zI (mwR (sS c 0 0) d (m1 x y tx) (ab (tx - x)).toNat + mwR (mWkA c d x y tx) d (m2 y tx ty) 0))), (7, .int (zI 1)), (6, .int (zI (-1))), (0, .ref (b 0)), (1, .int (zI d)), (2, .int (zI x)), (3, .int (zI y)), (4, .int (zI tx)), (5, .int (zI ty))] : List (Nat × Value)); rw [e_31, e_32]; first | done | rfl))
                · have hl : lv_has ls 10 [(9, .int (zI (y + acr y ty * (k106 : Int)))), (8, .int (zI (mwR (sS c 0 0) d (m1 x y tx) (ab (tx - x)).toNat + mwR (mWkA c d x y tx) d (m2 y tx ty) k106))), (7, .int (zI 1)), (6, .int (zI (-1))), (0, .ref (b 0)), (1, .int (zI d)), (2, .int (zI x)), (3, .int (zI y)), (4, .int (zI tx)), (5, .int (zI ty))] := hl
                  have hP : va_P D vwCl (MW g b (mwC (mWkA c d x y tx) d (m2 y tx ty) k106)) H := hP
                  have hb4 := acr_in (x := y) (tx := ty) (by omega) (k := (k106 : Int)) (by omega)
                  refine lv_iload S.1 S.2.1 dX5_walk_106 (lv_at hl 0 rfl) ?_
                  refine lv_iload S.1 S.2.1 dX5_walk_108 (lv_at hl 9 rfl) ?_
                  refine z_icmp_eq (tgt := 141) S dX5_walk_110 (by decide) (by omega) (fun h_33 => ?_) (fun h_33 => ?_)
                  · exact absurd h_33 (acr_ne (by omega))
                  · refine lv_iload S.1 S.2.1 dX5_walk_113 (lv_at hl 1 rfl) ?_
                    refine lv_aload_n S.1 S.2.1 dX5_walk_115 rfl (lv_at hl 4 rfl) ?_
                    refine lv_iload_n S.1 S.2.1 dX5_walk_116 rfl (lv_at hl 5 rfl) ?_
                    refine z_bipush S (by decide) dX5_walk_117 ?_
                    refine lv_iload S.1 S.2.1 dX5_walk_119 (lv_at hl 0 rfl) ?_
                    refine z_imul S dX5_walk_121 ?_
                    refine lv_iload S.1 S.2.1 dX5_walk_122 (lv_at hl 8 rfl) ?_
                    refine z_iadd S dX5_walk_124 ?_
                    refine z_wV (As := [.int (zI d), .int (zI ((20 * (y + acr y ty * (k106 : Int))) + tx))]) (rest := [.int (zI (mwR (sS c 0 0) d (m1 x y tx) (ab (tx - x)).toNat + mwR (mWkA c d x y tx) d (m2 y tx ty) k106))]) S (m_X5_marks l D g b (mwC (mWkA c d x y tx) d (m2 y tx ty) k106) (mwC_IM (mwC_IM (hI.n0 (v := 0)) hd0 (m1 x y tx) (ab (tx - x)).toNat) hd0 (m2 y tx ty) k106) hda d ((20 * (y + acr y ty * (k106 : Int))) + tx) (by omega) (by omega)) ml_X5_106 im_X5_marks se_X5_marks ini_X5 cd_X5_marks ds_X5_marks ⟨Nat.le_of_ble_eq_true rfl, Nat.le_of_ble_eq_true rfl⟩ hK hP (va_recv hK.1 hP (ci := 5) (q0 := 0) rfl rfl) rfl hl.1 rfl (Nat.le_of_ble_eq_true rfl) ⟨Nat.zero_le _, Nat.zero_le _⟩ hS (fun _ h => h) dX5_walk_125 (fun H locs hP _ _ hS => ?_)
                    refine z_iadd S dX5_walk_128 ?_
                    refine lv_istore (lv' := [(8, .int (zI ((mwR (sS c 0 0) d (m1 x y tx) (ab (tx - x)).toNat + mwR (mWkA c d x y tx) d (m2 y tx ty) k106) + (b01 (mMk (mwC (mWkA c d x y tx) d (m2 y tx ty) k106) d ((20 * (y + acr y ty * (k106 : Int))) + tx)))))), (9, .int (zI (y + acr y ty * (k106 : Int)))), (7, .int (zI 1)), (6, .int (zI (-1))), (0, .ref (b 0)), (1, .int (zI d)), (2, .int (zI x)), (3, .int (zI y)), (4, .int (zI tx)), (5, .int (zI ty))]) S.1 S.2.1 dX5_walk_129 hl (by decide) rfl (fun ls hl => ?_)
                    refine lv_iload S.1 S.2.1 dX5_walk_131 (lv_at hl 1 rfl) ?_
                    refine lv_iload S.1 S.2.1 dX5_walk_133 (lv_at hl 2 rfl) ?_
                    refine z_iadd S dX5_walk_135 ?_
                    refine lv_istore (lv' := [(9, .int (zI ((y + acr y ty * (k106 : Int)) + 1))), (8, .int (zI ((mwR (sS c 0 0) d (m1 x y tx) (ab (tx - x)).toNat + mwR (mWkA c d x y tx) d (m2 y tx ty) k106) + (b01 (mMk (mwC (mWkA c d x y tx) d (m2 y tx ty) k106) d ((20 * (y + acr y ty * (k106 : Int))) + tx)))))), (7, .int (zI 1)), (6, .int (zI (-1))), (0, .ref (b 0)), (1, .int (zI d)), (2, .int (zI x)), (3, .int (zI y)), (4, .int (zI tx)), (5, .int (zI ty))]) S.1 S.2.1 dX5_walk_136 hl (by decide) rfl (fun ls hl => ?_)
                    refine z_goto (tgt := 106) S dX5_walk_138 (by decide) ?_
                    have e_34 : y + acr y ty * ((k106 + 1 : Nat) : Int) = (y + acr y ty * (k106 : Int)) + 1 := by rw [hac2]; omega
                    have e_35 : mwR (sS c 0 0) d (m1 x y tx) (ab (tx - x)).toNat + mwR (mWkA c d x y tx) d (m2 y tx ty) (k106 + 1) = (mwR (sS c 0 0) d (m1 x y tx) (ab (tx - x)).toNat + mwR (mWkA c d x y tx) d (m2 y tx ty) k106) + (b01 (mMk (mwC (mWkA c d x y tx) d (m2 y tx ty) k106) d ((20 * (y + acr y ty * (k106 : Int))) + tx))) := by rw [mwR]; exact (Int.add_assoc _ _ _).symm
                    have hw : MW g b (mMkC (mwC (mWkA c d x y tx) d (m2 y tx ty) k106) d ((20 * (y + acr y ty * (k106 : Int))) + tx)) = MW g b (mwC (mWkA c d x y tx) d (m2 y tx ty) (k106 + 1)) := by exact rfl
                    rw [hw] at hP
                    exact ih106 _ _ hP hS _ (lv_sub hl [0, 1, 2, 3, 4, 5, 6, 7, 8, 9] (by show _ = ([(9, .int (zI (y + acr y ty * ((k106 + 1 : Nat) : Int)))), (8, .int (zI (mwR (sS c 0 0) d (m1 x y tx) (ab (tx - x)).toNat + mwR (mWkA c d x y tx) d (m2 y tx ty) (k106 + 1)))), (7, .int (zI 1)), (6, .int (zI (-1))), (0, .ref (b 0)), (1, .int (zI d)), (2, .int (zI x)), (3, .int (zI y)), (4, .int (zI tx)), (5, .int (zI ty))] : List (Nat × Value)); rw [e_34, e_35]; first | done | rfl)) trivial
                · have hl : lv_has ls 10 [(9, .int (zI (y + acr y ty * (((ab (ty - y)).toNat : Nat) : Int)))), (8, .int (zI (mwR (sS c 0 0) d (m1 x y tx) (ab (tx - x)).toNat + mwR (mWkA c d x y tx) d (m2 y tx ty) ((ab (ty - y)).toNat)))), (7, .int (zI 1)), (6, .int (zI (-1))), (0, .ref (b 0)), (1, .int (zI d)), (2, .int (zI x)), (3, .int (zI y)), (4, .int (zI tx)), (5, .int (zI ty))] := hl
                  have hP : va_P D vwCl (MW g b (mwC (mWkA c d x y tx) d (m2 y tx ty) ((ab (ty - y)).toNat))) H := hP
                  have hb4 := acr_in (x := y) (tx := ty) (by omega) (k := (((ab (ty - y)).toNat : Nat) : Int)) (by omega)
                  refine lv_iload S.1 S.2.1 dX5_walk_106 (lv_at hl 0 rfl) ?_
                  refine lv_iload S.1 S.2.1 dX5_walk_108 (lv_at hl 9 rfl) ?_
                  refine z_icmp_eq (tgt := 141) S dX5_walk_110 (by decide) (by omega) (fun h_36 => ?_) (fun h_36 => ?_)
                  · refine lv_iload S.1 S.2.1 dX5_walk_141 (lv_at hl 1 rfl) ?_
                    refine lv_aload_n S.1 S.2.1 dX5_walk_143 rfl (lv_at hl 4 rfl) ?_
                    refine lv_iload_n S.1 S.2.1 dX5_walk_144 rfl (lv_at hl 5 rfl) ?_
                    refine z_bipush S (by decide) dX5_walk_145 ?_
                    refine lv_iload S.1 S.2.1 dX5_walk_147 (lv_at hl 9 rfl) ?_
                    refine z_imul S dX5_walk_149 ?_
                    refine lv_iload S.1 S.2.1 dX5_walk_150 (lv_at hl 8 rfl) ?_
                    refine z_iadd S dX5_walk_152 ?_
                    refine z_wV (As := [.int (zI d), .int (zI ((20 * ty) + tx))]) (rest := [.int (zI (mwR (sS c 0 0) d (m1 x y tx) (ab (tx - x)).toNat + mwR (mWkA c d x y tx) d (m2 y tx ty) ((ab (ty - y)).toNat)))]) S (m_X5_marks l D g b (mwC (mWkA c d x y tx) d (m2 y tx ty) ((ab (ty - y)).toNat)) (mwC_IM (mwC_IM (hI.n0 (v := 0)) hd0 (m1 x y tx) (ab (tx - x)).toNat) hd0 (m2 y tx ty) ((ab (ty - y)).toNat)) hda d ((20 * ty) + tx) (by omega) (by omega)) ml_X5_106 im_X5_marks se_X5_marks ini_X5 cd_X5_marks ds_X5_marks ⟨Nat.le_of_ble_eq_true rfl, Nat.le_of_ble_eq_true rfl⟩ hK hP (va_recv hK.1 hP (ci := 5) (q0 := 0) rfl rfl) rfl hl.1 rfl (Nat.le_of_ble_eq_true rfl) ⟨Nat.zero_le _, Nat.zero_le _⟩ hS (fun _ h => h) dX5_walk_153 (fun H locs hP _ _ hS => ?_)
                    refine z_iadd S dX5_walk_156 ?_
                    have hw : MW g b (mMkC (mwC (mWkA c d x y tx) d (m2 y tx ty) ((ab (ty - y)).toNat)) d ((20 * ty) + tx)) = MW g b (mC c (jWalk c d x y tx ty) (mWkC c d x y tx ty)) := by first | (rw [show jWalk c d x y tx ty = 0 from (by unfold jWalk; repeat (first | rw [if_pos (by omega)] | rw [if_neg (by omega)]))]; rfl)
                    rw [hw] at hP
                    exact z_retw S hr hlk (by first | (rw [show jWalk c d x y tx ty = 0 from (by unfold jWalk; repeat (first | rw [if_pos (by omega)] | rw [if_neg (by omega)]))]; (show _ = (mWkR c d x y tx ty); first | rfl | grind))) hP hS dX5_walk_157
                  · exact absurd (by rw [show (((ab (ty - y)).toNat : Nat) : Int) = ab (ty - y) by omega, acr_ab]) h_36
              · exact absurd (by rw [show (((ab (tx - x)).toNat : Nat) : Int) = ab (tx - x) by omega, acr_ab]) h_30
          · refine z_iconst S dX5_walk_56 ?_
            refine z_goto (tgt := 61) S dX5_walk_57 (by decide) ?_
            refine lv_istore (lv' := [(7, .int (zI (-1))), (6, .int (zI (-1))), (0, .ref (b 0)), (1, .int (zI d)), (2, .int (zI x)), (3, .int (zI y)), (4, .int (zI tx)), (5, .int (zI ty))]) S.1 S.2.1 dX5_walk_61 hl (by decide) rfl (fun ls hl => ?_)
            refine z_iconst S dX5_walk_63 ?_
            refine lv_istore (lv' := [(8, .int (zI 0)), (7, .int (zI (-1))), (6, .int (zI (-1))), (0, .ref (b 0)), (1, .int (zI d)), (2, .int (zI x)), (3, .int (zI y)), (4, .int (zI tx)), (5, .int (zI ty))]) S.1 S.2.1 dX5_walk_64 hl (by decide) rfl (fun ls hl => ?_)
            refine lv_iload_n S.1 S.2.1 dX5_walk_66 rfl (lv_at hl 5 rfl) ?_
            refine lv_istore (lv' := [(9, .int (zI x)), (8, .int (zI 0)), (7, .int (zI (-1))), (6, .int (zI (-1))), (0, .ref (b 0)), (1, .int (zI d)), (2, .int (zI x)), (3, .int (zI y)), (4, .int (zI tx)), (5, .int (zI ty))]) S.1 S.2.1 dX5_walk_67 hl (by decide) rfl (fun ls hl => ?_)
            have e_37 : x + acr x tx * ((0 : Nat) : Int) = x := by simp
            have hac1 : acr x tx = (-1) := by unfold acr; first | rw [if_pos (by omega)] | rw [if_neg (by omega)]
            have hac2 : acr y ty = (-1) := by unfold acr; first | rw [if_pos (by omega)] | rw [if_neg (by omega)]
            refine z_forW (D := D) (nL := 10) (A := (CA 14 b)) (H0 := s.heap) ((ab (tx - x)).toNat) (fun (k69 : Nat) => [(9, .int (zI (x + acr x tx * (k69 : Int)))), (8, .int (zI (mwR (sS c 0 0) d (m1 x y tx) k69))), (7, .int (zI (-1))), (6, .int (zI (-1))), (0, .ref (b 0)), (1, .int (zI d)), (2, .int (zI x)), (3, .int (zI y)), (4, .int (zI tx)), (5, .int (zI ty))]) (fun (k69 : Nat) => MW g b (mwC (sS c 0 0) d (m1 x y tx) k69)) (fun k69 => True) (fun k69 hk69 hJ69 H locs hP hS ls hl ih69 => ?_) (fun hJ69 H locs hP hS ls hl => ?_) 0 (by omega) trivial _ _ hP hS ls (lv_sub hl [0, 1, 2, 3, 4, 5, 6, 7, 8, 9] (by show _ = ([(9, .int (zI (x + acr x tx * ((0 : Nat) : Int)))), (8, .int (zI (mwR (sS c 0 0) d (m1 x y tx) 0))), (7, .int (zI (-1))), (6, .int (zI (-1))), (0, .ref (b 0)), (1, .int (zI d)), (2, .int (zI x)), (3, .int (zI y)), (4, .int (zI tx)), (5, .int (zI ty))] : List (Nat × Value)); rw [e_37]; first | done | rfl))
            · have hl : lv_has ls 10 [(9, .int (zI (x + acr x tx * (k69 : Int)))), (8, .int (zI (mwR (sS c 0 0) d (m1 x y tx) k69))), (7, .int (zI (-1))), (6, .int (zI (-1))), (0, .ref (b 0)), (1, .int (zI d)), (2, .int (zI x)), (3, .int (zI y)), (4, .int (zI tx)), (5, .int (zI ty))] := hl
              have hP : va_P D vwCl (MW g b (mwC (sS c 0 0) d (m1 x y tx) k69)) H := hP
              have hb3 := acr_in (x := x) (tx := tx) (by omega) (k := (k69 : Int)) (by omega)
              refine lv_iload S.1 S.2.1 dX5_walk_69 (lv_at hl 0 rfl) ?_
              refine lv_iload S.1 S.2.1 dX5_walk_71 (lv_at hl 8 rfl) ?_
              refine z_icmp_eq (tgt := 103) S dX5_walk_73 (by decide) (by omega) (fun h_38 => ?_) (fun h_38 => ?_)
              · exact absurd h_38 (acr_ne (by omega))
              · refine lv_iload S.1 S.2.1 dX5_walk_76 (lv_at hl 1 rfl) ?_
                refine lv_aload_n S.1 S.2.1 dX5_walk_78 rfl (lv_at hl 4 rfl) ?_
                refine lv_iload_n S.1 S.2.1 dX5_walk_79 rfl (lv_at hl 5 rfl) ?_
                refine z_bipush S (by decide) dX5_walk_80 ?_
                refine lv_iload_n S.1 S.2.1 dX5_walk_82 rfl (lv_at hl 7 rfl) ?_
                refine z_imul S dX5_walk_83 ?_
                refine lv_iload S.1 S.2.1 dX5_walk_84 (lv_at hl 0 rfl) ?_
                refine z_iadd S dX5_walk_86 ?_
                refine z_wV (As := [.int (zI d), .int (zI ((20 * y) + (x + acr x tx * (k69 : Int))))]) (rest := [.int (zI (mwR (sS c 0 0) d (m1 x y tx) k69))]) S (m_X5_marks l D g b (mwC (sS c 0 0) d (m1 x y tx) k69) (mwC_IM (hI.n0 (v := 0)) hd0 (m1 x y tx) k69) hda d ((20 * y) + (x + acr x tx * (k69 : Int))) (by omega) (by omega)) ml_X5_106 im_X5_marks se_X5_marks ini_X5 cd_X5_marks ds_X5_marks ⟨Nat.le_of_ble_eq_true rfl, Nat.le_of_ble_eq_true rfl⟩ hK hP (va_recv hK.1 hP (ci := 5) (q0 := 0) rfl rfl) rfl hl.1 rfl (Nat.le_of_ble_eq_true rfl) ⟨Nat.zero_le _, Nat.zero_le _⟩ hS (fun _ h => h) dX5_walk_87 (fun H locs hP _ _ hS => ?_)
                refine z_iadd S dX5_walk_90 ?_
                refine lv_istore (lv' := [(8, .int (zI ((mwR (sS c 0 0) d (m1 x y tx) k69) + (b01 (mMk (mwC (sS c 0 0) d (m1 x y tx) k69) d ((20 * y) + (x + acr x tx * (k69 : Int)))))))), (9, .int (zI (x + acr x tx * (k69 : Int)))), (7, .int (zI (-1))), (6, .int (zI (-1))), (0, .ref (b 0)), (1, .int (zI d)), (2, .int (zI x)), (3, .int (zI y)), (4, .int (zI tx)), (5, .int (zI ty))]) S.1 S.2.1 dX5_walk_91 hl (by decide) rfl (fun ls hl => ?_)
                refine lv_iload S.1 S.2.1 dX5_walk_93 (lv_at hl 1 rfl) ?_
                refine lv_iload S.1 S.2.1 dX5_walk_95 (lv_at hl 3 rfl) ?_
                refine z_iadd S dX5_walk_97 ?_
                refine lv_istore (lv' := [(9, .int (zI ((x + acr x tx * (k69 : Int)) + (-1)))), (8, .int (zI ((mwR (sS c 0 0) d (m1 x y tx) k69) + (b01 (mMk (mwC (sS c 0 0) d (m1 x y tx) k69) d ((20 * y) + (x + acr x tx * (k69 : Int)))))))), (7, .int (zI (-1))), (6, .int (zI (-1))), (0, .ref (b 0)), (1, .int (zI d)), (2, .int (zI x)), (3, .int (zI y)), (4, .int (zI tx)), (5, .int (zI ty))]) S.1 S.2.1 dX5_walk_98 hl (by decide) rfl (fun ls hl => ?_)
                refine z_goto (tgt := 69) S dX5_walk_100 (by decide) ?_
                have e_39 : x + acr x tx * ((k69 + 1 : Nat) : Int) = (x + acr x tx * (k69 : Int)) + (-1) := by rw [hac1]; omega
                have hw : MW g b (mMkC (mwC (sS c 0 0) d (m1 x y tx) k69) d ((20 * y) + (x + acr x tx * (k69 : Int)))) = MW g b (mwC (sS c 0 0) d (m1 x y tx) (k69 + 1)) := by exact rfl
                rw [hw] at hP
                exact ih69 _ _ hP hS _ (lv_sub hl [0, 1, 2, 3, 4, 5, 6, 7, 8, 9] (by show _ = ([(9, .int (zI (x + acr x tx * ((k69 + 1 : Nat) : Int)))), (8, .int (zI (mwR (sS c 0 0) d (m1 x y tx) (k69 + 1)))), (7, .int (zI (-1))), (6, .int (zI (-1))), (0, .ref (b 0)), (1, .int (zI d)), (2, .int (zI x)), (3, .int (zI y)), (4, .int (zI tx)), (5, .int (zI ty))] : List (Nat × Value)); rw [e_39]; first | done | rfl)) trivial
            · have hl : lv_has ls 10 [(9, .int (zI (x + acr x tx * (((ab (tx - x)).toNat : Nat) : Int)))), (8, .int (zI (mwR (sS c 0 0) d (m1 x y tx) ((ab (tx - x)).toNat)))), (7, .int (zI (-1))), (6, .int (zI (-1))), (0, .ref (b 0)), (1, .int (zI d)), (2, .int (zI x)), (3, .int (zI y)), (4, .int (zI tx)), (5, .int (zI ty))] := hl
              have hP : va_P D vwCl (MW g b (mwC (sS c 0 0) d (m1 x y tx) ((ab (tx - x)).toNat))) H := hP
              have hb3 := acr_in (x := x) (tx := tx) (by omega) (k := (((ab (tx - x)).toNat : Nat) : Int)) (by omega)
              refine lv_iload S.1 S.2.1 dX5_walk_69 (lv_at hl 0 rfl) ?_
              refine lv_iload S.1 S.2.1 dX5_walk_71 (lv_at hl 8 rfl) ?_
              refine z_icmp_eq (tgt := 103) S dX5_walk_73 (by decide) (by omega) (fun h_40 => ?_) (fun h_40 => ?_)
              · refine lv_iload_n S.1 S.2.1 dX5_walk_103 rfl (lv_at hl 7 rfl) ?_
                refine lv_istore (lv' := [(9, .int (zI y)), (8, .int (zI (mwR (sS c 0 0) d (m1 x y tx) ((ab (tx - x)).toNat)))), (7, .int (zI (-1))), (6, .int (zI (-1))), (0, .ref (b 0)), (1, .int (zI d)), (2, .int (zI x)), (3, .int (zI y)), (4, .int (zI tx)), (5, .int (zI ty))]) S.1 S.2.1 dX5_walk_104 hl (by decide) rfl (fun ls hl => ?_)
                have e_41 : mwR (sS c 0 0) d (m1 x y tx) (ab (tx - x)).toNat + mwR (mWkA c d x y tx) d (m2 y tx ty) 0 = mwR (sS c 0 0) d (m1 x y tx) ((ab (tx - x)).toNat) := by exact Int.add_zero _
                have e_42 : y + acr y ty * ((0 : Nat) : Int) = y := by simp
                refine z_forW (D := D) (nL := 10) (A := (CA 14 b)) (H0 := s.heap) ((ab (ty - y)).toNat) (fun (k106 : Nat) => [(9, .int (zI (y + acr y ty * (k106 : Int)))), (8, .int (zI (mwR (sS c 0 0) d (m1 x y tx) (ab (tx - x)).toNat + mwR (mWkA c d x y tx) d (m2 y tx ty) k106))), (7, .int (zI (-1))), (6, .int (zI (-1))), (0, .ref (b 0)), (1, .int (zI d)), (2, .int (zI x)), (3, .int (zI y)), (4, .int (zI tx)), (5, .int (zI ty))]) (fun (k106 : Nat) => MW g b (mwC (mWkA c d x y tx) d (m2 y tx ty) k106)) (fun k106 => True) (fun k106 hk106 hJ106 H locs hP hS ls hl ih106 => ?_) (fun hJ106 H locs hP hS ls hl => ?_) 0 (by omega) trivial _ _ hP hS ls (lv_sub hl [0, 1, 2, 3, 4, 5, 6, 7, 8, 9] (by show _ = ([(9, .int (zI (y + acr y ty * ((0 : Nat) : Int)))), (8, .int (zI (mwR (sS c 0 0) d (m1 x y tx) (ab (tx - x)).toNat + mwR (mWkA c d x y tx) d (m2 y tx ty) 0))), (7, .int (zI (-1))), (6, .int (zI (-1))), (0, .ref (b 0)), (1, .int (zI d)), (2, .int (zI x)), (3, .int (zI y)), (4, .int (zI tx)), (5, .int (zI ty))] : List (Nat × Value)); rw [e_41, e_42]; first | done | rfl))
                · have hl : lv_has ls 10 [(9, .int (zI (y + acr y ty * (k106 : Int)))), (8, .int (zI (mwR (sS c 0 0) d (m1 x y tx) (ab (tx - x)).toNat + mwR (mWkA c d x y tx) d (m2 y tx ty) k106))), (7, .int (zI (-1))), (6, .int (zI (-1))), (0, .ref (b 0)), (1, .int (zI d)), (2, .int (zI x)), (3, .int (zI y)), (4, .int (zI tx)), (5, .int (zI ty))] := hl
                  have hP : va_P D vwCl (MW g b (mwC (mWkA c d x y tx) d (m2 y tx ty) k106)) H := hP
                  have hb4 := acr_in (x := y) (tx := ty) (by omega) (k := (k106 : Int)) (by omega)
                  refine lv_iload S.1 S.2.1 dX5_walk_106 (lv_at hl 0 rfl) ?_
                  refine lv_iload S.1 S.2.1 dX5_walk_108 (lv_at hl 9 rfl) ?_
                  refine z_icmp_eq (tgt := 141) S dX5_walk_110 (by decide) (by omega) (fun h_43 => ?_) (fun h_43 => ?_)
                  · exact absurd h_43 (acr_ne (by omega))
                  · refine lv_iload S.1 S.2.1 dX5_walk_113 (lv_at hl 1 rfl) ?_
                    refine lv_aload_n S.1 S.2.1 dX5_walk_115 rfl (lv_at hl 4 rfl) ?_
                    refine lv_iload_n S.1 S.2.1 dX5_walk_116 rfl (lv_at hl 5 rfl) ?_
                    refine z_bipush S (by decide) dX5_walk_117 ?_
                    refine lv_iload S.1 S.2.1 dX5_walk_119 (lv_at hl 0 rfl) ?_
                    refine z_imul S dX5_walk_121 ?_
                    refine lv_iload S.1 S.2.1 dX5_walk_122 (lv_at hl 8 rfl) ?_
                    refine z_iadd S dX5_walk_124 ?_
                    refine z_wV (As := [.int (zI d), .int (zI ((20 * (y + acr y ty * (k106 : Int))) + tx))]) (rest := [.int (zI (mwR (sS c 0 0) d (m1 x y tx) (ab (tx - x)).toNat + mwR (mWkA c d x y tx) d (m2 y tx ty) k106))]) S (m_X5_marks l D g b (mwC (mWkA c d x y tx) d (m2 y tx ty) k106) (mwC_IM (mwC_IM (hI.n0 (v := 0)) hd0 (m1 x y tx) (ab (tx - x)).toNat) hd0 (m2 y tx ty) k106) hda d ((20 * (y + acr y ty * (k106 : Int))) + tx) (by omega) (by omega)) ml_X5_106 im_X5_marks se_X5_marks ini_X5 cd_X5_marks ds_X5_marks ⟨Nat.le_of_ble_eq_true rfl, Nat.le_of_ble_eq_true rfl⟩ hK hP (va_recv hK.1 hP (ci := 5) (q0 := 0) rfl rfl) rfl hl.1 rfl (Nat.le_of_ble_eq_true rfl) ⟨Nat.zero_le _, Nat.zero_le _⟩ hS (fun _ h => h) dX5_walk_125 (fun H locs hP _ _ hS => ?_)
                    refine z_iadd S dX5_walk_128 ?_
                    refine lv_istore (lv' := [(8, .int (zI ((mwR (sS c 0 0) d (m1 x y tx) (ab (tx - x)).toNat + mwR (mWkA c d x y tx) d (m2 y tx ty) k106) + (b01 (mMk (mwC (mWkA c d x y tx) d (m2 y tx ty) k106) d ((20 * (y + acr y ty * (k106 : Int))) + tx)))))), (9, .int (zI (y + acr y ty * (k106 : Int)))), (7, .int (zI (-1))), (6, .int (zI (-1))), (0, .ref (b 0)), (1, .int (zI d)), (2, .int (zI x)), (3, .int (zI y)), (4, .int (zI tx)), (5, .int (zI ty))]) S.1 S.2.1 dX5_walk_129 hl (by decide) rfl (fun ls hl => ?_)
                    refine lv_iload S.1 S.2.1 dX5_walk_131 (lv_at hl 1 rfl) ?_
                    refine lv_iload S.1 S.2.1 dX5_walk_133 (lv_at hl 2 rfl) ?_
                    refine z_iadd S dX5_walk_135 ?_
                    refine lv_istore (lv' := [(9, .int (zI ((y + acr y ty * (k106 : Int)) + (-1)))), (8, .int (zI ((mwR (sS c 0 0) d (m1 x y tx) (ab (tx - x)).toNat + mwR (mWkA c d x y tx) d (m2 y tx ty) k106) + (b01 (mMk (mwC (mWkA c d x y tx) d (m2 y tx ty) k106) d ((20 * (y + acr y ty * (k106 : Int))) + tx)))))), (7, .int (zI (-1))), (6, .int (zI (-1))), (0, .ref (b 0)), (1, .int (zI d)), (2, .int (zI x)), (3, .int (zI y)), (4, .int (zI tx)), (5, .int (zI ty))]) S.1 S.2.1 dX5_walk_136 hl (by decide) rfl (fun ls hl => ?_)
                    refine z_goto (tgt := 106) S dX5_walk_138 (by decide) ?_
                    have e_44 : y + acr y ty * ((k106 + 1 : Nat) : Int) = (y + acr y ty * (k106 : Int)) + (-1) := by rw [hac2]; omega
                    have e_45 : mwR (sS c 0 0) d (m1 x y tx) (ab (tx - x)).toNat + mwR (mWkA c d x y tx) d (m2 y tx ty) (k106 + 1) = (mwR (sS c 0 0) d (m1 x y tx) (ab (tx - x)).toNat + mwR (mWkA c d x y tx) d (m2 y tx ty) k106) + (b01 (mMk (mwC (mWkA c d x y tx) d (m2 y tx ty) k106) d ((20 * (y + acr y ty * (k106 : Int))) + tx))) := by rw [mwR]; exact (Int.add_assoc _ _ _).symm
                    have hw : MW g b (mMkC (mwC (mWkA c d x y tx) d (m2 y tx ty) k106) d ((20 * (y + acr y ty * (k106 : Int))) + tx)) = MW g b (mwC (mWkA c d x y tx) d (m2 y tx ty) (k106 + 1)) := by exact rfl
                    rw [hw] at hP
                    exact ih106 _ _ hP hS _ (lv_sub hl [0, 1, 2, 3, 4, 5, 6, 7, 8, 9] (by show _ = ([(9, .int (zI (y + acr y ty * ((k106 + 1 : Nat) : Int)))), (8, .int (zI (mwR (sS c 0 0) d (m1 x y tx) (ab (tx - x)).toNat + mwR (mWkA c d x y tx) d (m2 y tx ty) (k106 + 1)))), (7, .int (zI (-1))), (6, .int (zI (-1))), (0, .ref (b 0)), (1, .int (zI d)), (2, .int (zI x)), (3, .int (zI y)), (4, .int (zI tx)), (5, .int (zI ty))] : List (Nat × Value)); rw [e_44, e_45]; first | done | rfl)) trivial
                · have hl : lv_has ls 10 [(9, .int (zI (y + acr y ty * (((ab (ty - y)).toNat : Nat) : Int)))), (8, .int (zI (mwR (sS c 0 0) d (m1 x y tx) (ab (tx - x)).toNat + mwR (mWkA c d x y tx) d (m2 y tx ty) ((ab (ty - y)).toNat)))), (7, .int (zI (-1))), (6, .int (zI (-1))), (0, .ref (b 0)), (1, .int (zI d)), (2, .int (zI x)), (3, .int (zI y)), (4, .int (zI tx)), (5, .int (zI ty))] := hl
                  have hP : va_P D vwCl (MW g b (mwC (mWkA c d x y tx) d (m2 y tx ty) ((ab (ty - y)).toNat))) H := hP
                  have hb4 := acr_in (x := y) (tx := ty) (by omega) (k := (((ab (ty - y)).toNat : Nat) : Int)) (by omega)
                  refine lv_iload S.1 S.2.1 dX5_walk_106 (lv_at hl 0 rfl) ?_
                  refine lv_iload S.1 S.2.1 dX5_walk_108 (lv_at hl 9 rfl) ?_
                  refine z_icmp_eq (tgt := 141) S dX5_walk_110 (by decide) (by omega) (fun h_46 => ?_) (fun h_46 => ?_)
                  · refine lv_iload S.1 S.2.1 dX5_walk_141 (lv_at hl 1 rfl) ?_
                    refine lv_aload_n S.1 S.2.1 dX5_walk_143 rfl (lv_at hl 4 rfl) ?_
                    refine lv_iload_n S.1 S.2.1 dX5_walk_144 rfl (lv_at hl 5 rfl) ?_
                    refine z_bipush S (by decide) dX5_walk_145 ?_
                    refine lv_iload S.1 S.2.1 dX5_walk_147 (lv_at hl 9 rfl) ?_
                    refine z_imul S dX5_walk_149 ?_
                    refine lv_iload S.1 S.2.1 dX5_walk_150 (lv_at hl 8 rfl) ?_
                    refine z_iadd S dX5_walk_152 ?_
                    refine z_wV (As := [.int (zI d), .int (zI ((20 * ty) + tx))]) (rest := [.int (zI (mwR (sS c 0 0) d (m1 x y tx) (ab (tx - x)).toNat + mwR (mWkA c d x y tx) d (m2 y tx ty) ((ab (ty - y)).toNat)))]) S (m_X5_marks l D g b (mwC (mWkA c d x y tx) d (m2 y tx ty) ((ab (ty - y)).toNat)) (mwC_IM (mwC_IM (hI.n0 (v := 0)) hd0 (m1 x y tx) (ab (tx - x)).toNat) hd0 (m2 y tx ty) ((ab (ty - y)).toNat)) hda d ((20 * ty) + tx) (by omega) (by omega)) ml_X5_106 im_X5_marks se_X5_marks ini_X5 cd_X5_marks ds_X5_marks ⟨Nat.le_of_ble_eq_true rfl, Nat.le_of_ble_eq_true rfl⟩ hK hP (va_recv hK.1 hP (ci := 5) (q0 := 0) rfl rfl) rfl hl.1 rfl (Nat.le_of_ble_eq_true rfl) ⟨Nat.zero_le _, Nat.zero_le _⟩ hS (fun _ h => h) dX5_walk_153 (fun H locs hP _ _ hS => ?_)
                    refine z_iadd S dX5_walk_156 ?_
                    have hw : MW g b (mMkC (mwC (mWkA c d x y tx) d (m2 y tx ty) ((ab (ty - y)).toNat)) d ((20 * ty) + tx)) = MW g b (mC c (jWalk c d x y tx ty) (mWkC c d x y tx ty)) := by first | (rw [show jWalk c d x y tx ty = 0 from (by unfold jWalk; repeat (first | rw [if_pos (by omega)] | rw [if_neg (by omega)]))]; rfl)
                    rw [hw] at hP
                    exact z_retw S hr hlk (by first | (rw [show jWalk c d x y tx ty = 0 from (by unfold jWalk; repeat (first | rw [if_pos (by omega)] | rw [if_neg (by omega)]))]; (show _ = (mWkR c d x y tx ty); first | rfl | grind))) hP hS dX5_walk_157
                  · exact absurd (by rw [show (((ab (ty - y)).toNat : Nat) : Int) = ab (ty - y) by omega, acr_ab]) h_46
              · exact absurd (by rw [show (((ab (tx - x)).toNat : Nat) : Int) = ab (tx - x) by omega, acr_ab]) h_40
      · refine lv_aload_n S.1 S.2.1 dX5_walk_31 rfl (lv_at hl 0 rfl) ?_
        refine z_iconst S dX5_walk_32 ?_
        refine z_wV (As := [.int (zI 1)]) (rest := []) S (m_X5_no l D g b (sS c 0 0) (hI.n0 (v := 0)) hda 1) ml_X5_89 im_X5_no se_X5_no ini_X5 cd_X5_no ds_X5_no ⟨Nat.le_of_ble_eq_true rfl, Nat.le_of_ble_eq_true rfl⟩ hK hP (va_recv hK.1 hP (ci := 5) (q0 := 0) rfl rfl) rfl hl.1 rfl (Nat.le_of_ble_eq_true rfl) ⟨Nat.zero_le _, Nat.zero_le _⟩ hS (fun _ h => h) dX5_walk_33 (fun H locs hP _ _ hS => ?_)
        have hw : MW g b (sS (sS c 0 0) 0 1) = MW g b (mC c (jWalk c d x y tx ty) (mWkC c d x y tx ty)) := by first | (rw [show jWalk c d x y tx ty = 1 from (by unfold jWalk; repeat (first | rw [if_pos (by omega)] | rw [if_neg (by omega)]))]; rfl)
        rw [hw] at hP
        exact z_retw S hr hlk (by first | (rw [show jWalk c d x y tx ty = 1 from (by unfold jWalk; repeat (first | rw [if_pos (by omega)] | rw [if_neg (by omega)]))]; rfl)) hP hS dX5_walk_36
set_option maxHeartbeats 4000000 in
set_option maxRecDepth 100000 in
theorem m_X5_pull (l : Launch) (D : va_G) (g : ClassId × ClassId × ClassId) (b : Nat → Nat) {B : Int} (c : CS) (hI : IM B c) (hda : CD 14 b) (x : Int) (y : Int) (h0 : I32 x) (h1 : I32 y) : WRi l yX5_pull cX5_pull 4 (some .int) 2 43 D g (CA 14 b) (MW g b c) [.ref (b 0), .int (zI x), .int (zI y)] (MW g b (mC c (jPull c x y) (mPull c x y))) (mA (jPull c x y) (c.2 8 (20 * y + x) - 1)) := by
  refine z_enter RX5 (by decide) rfl (Nat.le_of_ble_eq_true rfl) ?_
  intro p e s m args below meth co S hr hlk hK hP ls hl
  have hl : lv_has ls 4 [(0, .ref (b 0)), (1, .int (zI x)), (2, .int (zI y))] := hl
  have hs := hI.s
  have hS : va_S (CA 14 b) s.heap s.heap [] := va_S.rf
  refine lv_aload_n S.1 S.2.1 dX5_pull_0 rfl (lv_at hl 0 rfl) ?_
  refine z_iconst S dX5_pull_1 ?_
  refine z_put S inA5 tyX5 tyX5_ok nmX5 hK hP (MW_D hda _) hS 0 rfl rfl 0 (by decide) fl_X5_53 rfl (by decide +kernel) (Nat.le_of_ble_eq_true rfl) dX5_pull_2 (fun H locs hP hS => ?_)
  have hP : va_P D vwCl (MW g b (sS c 0 0)) H := hP
  refine lv_iload_n S.1 S.2.1 dX5_pull_5 rfl (lv_at hl 1 rfl) ?_
  refine lv_iload_n S.1 S.2.1 dX5_pull_6 rfl (lv_at hl 2 rfl) ?_
  refine z_rS (As := [.int (zI x), .int (zI y)]) (rest := []) S (m_X5_isSpot l D g x y (by omega)) ml_X5_86 sm_X5_isSpot ini_X5 cd_X5_isSpot ds_X5_isSpot ⟨Nat.le_of_ble_eq_true rfl, Nat.le_of_ble_eq_true rfl⟩ hK va_P_nil rfl hl.1 rfl (Nat.le_of_ble_eq_true rfl) ⟨Nat.zero_le _, Nat.zero_le _⟩ dX5_pull_7 ?_
  refine z_top (b01 (inF x y)) rfl ?_
  refine z_ifb_ne (tgt := 19) S dX5_pull_10 (by decide) (fun h_1 => ?_) (fun h_1 => ?_)
  · refine lv_aload_n S.1 S.2.1 dX5_pull_19 rfl (lv_at hl 0 rfl) ?_
    refine z_get (v := .ref (b 9)) S inA5 hK hP 0 rfl rfl 14 (by decide) fl_X5_38 rfl dX5_pull_20 ?_
    refine z_bipush S (by decide) dX5_pull_23 ?_
    refine lv_iload_n S.1 S.2.1 dX5_pull_25 rfl (lv_at hl 2 rfl) ?_
    refine z_imul S dX5_pull_26 ?_
    refine lv_iload_n S.1 S.2.1 dX5_pull_27 rfl (lv_at hl 1 rfl) ?_
    refine z_iadd S dX5_pull_28 ?_
    refine z_iald (F := c.2 8) S hK hP 9 rfl (by decide) (by omega) dX5_pull_29 ?_
    have hb_2 := hI.r8 ((20 * y) + x)
    refine lv_istore_n (lv' := [(3, .int (zI (c.2 8 ((20 * y) + x)))), (0, .ref (b 0)), (1, .int (zI x)), (2, .int (zI y))]) S.1 S.2.1 dX5_pull_30 rfl hl (by decide) rfl (fun ls hl => ?_)
    refine lv_iload_n S.1 S.2.1 dX5_pull_31 rfl (lv_at hl 0 rfl) ?_
    refine z_if_ne (tgt := 41) S dX5_pull_32 (by decide) (by omega) (fun h_3 => ?_) (fun h_3 => ?_)
    · refine lv_aload_n S.1 S.2.1 dX5_pull_41 rfl (lv_at hl 1 rfl) ?_
      refine z_get (v := .ref (b 9)) S inA5 hK hP 0 rfl rfl 14 (by decide) fl_X5_38 rfl dX5_pull_42 ?_
      refine z_bipush S (by decide) dX5_pull_45 ?_
      refine lv_iload_n S.1 S.2.1 dX5_pull_47 rfl (lv_at hl 3 rfl) ?_
      refine z_imul S dX5_pull_48 ?_
      refine lv_iload_n S.1 S.2.1 dX5_pull_49 rfl (lv_at hl 2 rfl) ?_
      refine z_iadd S dX5_pull_50 ?_
      refine z_iconst S dX5_pull_51 ?_
      refine z_iast (F := c.2 8) S hK hP (MW_D hda _) hS 9 rfl (by decide) (by omega) dX5_pull_52 (fun H locs hP hS => ?_)
      have hP : va_P D vwCl (MW g b (sA (sS c 0 0) 8 (upZ (c.2 8) ((20 * y) + x) 0))) H := hP
      refine lv_aload_n S.1 S.2.1 dX5_pull_53 rfl (lv_at hl 1 rfl) ?_
      refine lv_dup S.1 S.2.1 dX5_pull_54 rfl ?_
      refine z_get (v := .int (zI (c.1 5))) S inA5 hK hP 0 rfl rfl 13 (by decide) fl_X5_96 rfl dX5_pull_55 ?_
      refine z_iconst S dX5_pull_58 ?_
      refine z_isub S dX5_pull_59 ?_
      refine z_put S inA5 tyX5 tyX5_ok nmX5 hK hP (MW_D hda _) hS 0 rfl rfl 13 (by decide) fl_X5_96 rfl (by decide +kernel) (Nat.le_of_ble_eq_true rfl) dX5_pull_60 (fun H locs hP hS => ?_)
      have hP : va_P D vwCl (MW g b (sS (sA (sS c 0 0) 8 (upZ (c.2 8) ((20 * y) + x) 0)) 5 ((c.1 5) - 1))) H := hP
      refine lv_iload_n S.1 S.2.1 dX5_pull_63 rfl (lv_at hl 0 rfl) ?_
      refine z_iconst S dX5_pull_64 ?_
      refine z_isub S dX5_pull_65 ?_
      have hw : MW g b (sS (sA (sS c 0 0) 8 (upZ (c.2 8) ((20 * y) + x) 0)) 5 ((c.1 5) - 1)) = MW g b (mC c (jPull c x y) (mPull c x y)) := by first | (rw [show jPull c x y = 0 from (by unfold jPull; repeat (first | rw [if_pos (by omega)] | rw [if_neg (by omega)]))]; rfl)
      rw [hw] at hP
      exact z_retw S hr hlk (by first | (rw [show jPull c x y = 0 from (by unfold jPull; repeat (first | rw [if_pos (by omega)] | rw [if_neg (by omega)]))]; (show _ = (c.2 8 (20 * y + x) - 1); first | rfl | grind))) hP hS dX5_pull_66
    · refine lv_aload_n S.1 S.2.1 dX5_pull_35 rfl (lv_at hl 1 rfl) ?_
      refine z_iconst S dX5_pull_36 ?_
      refine z_wV (As := [.int (zI 2)]) (rest := []) S (m_X5_no l D g b (sS c 0 0) (hI.n0 (v := 0)) hda 2) ml_X5_89 im_X5_no se_X5_no ini_X5 cd_X5_no ds_X5_no ⟨Nat.le_of_ble_eq_true rfl, Nat.le_of_ble_eq_true rfl⟩ hK hP (va_recv hK.1 hP (ci := 5) (q0 := 0) rfl rfl) rfl hl.1 rfl (Nat.le_of_ble_eq_true rfl) ⟨Nat.zero_le _, Nat.zero_le _⟩ hS (fun _ h => h) dX5_pull_37 (fun H locs hP _ _ hS => ?_)
      have hw : MW g b (sS (sS c 0 0) 0 2) = MW g b (mC c (jPull c x y) (mPull c x y)) := by first | (rw [show jPull c x y = 2 from (by unfold jPull; repeat (first | rw [if_pos (by omega)] | rw [if_neg (by omega)]))]; rfl)
      rw [hw] at hP
      exact z_retw S hr hlk (by first | (rw [show jPull c x y = 2 from (by unfold jPull; repeat (first | rw [if_pos (by omega)] | rw [if_neg (by omega)]))]; rfl)) hP hS dX5_pull_40
  · refine lv_aload_n S.1 S.2.1 dX5_pull_13 rfl (lv_at hl 0 rfl) ?_
    refine z_iconst S dX5_pull_14 ?_
    refine z_wV (As := [.int (zI 1)]) (rest := []) S (m_X5_no l D g b (sS c 0 0) (hI.n0 (v := 0)) hda 1) ml_X5_89 im_X5_no se_X5_no ini_X5 cd_X5_no ds_X5_no ⟨Nat.le_of_ble_eq_true rfl, Nat.le_of_ble_eq_true rfl⟩ hK hP (va_recv hK.1 hP (ci := 5) (q0 := 0) rfl rfl) rfl hl.1 rfl (Nat.le_of_ble_eq_true rfl) ⟨Nat.zero_le _, Nat.zero_le _⟩ hS (fun _ h => h) dX5_pull_15 (fun H locs hP _ _ hS => ?_)
    have hw : MW g b (sS (sS c 0 0) 0 1) = MW g b (mC c (jPull c x y) (mPull c x y)) := by first | (rw [show jPull c x y = 1 from (by unfold jPull; repeat (first | rw [if_pos (by omega)] | rw [if_neg (by omega)]))]; rfl)
    rw [hw] at hP
    exact z_retw S hr hlk (by first | (rw [show jPull c x y = 1 from (by unfold jPull; repeat (first | rw [if_pos (by omega)] | rw [if_neg (by omega)]))]; rfl)) hP hS dX5_pull_18
set_option maxHeartbeats 4000000 in
set_option maxRecDepth 100000 in
theorem m_X5_pit (l : Launch) (D : va_G) (g : ClassId × ClassId × ClassId) (b : Nat → Nat) {B : Int} (c : CS) (hI : IM B c) (hda : CD 14 b) (x : Int) (y : Int) (h0 : I32 x) (h1 : I32 y) : WRi l yX5_pit cX5_pit 3 (some .int) 2 43 D g (CA 14 b) (MW g b c) [.ref (b 0), .int (zI x), .int (zI y)] (MW g b (mC c (jPit c x y) (mPit c x y))) (mA (jPit c x y) (c.1 6 + 1 - 1)) := by
  refine z_enter RX5 (by decide) rfl (Nat.le_of_ble_eq_true rfl) ?_
  intro p e s m args below meth co S hr hlk hK hP ls hl
  have hl : lv_has ls 3 [(0, .ref (b 0)), (1, .int (zI x)), (2, .int (zI y))] := hl
  have hs := hI.s
  have hS : va_S (CA 14 b) s.heap s.heap [] := va_S.rf
  refine lv_aload_n S.1 S.2.1 dX5_pit_0 rfl (lv_at hl 0 rfl) ?_
  refine z_iconst S dX5_pit_1 ?_
  refine z_put S inA5 tyX5 tyX5_ok nmX5 hK hP (MW_D hda _) hS 0 rfl rfl 0 (by decide) fl_X5_53 rfl (by decide +kernel) (Nat.le_of_ble_eq_true rfl) dX5_pit_2 (fun H locs hP hS => ?_)
  have hP : va_P D vwCl (MW g b (sS c 0 0)) H := hP
  refine lv_iload_n S.1 S.2.1 dX5_pit_5 rfl (lv_at hl 1 rfl) ?_
  refine lv_iload_n S.1 S.2.1 dX5_pit_6 rfl (lv_at hl 2 rfl) ?_
  refine z_rS (As := [.int (zI x), .int (zI y)]) (rest := []) S (m_X5_isSpot l D g x y (by omega)) ml_X5_86 sm_X5_isSpot ini_X5 cd_X5_isSpot ds_X5_isSpot ⟨Nat.le_of_ble_eq_true rfl, Nat.le_of_ble_eq_true rfl⟩ hK va_P_nil rfl hl.1 rfl (Nat.le_of_ble_eq_true rfl) ⟨Nat.zero_le _, Nat.zero_le _⟩ dX5_pit_7 ?_
  refine z_top (b01 (inF x y)) rfl ?_
  refine z_ifb_ne (tgt := 19) S dX5_pit_10 (by decide) (fun h_1 => ?_) (fun h_1 => ?_)
  · refine lv_aload_n S.1 S.2.1 dX5_pit_19 rfl (lv_at hl 0 rfl) ?_
    refine z_get (v := .int (zI (c.1 6))) S inA5 hK hP 0 rfl rfl 15 (by decide) fl_X5_63 rfl dX5_pit_20 ?_
    refine z_bipush S (by decide) dX5_pit_23 ?_
    refine z_icmp_eq (tgt := 42) S dX5_pit_25 (by decide) (by omega) (fun h_2 => ?_) (fun h_2 => ?_)
    · refine lv_aload_n S.1 S.2.1 dX5_pit_42 rfl (lv_at hl 0 rfl) ?_
      refine z_iconst S dX5_pit_43 ?_
      refine z_wV (As := [.int (zI 2)]) (rest := []) S (m_X5_no l D g b (sS c 0 0) (hI.n0 (v := 0)) hda 2) ml_X5_89 im_X5_no se_X5_no ini_X5 cd_X5_no ds_X5_no ⟨Nat.le_of_ble_eq_true rfl, Nat.le_of_ble_eq_true rfl⟩ hK hP (va_recv hK.1 hP (ci := 5) (q0 := 0) rfl rfl) rfl hl.1 rfl (Nat.le_of_ble_eq_true rfl) ⟨Nat.zero_le _, Nat.zero_le _⟩ hS (fun _ h => h) dX5_pit_44 (fun H locs hP _ _ hS => ?_)
      have hw : MW g b (sS (sS c 0 0) 0 2) = MW g b (mC c (jPit c x y) (mPit c x y)) := by first | (rw [show jPit c x y = 2 from (by unfold jPit; repeat (first | rw [if_pos (by omega)] | rw [if_neg (by omega)]))]; rfl)
      rw [hw] at hP
      exact z_retw S hr hlk (by first | (rw [show jPit c x y = 2 from (by unfold jPit; repeat (first | rw [if_pos (by omega)] | rw [if_neg (by omega)]))]; rfl)) hP hS dX5_pit_47
    · refine lv_aload_n S.1 S.2.1 dX5_pit_28 rfl (lv_at hl 0 rfl) ?_
      refine z_bipush S (by decide) dX5_pit_29 ?_
      refine lv_iload_n S.1 S.2.1 dX5_pit_31 rfl (lv_at hl 2 rfl) ?_
      refine z_imul S dX5_pit_32 ?_
      refine lv_iload_n S.1 S.2.1 dX5_pit_33 rfl (lv_at hl 1 rfl) ?_
      refine z_iadd S dX5_pit_34 ?_
      refine z_rV (As := [.int (zI ((20 * y) + x))]) (rest := []) S (m_X5_pitAt l D g b (sS c 0 0) (hI.n0 (v := 0)) ((20 * y) + x) (by omega)) ml_X5_109 im_X5_pitAt se_X5_pitAt ini_X5 cd_X5_pitAt ds_X5_pitAt ⟨Nat.le_of_ble_eq_true rfl, Nat.le_of_ble_eq_true rfl⟩ hK hP (va_recv hK.1 hP (ci := 5) (q0 := 0) rfl rfl) rfl hl.1 rfl (Nat.le_of_ble_eq_true rfl) ⟨Nat.zero_le _, Nat.zero_le _⟩ dX5_pit_35 ?_
      have hb0 := mPA_b (hI.n0 (v := 0)) (20 * y + x)
      refine z_iconst S dX5_pit_38 ?_
      refine z_icmp_eq (tgt := 48) S dX5_pit_39 (by decide) (by omega) (fun h_3 => ?_) (fun h_3 => ?_)
      · refine lv_aload_n S.1 S.2.1 dX5_pit_48 rfl (lv_at hl 0 rfl) ?_
        refine z_get (v := .ref (b 10)) S inA5 hK hP 0 rfl rfl 16 (by decide) fl_X5_41 rfl dX5_pit_49 ?_
        refine lv_aload_n S.1 S.2.1 dX5_pit_52 rfl (lv_at hl 0 rfl) ?_
        refine z_get (v := .int (zI (c.1 6))) S inA5 hK hP 0 rfl rfl 15 (by decide) fl_X5_63 rfl dX5_pit_53 ?_
        refine z_bipush S (by decide) dX5_pit_56 ?_
        refine lv_iload_n S.1 S.2.1 dX5_pit_58 rfl (lv_at hl 2 rfl) ?_
        refine z_imul S dX5_pit_59 ?_
        refine lv_iload_n S.1 S.2.1 dX5_pit_60 rfl (lv_at hl 1 rfl) ?_
        refine z_iadd S dX5_pit_61 ?_
        refine z_iast (F := c.2 9) S hK hP (MW_D hda _) hS 10 rfl (by decide) (by omega) dX5_pit_62 (fun H locs hP hS => ?_)
        have hP : va_P D vwCl (MW g b (sA (sS c 0 0) 9 (upZ (c.2 9) (c.1 6) ((20 * y) + x)))) H := hP
        refine lv_aload_n S.1 S.2.1 dX5_pit_63 rfl (lv_at hl 0 rfl) ?_
        refine z_get (v := .ref (b 11)) S inA5 hK hP 0 rfl rfl 17 (by decide) fl_X5_44 rfl dX5_pit_64 ?_
        refine lv_aload_n S.1 S.2.1 dX5_pit_67 rfl (lv_at hl 0 rfl) ?_
        refine z_get (v := .int (zI (c.1 6))) S inA5 hK hP 0 rfl rfl 15 (by decide) fl_X5_63 rfl dX5_pit_68 ?_
        refine lv_aload_n S.1 S.2.1 dX5_pit_71 rfl (lv_at hl 0 rfl) ?_
        refine z_bipush S (by decide) dX5_pit_72 ?_
        refine lv_iload_n S.1 S.2.1 dX5_pit_74 rfl (lv_at hl 2 rfl) ?_
        refine z_imul S dX5_pit_75 ?_
        refine lv_iload_n S.1 S.2.1 dX5_pit_76 rfl (lv_at hl 1 rfl) ?_
        refine z_iadd S dX5_pit_77 ?_
        refine z_rV (As := [.int (zI ((20 * y) + x))]) (rest := [.int (zI (c.1 6)), .ref (b 11)]) S (m_X5_depth l D g b (sA (sS c 0 0) 9 (upZ (c.2 9) (c.1 6) ((20 * y) + x))) ((hI.n0 (v := 0)).u9 (by omega)) ((20 * y) + x) (by omega)) ml_X5_112 im_X5_depth se_X5_depth ini_X5 cd_X5_depth ds_X5_depth ⟨Nat.le_of_ble_eq_true rfl, Nat.le_of_ble_eq_true rfl⟩ hK hP (va_recv hK.1 hP (ci := 5) (q0 := 0) rfl rfl) rfl hl.1 rfl (Nat.le_of_ble_eq_true rfl) ⟨Nat.zero_le _, Nat.zero_le _⟩ dX5_pit_78 ?_
        refine z_iast (F := c.2 10) S hK hP (MW_D hda _) hS 11 rfl (by decide) (by omega) dX5_pit_81 (fun H locs hP hS => ?_)
        have hP : va_P D vwCl (MW g b (sA (sA (sS c 0 0) 9 (upZ (c.2 9) (c.1 6) ((20 * y) + x))) 10 (upZ (c.2 10) (c.1 6) (mDep (sA (sS c 0 0) 9 (upZ (c.2 9) (c.1 6) ((20 * y) + x))) ((20 * y) + x) ((sA (sS c 0 0) 9 (upZ (c.2 9) (c.1 6) ((20 * y) + x))).1 3).toNat)))) H := hP
        refine lv_aload_n S.1 S.2.1 dX5_pit_82 rfl (lv_at hl 0 rfl) ?_
        refine lv_dup S.1 S.2.1 dX5_pit_83 rfl ?_
        refine z_get (v := .int (zI (c.1 6))) S inA5 hK hP 0 rfl rfl 15 (by decide) fl_X5_63 rfl dX5_pit_84 ?_
        refine z_iconst S dX5_pit_87 ?_
        refine z_iadd S dX5_pit_88 ?_
        refine z_put S inA5 tyX5 tyX5_ok nmX5 hK hP (MW_D hda _) hS 0 rfl rfl 15 (by decide) fl_X5_63 rfl (by decide +kernel) (Nat.le_of_ble_eq_true rfl) dX5_pit_89 (fun H locs hP hS => ?_)
        have hP : va_P D vwCl (MW g b (sS (sA (sA (sS c 0 0) 9 (upZ (c.2 9) (c.1 6) ((20 * y) + x))) 10 (upZ (c.2 10) (c.1 6) (mDep (sA (sS c 0 0) 9 (upZ (c.2 9) (c.1 6) ((20 * y) + x))) ((20 * y) + x) ((sA (sS c 0 0) 9 (upZ (c.2 9) (c.1 6) ((20 * y) + x))).1 3).toNat))) 6 ((c.1 6) + 1))) H := hP
        refine lv_aload_n S.1 S.2.1 dX5_pit_92 rfl (lv_at hl 0 rfl) ?_
        refine z_get (v := .int (zI ((c.1 6) + 1))) S inA5 hK hP 0 rfl rfl 15 (by decide) fl_X5_63 rfl dX5_pit_93 ?_
        refine z_iconst S dX5_pit_96 ?_
        refine z_isub S dX5_pit_97 ?_
        have hw : MW g b (sS (sA (sA (sS c 0 0) 9 (upZ (c.2 9) (c.1 6) ((20 * y) + x))) 10 (upZ (c.2 10) (c.1 6) (mDep (sA (sS c 0 0) 9 (upZ (c.2 9) (c.1 6) ((20 * y) + x))) ((20 * y) + x) ((sA (sS c 0 0) 9 (upZ (c.2 9) (c.1 6) ((20 * y) + x))).1 3).toNat))) 6 ((c.1 6) + 1)) = MW g b (mC c (jPit c x y) (mPit c x y)) := by first | (rw [show jPit c x y = 0 from (by unfold jPit; repeat (first | rw [if_pos (by omega)] | rw [if_neg (by omega)]))]; rfl)
        rw [hw] at hP
        exact z_retw S hr hlk (by first | (rw [show jPit c x y = 0 from (by unfold jPit; repeat (first | rw [if_pos (by omega)] | rw [if_neg (by omega)]))]; (show _ = (c.1 6 + 1 - 1); first | rfl | grind))) hP hS dX5_pit_98
      · refine lv_aload_n S.1 S.2.1 dX5_pit_42 rfl (lv_at hl 0 rfl) ?_
        refine z_iconst S dX5_pit_43 ?_
        refine z_wV (As := [.int (zI 2)]) (rest := []) S (m_X5_no l D g b (sS c 0 0) (hI.n0 (v := 0)) hda 2) ml_X5_89 im_X5_no se_X5_no ini_X5 cd_X5_no ds_X5_no ⟨Nat.le_of_ble_eq_true rfl, Nat.le_of_ble_eq_true rfl⟩ hK hP (va_recv hK.1 hP (ci := 5) (q0 := 0) rfl rfl) rfl hl.1 rfl (Nat.le_of_ble_eq_true rfl) ⟨Nat.zero_le _, Nat.zero_le _⟩ hS (fun _ h => h) dX5_pit_44 (fun H locs hP _ _ hS => ?_)
        have hw : MW g b (sS (sS c 0 0) 0 2) = MW g b (mC c (jPit c x y) (mPit c x y)) := by first | (rw [show jPit c x y = 2 from (by unfold jPit; repeat (first | rw [if_pos (by omega)] | rw [if_neg (by omega)]))]; rfl)
        rw [hw] at hP
        exact z_retw S hr hlk (by first | (rw [show jPit c x y = 2 from (by unfold jPit; repeat (first | rw [if_pos (by omega)] | rw [if_neg (by omega)]))]; rfl)) hP hS dX5_pit_47
  · refine lv_aload_n S.1 S.2.1 dX5_pit_13 rfl (lv_at hl 0 rfl) ?_
    refine z_iconst S dX5_pit_14 ?_
    refine z_wV (As := [.int (zI 1)]) (rest := []) S (m_X5_no l D g b (sS c 0 0) (hI.n0 (v := 0)) hda 1) ml_X5_89 im_X5_no se_X5_no ini_X5 cd_X5_no ds_X5_no ⟨Nat.le_of_ble_eq_true rfl, Nat.le_of_ble_eq_true rfl⟩ hK hP (va_recv hK.1 hP (ci := 5) (q0 := 0) rfl rfl) rfl hl.1 rfl (Nat.le_of_ble_eq_true rfl) ⟨Nat.zero_le _, Nat.zero_le _⟩ hS (fun _ h => h) dX5_pit_15 (fun H locs hP _ _ hS => ?_)
    have hw : MW g b (sS (sS c 0 0) 0 1) = MW g b (mC c (jPit c x y) (mPit c x y)) := by first | (rw [show jPit c x y = 1 from (by unfold jPit; repeat (first | rw [if_pos (by omega)] | rw [if_neg (by omega)]))]; rfl)
    rw [hw] at hP
    exact z_retw S hr hlk (by first | (rw [show jPit c x y = 1 from (by unfold jPit; repeat (first | rw [if_pos (by omega)] | rw [if_neg (by omega)]))]; rfl)) hP hS dX5_pit_18
set_option maxHeartbeats 4000000 in
set_option maxRecDepth 100000 in
theorem m_X5_bet (l : Launch) (D : va_G) (g : ClassId × ClassId × ClassId) (b : Nat → Nat) {B : Int} (c : CS) (hI : IM B c) (hda : CD 14 b) (d : Int) (q : Int) (co9 : Int) (f : Int) (h0 : I32 d) (h1 : I32 q) (h2 : I32 co9) (h3 : I32 f) (h4 : 0 ≤ f ∧ f ≤ 1) : WRi l yX5_bet cX5_bet 5 (some .int) 2 43 D g (CA 14 b) (MW g b c) [.ref (b 0), .int (zI d), .int (zI q), .int (zI co9), .int (zI f)] (MW g b (mC c (jBet c d q co9) (mBet c d q co9 f))) (mA (jBet c d q co9) (c.2 5 d - co9)) := by
  refine z_enter RX5 (by decide) rfl (Nat.le_of_ble_eq_true rfl) ?_
  intro p e s m args below meth co S hr hlk hK hP ls hl
  have hl : lv_has ls 5 [(0, .ref (b 0)), (1, .int (zI d)), (2, .int (zI q)), (3, .int (zI co9)), (4, .int (zI f))] := hl
  have hs := hI.s
  have hS : va_S (CA 14 b) s.heap s.heap [] := va_S.rf
  refine lv_aload_n S.1 S.2.1 dX5_bet_0 rfl (lv_at hl 0 rfl) ?_
  refine z_iconst S dX5_bet_1 ?_
  refine z_put S inA5 tyX5 tyX5_ok nmX5 hK hP (MW_D hda _) hS 0 rfl rfl 0 (by decide) fl_X5_53 rfl (by decide +kernel) (Nat.le_of_ble_eq_true rfl) dX5_bet_2 (fun H locs hP hS => ?_)
  have hP : va_P D vwCl (MW g b (sS c 0 0)) H := hP
  refine lv_aload_n S.1 S.2.1 dX5_bet_5 rfl (lv_at hl 0 rfl) ?_
  refine lv_iload_n S.1 S.2.1 dX5_bet_6 rfl (lv_at hl 1 rfl) ?_
  refine z_rV (As := [.int (zI d)]) (rest := []) S (m_X5_isDowser l D g b (sS c 0 0) (hI.n0 (v := 0)) d (by omega)) ml_X5_102 im_X5_isDowser se_X5_isDowser ini_X5 cd_X5_isDowser ds_X5_isDowser ⟨Nat.le_of_ble_eq_true rfl, Nat.le_of_ble_eq_true rfl⟩ hK hP (va_recv hK.1 hP (ci := 5) (q0 := 0) rfl rfl) rfl hl.1 rfl (Nat.le_of_ble_eq_true rfl) ⟨Nat.zero_le _, Nat.zero_le _⟩ dX5_bet_7 ?_
  refine z_top (b01 (mD c d)) rfl ?_
  refine z_ifb_eq (tgt := 21) S dX5_bet_10 (by decide) (fun h_1 => ?_) (fun h_1 => ?_)
  · refine lv_aload_n S.1 S.2.1 dX5_bet_21 rfl (lv_at hl 0 rfl) ?_
    refine z_iconst S dX5_bet_22 ?_
    refine z_wV (As := [.int (zI 1)]) (rest := []) S (m_X5_no l D g b (sS c 0 0) (hI.n0 (v := 0)) hda 1) ml_X5_89 im_X5_no se_X5_no ini_X5 cd_X5_no ds_X5_no ⟨Nat.le_of_ble_eq_true rfl, Nat.le_of_ble_eq_true rfl⟩ hK hP (va_recv hK.1 hP (ci := 5) (q0 := 0) rfl rfl) rfl hl.1 rfl (Nat.le_of_ble_eq_true rfl) ⟨Nat.zero_le _, Nat.zero_le _⟩ hS (fun _ h => h) dX5_bet_23 (fun H locs hP _ _ hS => ?_)
    have hw : MW g b (sS (sS c 0 0) 0 1) = MW g b (mC c (jBet c d q co9) (mBet c d q co9 f)) := by first | (rw [show jBet c d q co9 = 1 from (by unfold jBet; repeat (first | rw [if_pos (by omega)] | rw [if_neg (by omega)]))]; rfl)
    rw [hw] at hP
    exact z_retw S hr hlk (by first | (rw [show jBet c d q co9 = 1 from (by unfold jBet; repeat (first | rw [if_pos (by omega)] | rw [if_neg (by omega)]))]; rfl)) hP hS dX5_bet_26
  · refine lv_aload_n S.1 S.2.1 dX5_bet_13 rfl (lv_at hl 0 rfl) ?_
    refine lv_iload_n S.1 S.2.1 dX5_bet_14 rfl (lv_at hl 2 rfl) ?_
    refine z_rV (As := [.int (zI q)]) (rest := []) S (m_X5_isPit l D g b (sS c 0 0) (hI.n0 (v := 0)) q (by omega)) ml_X5_118 im_X5_isPit se_X5_isPit ini_X5 cd_X5_isPit ds_X5_isPit ⟨Nat.le_of_ble_eq_true rfl, Nat.le_of_ble_eq_true rfl⟩ hK hP (va_recv hK.1 hP (ci := 5) (q0 := 0) rfl rfl) rfl hl.1 rfl (Nat.le_of_ble_eq_true rfl) ⟨Nat.zero_le _, Nat.zero_le _⟩ dX5_bet_15 ?_
    refine z_top (b01 (mP c q)) rfl ?_
    refine z_ifb_ne (tgt := 27) S dX5_bet_18 (by decide) (fun h_2 => ?_) (fun h_2 => ?_)
    · refine lv_iload_n S.1 S.2.1 dX5_bet_27 rfl (lv_at hl 3 rfl) ?_
      refine z_iconst S dX5_bet_28 ?_
      refine z_bipush S (by decide) dX5_bet_29 ?_
      refine z_rS (As := [.int (zI co9), .int (zI 1), .int (zI 99)]) (rest := []) S (m_X5_isIn l D g co9 1 99 (by omega)) ml_X5_56 sm_X5_isIn ini_X5 cd_X5_isIn ds_X5_isIn ⟨Nat.le_of_ble_eq_true rfl, Nat.le_of_ble_eq_true rfl⟩ hK va_P_nil rfl hl.1 rfl (Nat.le_of_ble_eq_true rfl) ⟨Nat.zero_le _, Nat.zero_le _⟩ dX5_bet_31 ?_
      refine z_top (b01 (1 ≤ co9 ∧ co9 ≤ 99)) rfl ?_
      refine z_ifb_ne (tgt := 43) S dX5_bet_34 (by decide) (fun h_3 => ?_) (fun h_3 => ?_)
      · refine lv_aload_n S.1 S.2.1 dX5_bet_43 rfl (lv_at hl 0 rfl) ?_
        refine z_get (v := .ref (b 12)) S inA5 hK hP 0 rfl rfl 18 (by decide) fl_X5_47 rfl dX5_bet_44 ?_
        refine lv_iload_n S.1 S.2.1 dX5_bet_47 rfl (lv_at hl 2 rfl) ?_
        refine z_iald (F := c.2 11) S hK hP 12 rfl (by decide) (by omega) dX5_bet_48 ?_
        have hb_4 := hI.r11 q
        refine z_if_gt (tgt := 75) S dX5_bet_49 (by decide) (by omega) (fun h_5 => ?_) (fun h_5 => ?_)
        · refine lv_aload_n S.1 S.2.1 dX5_bet_75 rfl (lv_at hl 0 rfl) ?_
          refine z_iconst S dX5_bet_76 ?_
          refine z_wV (As := [.int (zI 3)]) (rest := []) S (m_X5_no l D g b (sS c 0 0) (hI.n0 (v := 0)) hda 3) ml_X5_89 im_X5_no se_X5_no ini_X5 cd_X5_no ds_X5_no ⟨Nat.le_of_ble_eq_true rfl, Nat.le_of_ble_eq_true rfl⟩ hK hP (va_recv hK.1 hP (ci := 5) (q0 := 0) rfl rfl) rfl hl.1 rfl (Nat.le_of_ble_eq_true rfl) ⟨Nat.zero_le _, Nat.zero_le _⟩ hS (fun _ h => h) dX5_bet_77 (fun H locs hP _ _ hS => ?_)
          have hw : MW g b (sS (sS c 0 0) 0 3) = MW g b (mC c (jBet c d q co9) (mBet c d q co9 f)) := by first | (rw [show jBet c d q co9 = 3 from (by unfold jBet; repeat (first | rw [if_pos (by omega)] | rw [if_neg (by omega)]))]; rfl)
          rw [hw] at hP
          exact z_retw S hr hlk (by first | (rw [show jBet c d q co9 = 3 from (by unfold jBet; repeat (first | rw [if_pos (by omega)] | rw [if_neg (by omega)]))]; rfl)) hP hS dX5_bet_80
        · refine lv_aload_n S.1 S.2.1 dX5_bet_52 rfl (lv_at hl 0 rfl) ?_
          refine z_get (v := .ref (b 13)) S inA5 hK hP 0 rfl rfl 19 (by decide) fl_X5_50 rfl dX5_bet_53 ?_
          refine z_iconst S dX5_bet_56 ?_
          refine lv_iload_n S.1 S.2.1 dX5_bet_57 rfl (lv_at hl 2 rfl) ?_
          refine z_imul S dX5_bet_58 ?_
          refine lv_iload_n S.1 S.2.1 dX5_bet_59 rfl (lv_at hl 1 rfl) ?_
          refine z_iadd S dX5_bet_60 ?_
          refine z_iald (F := c.2 12) S hK hP 13 rfl (by decide) (by omega) dX5_bet_61 ?_
          have hb_6 := hI.r12 ((5 * q) + d)
          refine z_if_ne (tgt := 75) S dX5_bet_62 (by decide) (by omega) (fun h_7 => ?_) (fun h_7 => ?_)
          · refine lv_aload_n S.1 S.2.1 dX5_bet_75 rfl (lv_at hl 0 rfl) ?_
            refine z_iconst S dX5_bet_76 ?_
            refine z_wV (As := [.int (zI 3)]) (rest := []) S (m_X5_no l D g b (sS c 0 0) (hI.n0 (v := 0)) hda 3) ml_X5_89 im_X5_no se_X5_no ini_X5 cd_X5_no ds_X5_no ⟨Nat.le_of_ble_eq_true rfl, Nat.le_of_ble_eq_true rfl⟩ hK hP (va_recv hK.1 hP (ci := 5) (q0 := 0) rfl rfl) rfl hl.1 rfl (Nat.le_of_ble_eq_true rfl) ⟨Nat.zero_le _, Nat.zero_le _⟩ hS (fun _ h => h) dX5_bet_77 (fun H locs hP _ _ hS => ?_)
            have hw : MW g b (sS (sS c 0 0) 0 3) = MW g b (mC c (jBet c d q co9) (mBet c d q co9 f)) := by first | (rw [show jBet c d q co9 = 3 from (by unfold jBet; repeat (first | rw [if_pos (by omega)] | rw [if_neg (by omega)]))]; rfl)
            rw [hw] at hP
            exact z_retw S hr hlk (by first | (rw [show jBet c d q co9 = 3 from (by unfold jBet; repeat (first | rw [if_pos (by omega)] | rw [if_neg (by omega)]))]; rfl)) hP hS dX5_bet_80
          · refine lv_aload_n S.1 S.2.1 dX5_bet_65 rfl (lv_at hl 0 rfl) ?_
            refine z_get (v := .ref (b 6)) S inA5 hK hP 0 rfl rfl 10 (by decide) fl_X5_29 rfl dX5_bet_66 ?_
            refine lv_iload_n S.1 S.2.1 dX5_bet_69 rfl (lv_at hl 1 rfl) ?_
            refine z_iald (F := c.2 5) S hK hP 6 rfl (by decide) (by omega) dX5_bet_70 ?_
            have hb_8 := hI.r5 d
            refine lv_iload_n S.1 S.2.1 dX5_bet_71 rfl (lv_at hl 3 rfl) ?_
            refine z_icmp_ge (tgt := 81) S dX5_bet_72 (by decide) (by omega) (fun h_9 => ?_) (fun h_9 => ?_)
            · refine lv_aload_n S.1 S.2.1 dX5_bet_81 rfl (lv_at hl 0 rfl) ?_
              refine z_get (v := .ref (b 6)) S inA5 hK hP 0 rfl rfl 10 (by decide) fl_X5_29 rfl dX5_bet_82 ?_
              refine lv_iload_n S.1 S.2.1 dX5_bet_85 rfl (lv_at hl 1 rfl) ?_
              refine lv_dup2_11 S.1 S.2.1 dX5_bet_86 rfl rfl ?_
              refine z_iald (F := c.2 5) S hK hP 6 rfl (by decide) (by omega) dX5_bet_87 ?_
              have hb_10 := hI.r5 d
              refine lv_iload_n S.1 S.2.1 dX5_bet_88 rfl (lv_at hl 3 rfl) ?_
              refine z_isub S dX5_bet_89 ?_
              refine z_iast (F := c.2 5) S hK hP (MW_D hda _) hS 6 rfl (by decide) (by omega) dX5_bet_90 (fun H locs hP hS => ?_)
              have hP : va_P D vwCl (MW g b (sA (sS c 0 0) 5 (upZ (c.2 5) d ((c.2 5 d) - co9)))) H := hP
              refine lv_aload_n S.1 S.2.1 dX5_bet_91 rfl (lv_at hl 0 rfl) ?_
              refine z_get (v := .ref (b 13)) S inA5 hK hP 0 rfl rfl 19 (by decide) fl_X5_50 rfl dX5_bet_92 ?_
              refine z_iconst S dX5_bet_95 ?_
              refine lv_iload_n S.1 S.2.1 dX5_bet_96 rfl (lv_at hl 2 rfl) ?_
              refine z_imul S dX5_bet_97 ?_
              refine lv_iload_n S.1 S.2.1 dX5_bet_98 rfl (lv_at hl 1 rfl) ?_
              refine z_iadd S dX5_bet_99 ?_
              refine lv_iload S.1 S.2.1 dX5_bet_100 (lv_at hl 4 rfl) ?_
              refine z_if_eq (tgt := 109) S dX5_bet_102 (by decide) (by omega) (fun h_11 => ?_) (fun h_11 => ?_)
              · refine lv_iload_n S.1 S.2.1 dX5_bet_109 rfl (lv_at hl 3 rfl) ?_
                refine z_ineg S dX5_bet_110 ?_
                refine z_iast (F := c.2 12) S hK hP (MW_D hda _) hS 13 rfl (by decide) (by omega) dX5_bet_111 (fun H locs hP hS => ?_)
                have hP : va_P D vwCl (MW g b (sA (sA (sS c 0 0) 5 (upZ (c.2 5) d ((c.2 5 d) - co9))) 12 (upZ (c.2 12) ((5 * q) + d) (-co9)))) H := hP
                refine lv_aload_n S.1 S.2.1 dX5_bet_112 rfl (lv_at hl 0 rfl) ?_
                refine z_get (v := .ref (b 6)) S inA5 hK hP 0 rfl rfl 10 (by decide) fl_X5_29 rfl dX5_bet_113 ?_
                refine lv_iload_n S.1 S.2.1 dX5_bet_116 rfl (lv_at hl 1 rfl) ?_
                refine z_iald (F := upZ (c.2 5) d ((c.2 5 d) - co9)) S hK hP 6 rfl (by decide) (by omega) dX5_bet_117 ?_
                have hw : MW g b (sA (sA (sS c 0 0) 5 (upZ (c.2 5) d ((c.2 5 d) - co9))) 12 (upZ (c.2 12) ((5 * q) + d) (-co9))) = MW g b (mC c (jBet c d q co9) (mBet c d q co9 f)) := by first | (rw [show jBet c d q co9 = 0 from (by unfold jBet; repeat (first | rw [if_pos (by omega)] | rw [if_neg (by omega)]))]; show _ = MW g b (mBet c d q co9 f); first | rw [mBet, if_pos (by omega)] | rw [mBet, if_neg (by omega)])
                rw [hw] at hP
                exact z_retw S hr hlk (by first | (rw [show jBet c d q co9 = 0 from (by unfold jBet; repeat (first | rw [if_pos (by omega)] | rw [if_neg (by omega)]))]; (show _ = (c.2 5 d - co9); exact upZ_same))) hP hS dX5_bet_118
              · refine lv_iload_n S.1 S.2.1 dX5_bet_105 rfl (lv_at hl 3 rfl) ?_
                refine z_goto (tgt := 111) S dX5_bet_106 (by decide) ?_
                refine z_iast (F := c.2 12) S hK hP (MW_D hda _) hS 13 rfl (by decide) (by omega) dX5_bet_111 (fun H locs hP hS => ?_)
                have hP : va_P D vwCl (MW g b (sA (sA (sS c 0 0) 5 (upZ (c.2 5) d ((c.2 5 d) - co9))) 12 (upZ (c.2 12) ((5 * q) + d) co9))) H := hP
                refine lv_aload_n S.1 S.2.1 dX5_bet_112 rfl (lv_at hl 0 rfl) ?_
                refine z_get (v := .ref (b 6)) S inA5 hK hP 0 rfl rfl 10 (by decide) fl_X5_29 rfl dX5_bet_113 ?_
                refine lv_iload_n S.1 S.2.1 dX5_bet_116 rfl (lv_at hl 1 rfl) ?_
                refine z_iald (F := upZ (c.2 5) d ((c.2 5 d) - co9)) S hK hP 6 rfl (by decide) (by omega) dX5_bet_117 ?_
                have hw : MW g b (sA (sA (sS c 0 0) 5 (upZ (c.2 5) d ((c.2 5 d) - co9))) 12 (upZ (c.2 12) ((5 * q) + d) co9)) = MW g b (mC c (jBet c d q co9) (mBet c d q co9 f)) := by first | (rw [show jBet c d q co9 = 0 from (by unfold jBet; repeat (first | rw [if_pos (by omega)] | rw [if_neg (by omega)]))]; show _ = MW g b (mBet c d q co9 f); first | rw [mBet, if_pos (by omega)] | rw [mBet, if_neg (by omega)])
                rw [hw] at hP
                exact z_retw S hr hlk (by first | (rw [show jBet c d q co9 = 0 from (by unfold jBet; repeat (first | rw [if_pos (by omega)] | rw [if_neg (by omega)]))]; (show _ = (c.2 5 d - co9); exact upZ_same))) hP hS dX5_bet_118
            · refine lv_aload_n S.1 S.2.1 dX5_bet_75 rfl (lv_at hl 0 rfl) ?_
              refine z_iconst S dX5_bet_76 ?_
              refine z_wV (As := [.int (zI 3)]) (rest := []) S (m_X5_no l D g b (sS c 0 0) (hI.n0 (v := 0)) hda 3) ml_X5_89 im_X5_no se_X5_no ini_X5 cd_X5_no ds_X5_no ⟨Nat.le_of_ble_eq_true rfl, Nat.le_of_ble_eq_true rfl⟩ hK hP (va_recv hK.1 hP (ci := 5) (q0 := 0) rfl rfl) rfl hl.1 rfl (Nat.le_of_ble_eq_true rfl) ⟨Nat.zero_le _, Nat.zero_le _⟩ hS (fun _ h => h) dX5_bet_77 (fun H locs hP _ _ hS => ?_)
              have hw : MW g b (sS (sS c 0 0) 0 3) = MW g b (mC c (jBet c d q co9) (mBet c d q co9 f)) := by first | (rw [show jBet c d q co9 = 3 from (by unfold jBet; repeat (first | rw [if_pos (by omega)] | rw [if_neg (by omega)]))]; rfl)
              rw [hw] at hP
              exact z_retw S hr hlk (by first | (rw [show jBet c d q co9 = 3 from (by unfold jBet; repeat (first | rw [if_pos (by omega)] | rw [if_neg (by omega)]))]; rfl)) hP hS dX5_bet_80
      · refine lv_aload_n S.1 S.2.1 dX5_bet_37 rfl (lv_at hl 0 rfl) ?_
        refine z_iconst S dX5_bet_38 ?_
        refine z_wV (As := [.int (zI 2)]) (rest := []) S (m_X5_no l D g b (sS c 0 0) (hI.n0 (v := 0)) hda 2) ml_X5_89 im_X5_no se_X5_no ini_X5 cd_X5_no ds_X5_no ⟨Nat.le_of_ble_eq_true rfl, Nat.le_of_ble_eq_true rfl⟩ hK hP (va_recv hK.1 hP (ci := 5) (q0 := 0) rfl rfl) rfl hl.1 rfl (Nat.le_of_ble_eq_true rfl) ⟨Nat.zero_le _, Nat.zero_le _⟩ hS (fun _ h => h) dX5_bet_39 (fun H locs hP _ _ hS => ?_)
        have hw : MW g b (sS (sS c 0 0) 0 2) = MW g b (mC c (jBet c d q co9) (mBet c d q co9 f)) := by first | (rw [show jBet c d q co9 = 2 from (by unfold jBet; repeat (first | rw [if_pos (by omega)] | rw [if_neg (by omega)]))]; rfl)
        rw [hw] at hP
        exact z_retw S hr hlk (by first | (rw [show jBet c d q co9 = 2 from (by unfold jBet; repeat (first | rw [if_pos (by omega)] | rw [if_neg (by omega)]))]; rfl)) hP hS dX5_bet_42
    · refine lv_aload_n S.1 S.2.1 dX5_bet_21 rfl (lv_at hl 0 rfl) ?_
      refine z_iconst S dX5_bet_22 ?_
      refine z_wV (As := [.int (zI 1)]) (rest := []) S (m_X5_no l D g b (sS c 0 0) (hI.n0 (v := 0)) hda 1) ml_X5_89 im_X5_no se_X5_no ini_X5 cd_X5_no ds_X5_no ⟨Nat.le_of_ble_eq_true rfl, Nat.le_of_ble_eq_true rfl⟩ hK hP (va_recv hK.1 hP (ci := 5) (q0 := 0) rfl rfl) rfl hl.1 rfl (Nat.le_of_ble_eq_true rfl) ⟨Nat.zero_le _, Nat.zero_le _⟩ hS (fun _ h => h) dX5_bet_23 (fun H locs hP _ _ hS => ?_)
      have hw : MW g b (sS (sS c 0 0) 0 1) = MW g b (mC c (jBet c d q co9) (mBet c d q co9 f)) := by first | (rw [show jBet c d q co9 = 1 from (by unfold jBet; repeat (first | rw [if_pos (by omega)] | rw [if_neg (by omega)]))]; rfl)
      rw [hw] at hP
      exact z_retw S hr hlk (by first | (rw [show jBet c d q co9 = 1 from (by unfold jBet; repeat (first | rw [if_pos (by omega)] | rw [if_neg (by omega)]))]; rfl)) hP hS dX5_bet_26
set_option maxHeartbeats 4000000 in
set_option maxRecDepth 100000 in
theorem m_X5_dig (l : Launch) (D : va_G) (g : ClassId × ClassId × ClassId) (b : Nat → Nat) {B : Int} (c : CS) (hI : IM B c) (hda : CD 14 b) (q : Int) (by9 : Int) (h0 : I32 q) (h1 : I32 by9) (h2 : B ≤ 900000000) : WRi l yX5_dig cX5_dig 3 (some .int) 4 95 D g (CA 14 b) (MW g b c) [.ref (b 0), .int (zI q), .int (zI by9)] (MW g b (mC c (jDig c q by9) (mDig c q by9))) (mA (jDig c q by9) (mDpn c q by9)) := by
  refine z_enter RX5 (by decide) rfl (Nat.le_of_ble_eq_true rfl) ?_
  intro p e s m args below meth co S hr hlk hK hP ls hl
  have hl : lv_has ls 3 [(0, .ref (b 0)), (1, .int (zI q)), (2, .int (zI by9))] := hl
  have hs := hI.s
  have hS : va_S (CA 14 b) s.heap s.heap [] := va_S.rf
  refine lv_aload_n S.1 S.2.1 dX5_dig_0 rfl (lv_at hl 0 rfl) ?_
  refine z_iconst S dX5_dig_1 ?_
  refine z_put S inA5 tyX5 tyX5_ok nmX5 hK hP (MW_D hda _) hS 0 rfl rfl 0 (by decide) fl_X5_53 rfl (by decide +kernel) (Nat.le_of_ble_eq_true rfl) dX5_dig_2 (fun H locs hP hS => ?_)
  have hP : va_P D vwCl (MW g b (sS c 0 0)) H := hP
  refine lv_aload_n S.1 S.2.1 dX5_dig_5 rfl (lv_at hl 0 rfl) ?_
  refine lv_iload_n S.1 S.2.1 dX5_dig_6 rfl (lv_at hl 1 rfl) ?_
  refine z_rV (As := [.int (zI q)]) (rest := []) S (m_X5_isPit l D g b (sS c 0 0) (hI.n0 (v := 0)) q (by omega)) ml_X5_118 im_X5_isPit se_X5_isPit ini_X5 cd_X5_isPit ds_X5_isPit ⟨Nat.le_of_ble_eq_true rfl, Nat.le_of_ble_eq_true rfl⟩ hK hP (va_recv hK.1 hP (ci := 5) (q0 := 0) rfl rfl) rfl hl.1 rfl (Nat.le_of_ble_eq_true rfl) ⟨Nat.zero_le _, Nat.zero_le _⟩ dX5_dig_7 ?_
  refine z_top (b01 (mP c q)) rfl ?_
  refine z_ifb_ne (tgt := 19) S dX5_dig_10 (by decide) (fun h_1 => ?_) (fun h_1 => ?_)
  · refine lv_iload_n S.1 S.2.1 dX5_dig_19 rfl (lv_at hl 2 rfl) ?_
    refine z_iconst S dX5_dig_20 ?_
    refine z_bipush S (by decide) dX5_dig_21 ?_
    refine z_rS (As := [.int (zI by9), .int (zI 1), .int (zI 20)]) (rest := []) S (m_X5_isIn l D g by9 1 20 (by omega)) ml_X5_56 sm_X5_isIn ini_X5 cd_X5_isIn ds_X5_isIn ⟨Nat.le_of_ble_eq_true rfl, Nat.le_of_ble_eq_true rfl⟩ hK va_P_nil rfl hl.1 rfl (Nat.le_of_ble_eq_true rfl) ⟨Nat.zero_le _, Nat.zero_le _⟩ dX5_dig_23 ?_
    refine z_top (b01 (1 ≤ by9 ∧ by9 ≤ 20)) rfl ?_
    refine z_ifb_ne (tgt := 35) S dX5_dig_26 (by decide) (fun h_2 => ?_) (fun h_2 => ?_)
    · refine lv_aload_n S.1 S.2.1 dX5_dig_35 rfl (lv_at hl 0 rfl) ?_
      refine lv_iload_n S.1 S.2.1 dX5_dig_36 rfl (lv_at hl 1 rfl) ?_
      refine z_rV (As := [.int (zI q)]) (rest := []) S (m_X5_isOver l D g b (sS c 0 0) (hI.n0 (v := 0)) q (by omega)) ml_X5_132 im_X5_isOver se_X5_isOver ini_X5 cd_X5_isOver ds_X5_isOver ⟨Nat.le_of_ble_eq_true rfl, Nat.le_of_ble_eq_true rfl⟩ hK hP (va_recv hK.1 hP (ci := 5) (q0 := 0) rfl rfl) rfl hl.1 rfl (Nat.le_of_ble_eq_true rfl) ⟨Nat.zero_le _, Nat.zero_le _⟩ dX5_dig_37 ?_
      refine z_top (b01 (mO c q)) rfl ?_
      refine z_ifb_eq (tgt := 49) S dX5_dig_40 (by decide) (fun h_3 => ?_) (fun h_3 => ?_)
      · refine lv_aload_n S.1 S.2.1 dX5_dig_49 rfl (lv_at hl 0 rfl) ?_
        refine z_get (v := .ref (b 12)) S inA5 hK hP 0 rfl rfl 18 (by decide) fl_X5_47 rfl dX5_dig_50 ?_
        refine lv_iload_n S.1 S.2.1 dX5_dig_53 rfl (lv_at hl 1 rfl) ?_
        refine lv_aload_n S.1 S.2.1 dX5_dig_54 rfl (lv_at hl 0 rfl) ?_
        refine z_get (v := .ref (b 12)) S inA5 hK hP 0 rfl rfl 18 (by decide) fl_X5_47 rfl dX5_dig_55 ?_
        refine lv_iload_n S.1 S.2.1 dX5_dig_58 rfl (lv_at hl 1 rfl) ?_
        refine z_iald (F := c.2 11) S hK hP 12 rfl (by decide) (by omega) dX5_dig_59 ?_
        have hb_4 := hI.r11 q
        refine lv_iload_n S.1 S.2.1 dX5_dig_60 rfl (lv_at hl 2 rfl) ?_
        refine z_iadd S dX5_dig_61 ?_
        refine lv_aload_n S.1 S.2.1 dX5_dig_62 rfl (lv_at hl 0 rfl) ?_
        refine z_get (v := .ref (b 11)) S inA5 hK hP 0 rfl rfl 17 (by decide) fl_X5_44 rfl dX5_dig_63 ?_
        refine lv_iload_n S.1 S.2.1 dX5_dig_66 rfl (lv_at hl 1 rfl) ?_
        refine z_iald (F := c.2 10) S hK hP 11 rfl (by decide) (by omega) dX5_dig_67 ?_
        have hb_5 := hI.r10 q
        refine z_if_le (tgt := 80) S dX5_dig_68 (by decide) (by omega) (fun h_6 => ?_) (fun h_6 => ?_)
        · refine z_bipush S (by decide) dX5_dig_80 ?_
          refine z_min S ml_X5_135 hl.1 (Nat.le_of_ble_eq_true rfl) (Nat.le_of_ble_eq_true rfl) ⟨Nat.zero_le _, Nat.zero_le _⟩ (by omega) dX5_dig_82 ?_
          refine z_iast (F := c.2 11) S hK hP (MW_D hda _) hS 12 rfl (by decide) (by omega) dX5_dig_85 (fun H locs hP hS => ?_)
          have hP : va_P D vwCl (MW g b (sA (sS c 0 0) 11 (upZ (c.2 11) q (min ((c.2 11 q) + by9) 20)))) H := hP
          have hw : MW g b (sA (sS c 0 0) 11 (upZ (c.2 11) q (min ((c.2 11 q) + by9) 20))) = MW g b (mDp c q by9) := by first | rw [mDp, mDpn, if_pos (by omega)] | rw [mDp, mDpn, if_neg (by omega)]
          rw [hw] at hP
          refine lv_aload_n S.1 S.2.1 dX5_dig_86 rfl (lv_at hl 0 rfl) ?_
          refine lv_iload_n S.1 S.2.1 dX5_dig_87 rfl (lv_at hl 1 rfl) ?_
          refine z_rV (As := [.int (zI q)]) (rest := []) S (m_X5_isOver l D g b (mDp c q by9) (mDp_IM hI q (by omega)) q (by omega)) ml_X5_132 im_X5_isOver se_X5_isOver ini_X5 cd_X5_isOver ds_X5_isOver ⟨Nat.le_of_ble_eq_true rfl, Nat.le_of_ble_eq_true rfl⟩ hK hP (va_recv hK.1 hP (ci := 5) (q0 := 0) rfl rfl) rfl hl.1 rfl (Nat.le_of_ble_eq_true rfl) ⟨Nat.zero_le _, Nat.zero_le _⟩ dX5_dig_88 ?_
          refine z_ifb_eq (tgt := 99) S dX5_dig_91 (by decide) (fun h_7 => ?_) (fun h_7 => ?_)
          · refine lv_aload_n S.1 S.2.1 dX5_dig_99 rfl (lv_at hl 0 rfl) ?_
            refine z_get (v := .ref (b 12)) S inA5 hK hP 0 rfl rfl 18 (by decide) fl_X5_47 rfl dX5_dig_100 ?_
            refine lv_iload_n S.1 S.2.1 dX5_dig_103 rfl (lv_at hl 1 rfl) ?_
            refine z_iald S hK hP 12 rfl (by decide) (by omega) dX5_dig_104 ?_
            have hb_8 := (mDp_IM hI q (by omega)).r11 q
            have hw : MW g b (mDp c q by9) = MW g b (mC c (jDig c q by9) (mDig c q by9)) := by first | (rw [show jDig c q by9 = 0 from (by unfold jDig; repeat (first | rw [if_pos (by omega)] | rw [if_neg (by omega)]))]; show _ = MW g b (mDig c q by9); first | rw [mDig, if_pos (by assumption)] | rw [mDig, if_neg (by assumption)])
            rw [hw] at hP
            exact z_retw S hr hlk (by first | (rw [show jDig c q by9 = 0 from (by unfold jDig; repeat (first | rw [if_pos (by omega)] | rw [if_neg (by omega)]))]; (show _ = (mDpn c q by9); first | exact upZ_same | (rw [mPay_row _ _ 11 (by decide) (by decide) (by decide)]; exact upZ_same)))) hP hS dX5_dig_105
          · refine lv_aload_n S.1 S.2.1 dX5_dig_94 rfl (lv_at hl 0 rfl) ?_
            refine lv_iload_n S.1 S.2.1 dX5_dig_95 rfl (lv_at hl 1 rfl) ?_
            refine z_wVv (As := [.int (zI q)]) (rest := []) S (m_X5_pay l D g b (mDp c q by9) (mDp_IM hI q (by omega)) hda q (by omega) (by omega)) ml_X5_138 im_X5_pay se_X5_pay ini_X5 cd_X5_pay ds_X5_pay ⟨Nat.le_of_ble_eq_true rfl, Nat.le_of_ble_eq_true rfl⟩ hK hP (va_recv hK.1 hP (ci := 5) (q0 := 0) rfl rfl) rfl hl.1 rfl (Nat.le_of_ble_eq_true rfl) ⟨Nat.zero_le _, Nat.zero_le _⟩ hS (fun _ h => h) dX5_dig_96 (fun H locs hP _ _ hS => ?_)
            refine lv_aload_n S.1 S.2.1 dX5_dig_99 rfl (lv_at hl 0 rfl) ?_
            refine z_get (v := .ref (b 12)) S inA5 hK hP 0 rfl rfl 18 (by decide) fl_X5_47 rfl dX5_dig_100 ?_
            refine lv_iload_n S.1 S.2.1 dX5_dig_103 rfl (lv_at hl 1 rfl) ?_
            refine z_iald S hK hP 12 rfl (by decide) (by omega) dX5_dig_104 ?_
            have hb_9 := (mPay_IM (mDp_IM hI q (by omega)) h2 q).r11 q
            have hw : MW g b (mPay (mDp c q by9) q) = MW g b (mC c (jDig c q by9) (mDig c q by9)) := by first | (rw [show jDig c q by9 = 0 from (by unfold jDig; repeat (first | rw [if_pos (by omega)] | rw [if_neg (by omega)]))]; show _ = MW g b (mDig c q by9); first | rw [mDig, if_pos (by assumption)] | rw [mDig, if_neg (by assumption)])
            rw [hw] at hP
            exact z_retw S hr hlk (by first | (rw [show jDig c q by9 = 0 from (by unfold jDig; repeat (first | rw [if_pos (by omega)] | rw [if_neg (by omega)]))]; (show _ = (mDpn c q by9); first | exact upZ_same | (rw [mPay_row _ _ 11 (by decide) (by decide) (by decide)]; exact upZ_same)))) hP hS dX5_dig_105
        · refine lv_aload_n S.1 S.2.1 dX5_dig_71 rfl (lv_at hl 0 rfl) ?_
          refine z_get (v := .ref (b 11)) S inA5 hK hP 0 rfl rfl 17 (by decide) fl_X5_44 rfl dX5_dig_72 ?_
          refine lv_iload_n S.1 S.2.1 dX5_dig_75 rfl (lv_at hl 1 rfl) ?_
          refine z_iald (F := c.2 10) S hK hP 11 rfl (by decide) (by omega) dX5_dig_76 ?_
          have hb_10 := hI.r10 q
          refine z_goto (tgt := 82) S dX5_dig_77 (by decide) ?_
          refine z_min S ml_X5_135 hl.1 (Nat.le_of_ble_eq_true rfl) (Nat.le_of_ble_eq_true rfl) ⟨Nat.zero_le _, Nat.zero_le _⟩ (by omega) dX5_dig_82 ?_
          refine z_iast (F := c.2 11) S hK hP (MW_D hda _) hS 12 rfl (by decide) (by omega) dX5_dig_85 (fun H locs hP hS => ?_)
          have hP : va_P D vwCl (MW g b (sA (sS c 0 0) 11 (upZ (c.2 11) q (min ((c.2 11 q) + by9) (c.2 10 q))))) H := hP
          have hw : MW g b (sA (sS c 0 0) 11 (upZ (c.2 11) q (min ((c.2 11 q) + by9) (c.2 10 q)))) = MW g b (mDp c q by9) := by first | rw [mDp, mDpn, if_pos (by omega)] | rw [mDp, mDpn, if_neg (by omega)]
          rw [hw] at hP
          refine lv_aload_n S.1 S.2.1 dX5_dig_86 rfl (lv_at hl 0 rfl) ?_
          refine lv_iload_n S.1 S.2.1 dX5_dig_87 rfl (lv_at hl 1 rfl) ?_
          refine z_rV (As := [.int (zI q)]) (rest := []) S (m_X5_isOver l D g b (mDp c q by9) (mDp_IM hI q (by omega)) q (by omega)) ml_X5_132 im_X5_isOver se_X5_isOver ini_X5 cd_X5_isOver ds_X5_isOver ⟨Nat.le_of_ble_eq_true rfl, Nat.le_of_ble_eq_true rfl⟩ hK hP (va_recv hK.1 hP (ci := 5) (q0 := 0) rfl rfl) rfl hl.1 rfl (Nat.le_of_ble_eq_true rfl) ⟨Nat.zero_le _, Nat.zero_le _⟩ dX5_dig_88 ?_
          refine z_ifb_eq (tgt := 99) S dX5_dig_91 (by decide) (fun h_11 => ?_) (fun h_11 => ?_)
          · refine lv_aload_n S.1 S.2.1 dX5_dig_99 rfl (lv_at hl 0 rfl) ?_
            refine z_get (v := .ref (b 12)) S inA5 hK hP 0 rfl rfl 18 (by decide) fl_X5_47 rfl dX5_dig_100 ?_
            refine lv_iload_n S.1 S.2.1 dX5_dig_103 rfl (lv_at hl 1 rfl) ?_
            refine z_iald S hK hP 12 rfl (by decide) (by omega) dX5_dig_104 ?_
            have hb_12 := (mDp_IM hI q (by omega)).r11 q
            have hw : MW g b (mDp c q by9) = MW g b (mC c (jDig c q by9) (mDig c q by9)) := by first | (rw [show jDig c q by9 = 0 from (by unfold jDig; repeat (first | rw [if_pos (by omega)] | rw [if_neg (by omega)]))]; show _ = MW g b (mDig c q by9); first | rw [mDig, if_pos (by assumption)] | rw [mDig, if_neg (by assumption)])
            rw [hw] at hP
            exact z_retw S hr hlk (by first | (rw [show jDig c q by9 = 0 from (by unfold jDig; repeat (first | rw [if_pos (by omega)] | rw [if_neg (by omega)]))]; (show _ = (mDpn c q by9); first | exact upZ_same | (rw [mPay_row _ _ 11 (by decide) (by decide) (by decide)]; exact upZ_same)))) hP hS dX5_dig_105
          · refine lv_aload_n S.1 S.2.1 dX5_dig_94 rfl (lv_at hl 0 rfl) ?_
            refine lv_iload_n S.1 S.2.1 dX5_dig_95 rfl (lv_at hl 1 rfl) ?_
            refine z_wVv (As := [.int (zI q)]) (rest := []) S (m_X5_pay l D g b (mDp c q by9) (mDp_IM hI q (by omega)) hda q (by omega) (by omega)) ml_X5_138 im_X5_pay se_X5_pay ini_X5 cd_X5_pay ds_X5_pay ⟨Nat.le_of_ble_eq_true rfl, Nat.le_of_ble_eq_true rfl⟩ hK hP (va_recv hK.1 hP (ci := 5) (q0 := 0) rfl rfl) rfl hl.1 rfl (Nat.le_of_ble_eq_true rfl) ⟨Nat.zero_le _, Nat.zero_le _⟩ hS (fun _ h => h) dX5_dig_96 (fun H locs hP _ _ hS => ?_)
            refine lv_aload_n S.1 S.2.1 dX5_dig_99 rfl (lv_at hl 0 rfl) ?_
            refine z_get (v := .ref (b 12)) S inA5 hK hP 0 rfl rfl 18 (by decide) fl_X5_47 rfl dX5_dig_100 ?_
            refine lv_iload_n S.1 S.2.1 dX5_dig_103 rfl (lv_at hl 1 rfl) ?_
            refine z_iald S hK hP 12 rfl (by decide) (by omega) dX5_dig_104 ?_
            have hb_13 := (mPay_IM (mDp_IM hI q (by omega)) h2 q).r11 q
            have hw : MW g b (mPay (mDp c q by9) q) = MW g b (mC c (jDig c q by9) (mDig c q by9)) := by first | (rw [show jDig c q by9 = 0 from (by unfold jDig; repeat (first | rw [if_pos (by omega)] | rw [if_neg (by omega)]))]; show _ = MW g b (mDig c q by9); first | rw [mDig, if_pos (by assumption)] | rw [mDig, if_neg (by assumption)])
            rw [hw] at hP
            exact z_retw S hr hlk (by first | (rw [show jDig c q by9 = 0 from (by unfold jDig; repeat (first | rw [if_pos (by omega)] | rw [if_neg (by omega)]))]; (show _ = (mDpn c q by9); first | exact upZ_same | (rw [mPay_row _ _ 11 (by decide) (by decide) (by decide)]; exact upZ_same)))) hP hS dX5_dig_105
      · refine lv_aload_n S.1 S.2.1 dX5_dig_43 rfl (lv_at hl 0 rfl) ?_
        refine z_iconst S dX5_dig_44 ?_
        refine z_wV (As := [.int (zI 3)]) (rest := []) S (m_X5_no l D g b (sS c 0 0) (hI.n0 (v := 0)) hda 3) ml_X5_89 im_X5_no se_X5_no ini_X5 cd_X5_no ds_X5_no ⟨Nat.le_of_ble_eq_true rfl, Nat.le_of_ble_eq_true rfl⟩ hK hP (va_recv hK.1 hP (ci := 5) (q0 := 0) rfl rfl) rfl hl.1 rfl (Nat.le_of_ble_eq_true rfl) ⟨Nat.zero_le _, Nat.zero_le _⟩ hS (fun _ h => h) dX5_dig_45 (fun H locs hP _ _ hS => ?_)
        have hw : MW g b (sS (sS c 0 0) 0 3) = MW g b (mC c (jDig c q by9) (mDig c q by9)) := by first | (rw [show jDig c q by9 = 3 from (by unfold jDig; repeat (first | rw [if_pos (by omega)] | rw [if_neg (by omega)]))]; rfl)
        rw [hw] at hP
        exact z_retw S hr hlk (by first | (rw [show jDig c q by9 = 3 from (by unfold jDig; repeat (first | rw [if_pos (by omega)] | rw [if_neg (by omega)]))]; rfl)) hP hS dX5_dig_48
    · refine lv_aload_n S.1 S.2.1 dX5_dig_29 rfl (lv_at hl 0 rfl) ?_
      refine z_iconst S dX5_dig_30 ?_
      refine z_wV (As := [.int (zI 2)]) (rest := []) S (m_X5_no l D g b (sS c 0 0) (hI.n0 (v := 0)) hda 2) ml_X5_89 im_X5_no se_X5_no ini_X5 cd_X5_no ds_X5_no ⟨Nat.le_of_ble_eq_true rfl, Nat.le_of_ble_eq_true rfl⟩ hK hP (va_recv hK.1 hP (ci := 5) (q0 := 0) rfl rfl) rfl hl.1 rfl (Nat.le_of_ble_eq_true rfl) ⟨Nat.zero_le _, Nat.zero_le _⟩ hS (fun _ h => h) dX5_dig_31 (fun H locs hP _ _ hS => ?_)
      have hw : MW g b (sS (sS c 0 0) 0 2) = MW g b (mC c (jDig c q by9) (mDig c q by9)) := by first | (rw [show jDig c q by9 = 2 from (by unfold jDig; repeat (first | rw [if_pos (by omega)] | rw [if_neg (by omega)]))]; rfl)
      rw [hw] at hP
      exact z_retw S hr hlk (by first | (rw [show jDig c q by9 = 2 from (by unfold jDig; repeat (first | rw [if_pos (by omega)] | rw [if_neg (by omega)]))]; rfl)) hP hS dX5_dig_34
  · refine lv_aload_n S.1 S.2.1 dX5_dig_13 rfl (lv_at hl 0 rfl) ?_
    refine z_iconst S dX5_dig_14 ?_
    refine z_wV (As := [.int (zI 1)]) (rest := []) S (m_X5_no l D g b (sS c 0 0) (hI.n0 (v := 0)) hda 1) ml_X5_89 im_X5_no se_X5_no ini_X5 cd_X5_no ds_X5_no ⟨Nat.le_of_ble_eq_true rfl, Nat.le_of_ble_eq_true rfl⟩ hK hP (va_recv hK.1 hP (ci := 5) (q0 := 0) rfl rfl) rfl hl.1 rfl (Nat.le_of_ble_eq_true rfl) ⟨Nat.zero_le _, Nat.zero_le _⟩ hS (fun _ h => h) dX5_dig_15 (fun H locs hP _ _ hS => ?_)
    have hw : MW g b (sS (sS c 0 0) 0 1) = MW g b (mC c (jDig c q by9) (mDig c q by9)) := by first | (rw [show jDig c q by9 = 1 from (by unfold jDig; repeat (first | rw [if_pos (by omega)] | rw [if_neg (by omega)]))]; rfl)
    rw [hw] at hP
    exact z_retw S hr hlk (by first | (rw [show jDig c q by9 = 1 from (by unfold jDig; repeat (first | rw [if_pos (by omega)] | rw [if_neg (by omega)]))]; rfl)) hP hS dX5_dig_18
set_option maxHeartbeats 4000000 in
set_option maxRecDepth 100000 in
theorem m_X5_spot (l : Launch) (D : va_G) (g : ClassId × ClassId × ClassId) (b : Nat → Nat) {B : Int} (c : CS) (hI : IM B c) (hda : CD 14 b) (x : Int) (y : Int) (w : Int) (h0 : I32 x) (h1 : I32 y) (h2 : I32 w) : WRi l yX5_spot cX5_spot 4 (some .int) 4 87 D g (CA 14 b) (MW g b c) [.ref (b 0), .int (zI x), .int (zI y), .int (zI w)] (MW g b (mC c (jSpot x y w) (sS c 0 0))) (mA (jSpot x y w) (mSpT (sS c 0 0) (20 * y + x) w)) := by
  refine z_enter RX5 (by decide) rfl (Nat.le_of_ble_eq_true rfl) ?_
  intro p e s m args below meth co S hr hlk hK hP ls hl
  have hl : lv_has ls 4 [(0, .ref (b 0)), (1, .int (zI x)), (2, .int (zI y)), (3, .int (zI w))] := hl
  have hs := hI.s
  have hS : va_S (CA 14 b) s.heap s.heap [] := va_S.rf
  refine lv_aload_n S.1 S.2.1 dX5_spot_0 rfl (lv_at hl 0 rfl) ?_
  refine z_iconst S dX5_spot_1 ?_
  refine z_put S inA5 tyX5 tyX5_ok nmX5 hK hP (MW_D hda _) hS 0 rfl rfl 0 (by decide) fl_X5_53 rfl (by decide +kernel) (Nat.le_of_ble_eq_true rfl) dX5_spot_2 (fun H locs hP hS => ?_)
  have hP : va_P D vwCl (MW g b (sS c 0 0)) H := hP
  refine lv_iload_n S.1 S.2.1 dX5_spot_5 rfl (lv_at hl 1 rfl) ?_
  refine lv_iload_n S.1 S.2.1 dX5_spot_6 rfl (lv_at hl 2 rfl) ?_
  refine z_rS (As := [.int (zI x), .int (zI y)]) (rest := []) S (m_X5_isSpot l D g x y (by omega)) ml_X5_86 sm_X5_isSpot ini_X5 cd_X5_isSpot ds_X5_isSpot ⟨Nat.le_of_ble_eq_true rfl, Nat.le_of_ble_eq_true rfl⟩ hK va_P_nil rfl hl.1 rfl (Nat.le_of_ble_eq_true rfl) ⟨Nat.zero_le _, Nat.zero_le _⟩ dX5_spot_7 ?_
  refine z_top (b01 (inF x y)) rfl ?_
  refine z_ifb_eq (tgt := 36) S dX5_spot_10 (by decide) (fun h_1 => ?_) (fun h_1 => ?_)
  · refine lv_aload_n S.1 S.2.1 dX5_spot_36 rfl (lv_at hl 0 rfl) ?_
    refine z_iconst S dX5_spot_37 ?_
    refine z_wV (As := [.int (zI 1)]) (rest := []) S (m_X5_no l D g b (sS c 0 0) (hI.n0 (v := 0)) hda 1) ml_X5_89 im_X5_no se_X5_no ini_X5 cd_X5_no ds_X5_no ⟨Nat.le_of_ble_eq_true rfl, Nat.le_of_ble_eq_true rfl⟩ hK hP (va_recv hK.1 hP (ci := 5) (q0 := 0) rfl rfl) rfl hl.1 rfl (Nat.le_of_ble_eq_true rfl) ⟨Nat.zero_le _, Nat.zero_le _⟩ hS (fun _ h => h) dX5_spot_38 (fun H locs hP _ _ hS => ?_)
    have hw : MW g b (sS (sS c 0 0) 0 1) = MW g b (mC c (jSpot x y w) (sS c 0 0)) := by first | (rw [show jSpot x y w = 1 from (by unfold jSpot; repeat (first | rw [if_pos (by omega)] | rw [if_neg (by omega)]))]; rfl)
    rw [hw] at hP
    exact z_retw S hr hlk (by first | (rw [show jSpot x y w = 1 from (by unfold jSpot; repeat (first | rw [if_pos (by omega)] | rw [if_neg (by omega)]))]; rfl)) hP hS dX5_spot_41
  · refine lv_iload_n S.1 S.2.1 dX5_spot_13 rfl (lv_at hl 3 rfl) ?_
    refine z_iconst S dX5_spot_14 ?_
    refine z_iconst S dX5_spot_15 ?_
    refine z_rS (As := [.int (zI w), .int (zI 0), .int (zI 5)]) (rest := []) S (m_X5_isIn l D g w 0 5 (by omega)) ml_X5_56 sm_X5_isIn ini_X5 cd_X5_isIn ds_X5_isIn ⟨Nat.le_of_ble_eq_true rfl, Nat.le_of_ble_eq_true rfl⟩ hK va_P_nil rfl hl.1 rfl (Nat.le_of_ble_eq_true rfl) ⟨Nat.zero_le _, Nat.zero_le _⟩ dX5_spot_16 ?_
    refine z_top (b01 (0 ≤ w ∧ w ≤ 5)) rfl ?_
    refine z_ifb_eq (tgt := 36) S dX5_spot_19 (by decide) (fun h_2 => ?_) (fun h_2 => ?_)
    · refine lv_aload_n S.1 S.2.1 dX5_spot_36 rfl (lv_at hl 0 rfl) ?_
      refine z_iconst S dX5_spot_37 ?_
      refine z_wV (As := [.int (zI 1)]) (rest := []) S (m_X5_no l D g b (sS c 0 0) (hI.n0 (v := 0)) hda 1) ml_X5_89 im_X5_no se_X5_no ini_X5 cd_X5_no ds_X5_no ⟨Nat.le_of_ble_eq_true rfl, Nat.le_of_ble_eq_true rfl⟩ hK hP (va_recv hK.1 hP (ci := 5) (q0 := 0) rfl rfl) rfl hl.1 rfl (Nat.le_of_ble_eq_true rfl) ⟨Nat.zero_le _, Nat.zero_le _⟩ hS (fun _ h => h) dX5_spot_38 (fun H locs hP _ _ hS => ?_)
      have hw : MW g b (sS (sS c 0 0) 0 1) = MW g b (mC c (jSpot x y w) (sS c 0 0)) := by first | (rw [show jSpot x y w = 1 from (by unfold jSpot; repeat (first | rw [if_pos (by omega)] | rw [if_neg (by omega)]))]; rfl)
      rw [hw] at hP
      exact z_retw S hr hlk (by first | (rw [show jSpot x y w = 1 from (by unfold jSpot; repeat (first | rw [if_pos (by omega)] | rw [if_neg (by omega)]))]; rfl)) hP hS dX5_spot_41
    · refine lv_aload_n S.1 S.2.1 dX5_spot_22 rfl (lv_at hl 0 rfl) ?_
      refine z_bipush S (by decide) dX5_spot_23 ?_
      refine lv_iload_n S.1 S.2.1 dX5_spot_25 rfl (lv_at hl 2 rfl) ?_
      refine z_imul S dX5_spot_26 ?_
      refine lv_iload_n S.1 S.2.1 dX5_spot_27 rfl (lv_at hl 1 rfl) ?_
      refine z_iadd S dX5_spot_28 ?_
      refine lv_iload_n S.1 S.2.1 dX5_spot_29 rfl (lv_at hl 3 rfl) ?_
      refine z_rV (As := [.int (zI ((20 * y) + x)), .int (zI w)]) (rest := []) S (m_X5_spotTold l D g b (sS c 0 0) (hI.n0 (v := 0)) ((20 * y) + x) w (by omega) (by omega)) ml_X5_151 im_X5_spotTold se_X5_spotTold ini_X5 cd_X5_spotTold ds_X5_spotTold ⟨Nat.le_of_ble_eq_true rfl, Nat.le_of_ble_eq_true rfl⟩ hK hP (va_recv hK.1 hP (ci := 5) (q0 := 0) rfl rfl) rfl hl.1 rfl (Nat.le_of_ble_eq_true rfl) ⟨Nat.zero_le _, Nat.zero_le _⟩ dX5_spot_30 ?_
      refine z_goto (tgt := 41) S dX5_spot_33 (by decide) ?_
      have hw : MW g b (sS c 0 0) = MW g b (mC c (jSpot x y w) (sS c 0 0)) := by first | (rw [show jSpot x y w = 0 from (by unfold jSpot; repeat (first | rw [if_pos (by omega)] | rw [if_neg (by omega)]))]; rfl)
      rw [hw] at hP
      exact z_retw S hr hlk (by first | (rw [show jSpot x y w = 0 from (by unfold jSpot; repeat (first | rw [if_pos (by omega)] | rw [if_neg (by omega)]))]; (show _ = (mSpT (sS c 0 0) (20 * y + x) w); first | rfl | grind))) hP hS dX5_spot_41
set_option maxHeartbeats 4000000 in
set_option maxRecDepth 100000 in
theorem m_X5_rod (l : Launch) (D : va_G) (g : ClassId × ClassId × ClassId) (b : Nat → Nat) {B : Int} (c : CS) (hI : IM B c) (hda : CD 14 b) (d : Int) (x : Int) (y : Int) (h0 : I32 d) (h1 : I32 x) (h2 : I32 y) : WRi l yX5_rod cX5_rod 4 (some .int) 2 47 D g (CA 14 b) (MW g b c) [.ref (b 0), .int (zI d), .int (zI x), .int (zI y)] (MW g b (mC c (jRod c d x y) (sS c 0 0))) (mA (jRod c d x y) (mBnd (sS c 0 0) d (20 * y + x))) := by
  refine z_enter RX5 (by decide) rfl (Nat.le_of_ble_eq_true rfl) ?_
  intro p e s m args below meth co S hr hlk hK hP ls hl
  have hl : lv_has ls 4 [(0, .ref (b 0)), (1, .int (zI d)), (2, .int (zI x)), (3, .int (zI y))] := hl
  have hs := hI.s
  have hS : va_S (CA 14 b) s.heap s.heap [] := va_S.rf
  refine lv_aload_n S.1 S.2.1 dX5_rod_0 rfl (lv_at hl 0 rfl) ?_
  refine z_iconst S dX5_rod_1 ?_
  refine z_put S inA5 tyX5 tyX5_ok nmX5 hK hP (MW_D hda _) hS 0 rfl rfl 0 (by decide) fl_X5_53 rfl (by decide +kernel) (Nat.le_of_ble_eq_true rfl) dX5_rod_2 (fun H locs hP hS => ?_)
  have hP : va_P D vwCl (MW g b (sS c 0 0)) H := hP
  refine lv_aload_n S.1 S.2.1 dX5_rod_5 rfl (lv_at hl 0 rfl) ?_
  refine lv_iload_n S.1 S.2.1 dX5_rod_6 rfl (lv_at hl 1 rfl) ?_
  refine z_rV (As := [.int (zI d)]) (rest := []) S (m_X5_isDowser l D g b (sS c 0 0) (hI.n0 (v := 0)) d (by omega)) ml_X5_102 im_X5_isDowser se_X5_isDowser ini_X5 cd_X5_isDowser ds_X5_isDowser ⟨Nat.le_of_ble_eq_true rfl, Nat.le_of_ble_eq_true rfl⟩ hK hP (va_recv hK.1 hP (ci := 5) (q0 := 0) rfl rfl) rfl hl.1 rfl (Nat.le_of_ble_eq_true rfl) ⟨Nat.zero_le _, Nat.zero_le _⟩ dX5_rod_7 ?_
  refine z_top (b01 (mD c d)) rfl ?_
  refine z_ifb_eq (tgt := 35) S dX5_rod_10 (by decide) (fun h_1 => ?_) (fun h_1 => ?_)
  · refine lv_aload_n S.1 S.2.1 dX5_rod_35 rfl (lv_at hl 0 rfl) ?_
    refine z_iconst S dX5_rod_36 ?_
    refine z_wV (As := [.int (zI 1)]) (rest := []) S (m_X5_no l D g b (sS c 0 0) (hI.n0 (v := 0)) hda 1) ml_X5_89 im_X5_no se_X5_no ini_X5 cd_X5_no ds_X5_no ⟨Nat.le_of_ble_eq_true rfl, Nat.le_of_ble_eq_true rfl⟩ hK hP (va_recv hK.1 hP (ci := 5) (q0 := 0) rfl rfl) rfl hl.1 rfl (Nat.le_of_ble_eq_true rfl) ⟨Nat.zero_le _, Nat.zero_le _⟩ hS (fun _ h => h) dX5_rod_37 (fun H locs hP _ _ hS => ?_)
    have hw : MW g b (sS (sS c 0 0) 0 1) = MW g b (mC c (jRod c d x y) (sS c 0 0)) := by first | (rw [show jRod c d x y = 1 from (by unfold jRod; repeat (first | rw [if_pos (by omega)] | rw [if_neg (by omega)]))]; rfl)
    rw [hw] at hP
    exact z_retw S hr hlk (by first | (rw [show jRod c d x y = 1 from (by unfold jRod; repeat (first | rw [if_pos (by omega)] | rw [if_neg (by omega)]))]; rfl)) hP hS dX5_rod_40
  · refine lv_iload_n S.1 S.2.1 dX5_rod_13 rfl (lv_at hl 2 rfl) ?_
    refine lv_iload_n S.1 S.2.1 dX5_rod_14 rfl (lv_at hl 3 rfl) ?_
    refine z_rS (As := [.int (zI x), .int (zI y)]) (rest := []) S (m_X5_isSpot l D g x y (by omega)) ml_X5_86 sm_X5_isSpot ini_X5 cd_X5_isSpot ds_X5_isSpot ⟨Nat.le_of_ble_eq_true rfl, Nat.le_of_ble_eq_true rfl⟩ hK va_P_nil rfl hl.1 rfl (Nat.le_of_ble_eq_true rfl) ⟨Nat.zero_le _, Nat.zero_le _⟩ dX5_rod_15 ?_
    refine z_top (b01 (inF x y)) rfl ?_
    refine z_ifb_eq (tgt := 35) S dX5_rod_18 (by decide) (fun h_2 => ?_) (fun h_2 => ?_)
    · refine lv_aload_n S.1 S.2.1 dX5_rod_35 rfl (lv_at hl 0 rfl) ?_
      refine z_iconst S dX5_rod_36 ?_
      refine z_wV (As := [.int (zI 1)]) (rest := []) S (m_X5_no l D g b (sS c 0 0) (hI.n0 (v := 0)) hda 1) ml_X5_89 im_X5_no se_X5_no ini_X5 cd_X5_no ds_X5_no ⟨Nat.le_of_ble_eq_true rfl, Nat.le_of_ble_eq_true rfl⟩ hK hP (va_recv hK.1 hP (ci := 5) (q0 := 0) rfl rfl) rfl hl.1 rfl (Nat.le_of_ble_eq_true rfl) ⟨Nat.zero_le _, Nat.zero_le _⟩ hS (fun _ h => h) dX5_rod_37 (fun H locs hP _ _ hS => ?_)
      have hw : MW g b (sS (sS c 0 0) 0 1) = MW g b (mC c (jRod c d x y) (sS c 0 0)) := by first | (rw [show jRod c d x y = 1 from (by unfold jRod; repeat (first | rw [if_pos (by omega)] | rw [if_neg (by omega)]))]; rfl)
      rw [hw] at hP
      exact z_retw S hr hlk (by first | (rw [show jRod c d x y = 1 from (by unfold jRod; repeat (first | rw [if_pos (by omega)] | rw [if_neg (by omega)]))]; rfl)) hP hS dX5_rod_40
    · refine lv_aload_n S.1 S.2.1 dX5_rod_21 rfl (lv_at hl 0 rfl) ?_
      refine lv_iload_n S.1 S.2.1 dX5_rod_22 rfl (lv_at hl 1 rfl) ?_
      refine z_bipush S (by decide) dX5_rod_23 ?_
      refine lv_iload_n S.1 S.2.1 dX5_rod_25 rfl (lv_at hl 3 rfl) ?_
      refine z_imul S dX5_rod_26 ?_
      refine lv_iload_n S.1 S.2.1 dX5_rod_27 rfl (lv_at hl 2 rfl) ?_
      refine z_iadd S dX5_rod_28 ?_
      refine z_rV (As := [.int (zI d), .int (zI ((20 * y) + x))]) (rest := []) S (m_X5_bends l D g b (sS c 0 0) (hI.n0 (v := 0)) d ((20 * y) + x) (by omega) (by omega)) ml_X5_99 im_X5_bends se_X5_bends ini_X5 cd_X5_bends ds_X5_bends ⟨Nat.le_of_ble_eq_true rfl, Nat.le_of_ble_eq_true rfl⟩ hK hP (va_recv hK.1 hP (ci := 5) (q0 := 0) rfl rfl) rfl hl.1 rfl (Nat.le_of_ble_eq_true rfl) ⟨Nat.zero_le _, Nat.zero_le _⟩ dX5_rod_29 ?_
      refine z_goto (tgt := 40) S dX5_rod_32 (by decide) ?_
      have hw : MW g b (sS c 0 0) = MW g b (mC c (jRod c d x y) (sS c 0 0)) := by first | (rw [show jRod c d x y = 0 from (by unfold jRod; repeat (first | rw [if_pos (by omega)] | rw [if_neg (by omega)]))]; rfl)
      rw [hw] at hP
      exact z_retw S hr hlk (by first | (rw [show jRod c d x y = 0 from (by unfold jRod; repeat (first | rw [if_pos (by omega)] | rw [if_neg (by omega)]))]; (show _ = (mBnd (sS c 0 0) d (20 * y + x)); first | rfl | grind))) hP hS dX5_rod_40
set_option maxHeartbeats 4000000 in
set_option maxRecDepth 100000 in
theorem m_X5_told (l : Launch) (D : va_G) (g : ClassId × ClassId × ClassId) (b : Nat → Nat) {B : Int} (c : CS) (hI : IM B c) (hda : CD 14 b) (d : Int) (w : Int) (h0 : I32 d) (h1 : I32 w) : WRi l yX5_told cX5_told 3 (some .int) 4 87 D g (CA 14 b) (MW g b c) [.ref (b 0), .int (zI d), .int (zI w)] (MW g b (mC c (jTold c d w) (sS c 0 0))) (mA (jTold c d w) (mDoT (sS c 0 0) d w)) := by
  refine z_enter RX5 (by decide) rfl (Nat.le_of_ble_eq_true rfl) ?_
  intro p e s m args below meth co S hr hlk hK hP ls hl
  have hl : lv_has ls 3 [(0, .ref (b 0)), (1, .int (zI d)), (2, .int (zI w))] := hl
  have hs := hI.s
  have hS : va_S (CA 14 b) s.heap s.heap [] := va_S.rf
  refine lv_aload_n S.1 S.2.1 dX5_told_0 rfl (lv_at hl 0 rfl) ?_
  refine z_iconst S dX5_told_1 ?_
  refine z_put S inA5 tyX5 tyX5_ok nmX5 hK hP (MW_D hda _) hS 0 rfl rfl 0 (by decide) fl_X5_53 rfl (by decide +kernel) (Nat.le_of_ble_eq_true rfl) dX5_told_2 (fun H locs hP hS => ?_)
  have hP : va_P D vwCl (MW g b (sS c 0 0)) H := hP
  refine lv_aload_n S.1 S.2.1 dX5_told_5 rfl (lv_at hl 0 rfl) ?_
  refine lv_iload_n S.1 S.2.1 dX5_told_6 rfl (lv_at hl 1 rfl) ?_
  refine z_rV (As := [.int (zI d)]) (rest := []) S (m_X5_isDowser l D g b (sS c 0 0) (hI.n0 (v := 0)) d (by omega)) ml_X5_102 im_X5_isDowser se_X5_isDowser ini_X5 cd_X5_isDowser ds_X5_isDowser ⟨Nat.le_of_ble_eq_true rfl, Nat.le_of_ble_eq_true rfl⟩ hK hP (va_recv hK.1 hP (ci := 5) (q0 := 0) rfl rfl) rfl hl.1 rfl (Nat.le_of_ble_eq_true rfl) ⟨Nat.zero_le _, Nat.zero_le _⟩ dX5_told_7 ?_
  refine z_top (b01 (mD c d)) rfl ?_
  refine z_ifb_eq (tgt := 32) S dX5_told_10 (by decide) (fun h_1 => ?_) (fun h_1 => ?_)
  · refine lv_aload_n S.1 S.2.1 dX5_told_32 rfl (lv_at hl 0 rfl) ?_
    refine z_iconst S dX5_told_33 ?_
    refine z_wV (As := [.int (zI 1)]) (rest := []) S (m_X5_no l D g b (sS c 0 0) (hI.n0 (v := 0)) hda 1) ml_X5_89 im_X5_no se_X5_no ini_X5 cd_X5_no ds_X5_no ⟨Nat.le_of_ble_eq_true rfl, Nat.le_of_ble_eq_true rfl⟩ hK hP (va_recv hK.1 hP (ci := 5) (q0 := 0) rfl rfl) rfl hl.1 rfl (Nat.le_of_ble_eq_true rfl) ⟨Nat.zero_le _, Nat.zero_le _⟩ hS (fun _ h => h) dX5_told_34 (fun H locs hP _ _ hS => ?_)
    have hw : MW g b (sS (sS c 0 0) 0 1) = MW g b (mC c (jTold c d w) (sS c 0 0)) := by first | (rw [show jTold c d w = 1 from (by unfold jTold; repeat (first | rw [if_pos (by omega)] | rw [if_neg (by omega)]))]; rfl)
    rw [hw] at hP
    exact z_retw S hr hlk (by first | (rw [show jTold c d w = 1 from (by unfold jTold; repeat (first | rw [if_pos (by omega)] | rw [if_neg (by omega)]))]; rfl)) hP hS dX5_told_37
  · refine lv_iload_n S.1 S.2.1 dX5_told_13 rfl (lv_at hl 2 rfl) ?_
    refine z_iconst S dX5_told_14 ?_
    refine z_bipush S (by decide) dX5_told_15 ?_
    refine z_rS (As := [.int (zI w), .int (zI 0), .int (zI 7)]) (rest := []) S (m_X5_isIn l D g w 0 7 (by omega)) ml_X5_56 sm_X5_isIn ini_X5 cd_X5_isIn ds_X5_isIn ⟨Nat.le_of_ble_eq_true rfl, Nat.le_of_ble_eq_true rfl⟩ hK va_P_nil rfl hl.1 rfl (Nat.le_of_ble_eq_true rfl) ⟨Nat.zero_le _, Nat.zero_le _⟩ dX5_told_17 ?_
    refine z_top (b01 (0 ≤ w ∧ w ≤ 7)) rfl ?_
    refine z_ifb_eq (tgt := 32) S dX5_told_20 (by decide) (fun h_2 => ?_) (fun h_2 => ?_)
    · refine lv_aload_n S.1 S.2.1 dX5_told_32 rfl (lv_at hl 0 rfl) ?_
      refine z_iconst S dX5_told_33 ?_
      refine z_wV (As := [.int (zI 1)]) (rest := []) S (m_X5_no l D g b (sS c 0 0) (hI.n0 (v := 0)) hda 1) ml_X5_89 im_X5_no se_X5_no ini_X5 cd_X5_no ds_X5_no ⟨Nat.le_of_ble_eq_true rfl, Nat.le_of_ble_eq_true rfl⟩ hK hP (va_recv hK.1 hP (ci := 5) (q0 := 0) rfl rfl) rfl hl.1 rfl (Nat.le_of_ble_eq_true rfl) ⟨Nat.zero_le _, Nat.zero_le _⟩ hS (fun _ h => h) dX5_told_34 (fun H locs hP _ _ hS => ?_)
      have hw : MW g b (sS (sS c 0 0) 0 1) = MW g b (mC c (jTold c d w) (sS c 0 0)) := by first | (rw [show jTold c d w = 1 from (by unfold jTold; repeat (first | rw [if_pos (by omega)] | rw [if_neg (by omega)]))]; rfl)
      rw [hw] at hP
      exact z_retw S hr hlk (by first | (rw [show jTold c d w = 1 from (by unfold jTold; repeat (first | rw [if_pos (by omega)] | rw [if_neg (by omega)]))]; rfl)) hP hS dX5_told_37
    · refine lv_aload_n S.1 S.2.1 dX5_told_23 rfl (lv_at hl 0 rfl) ?_
      refine lv_iload_n S.1 S.2.1 dX5_told_24 rfl (lv_at hl 1 rfl) ?_
      refine lv_iload_n S.1 S.2.1 dX5_told_25 rfl (lv_at hl 2 rfl) ?_
      refine z_rV (As := [.int (zI d), .int (zI w)]) (rest := []) S (m_X5_dowserTold l D g b (sS c 0 0) (hI.n0 (v := 0)) d w (by omega) (by omega)) ml_X5_160 im_X5_dowserTold se_X5_dowserTold ini_X5 cd_X5_dowserTold ds_X5_dowserTold ⟨Nat.le_of_ble_eq_true rfl, Nat.le_of_ble_eq_true rfl⟩ hK hP (va_recv hK.1 hP (ci := 5) (q0 := 0) rfl rfl) rfl hl.1 rfl (Nat.le_of_ble_eq_true rfl) ⟨Nat.zero_le _, Nat.zero_le _⟩ dX5_told_26 ?_
      refine z_goto (tgt := 37) S dX5_told_29 (by decide) ?_
      have hw : MW g b (sS c 0 0) = MW g b (mC c (jTold c d w) (sS c 0 0)) := by first | (rw [show jTold c d w = 0 from (by unfold jTold; repeat (first | rw [if_pos (by omega)] | rw [if_neg (by omega)]))]; rfl)
      rw [hw] at hP
      exact z_retw S hr hlk (by first | (rw [show jTold c d w = 0 from (by unfold jTold; repeat (first | rw [if_pos (by omega)] | rw [if_neg (by omega)]))]; (show _ = (mDoT (sS c 0 0) d w); first | rfl | grind))) hP hS dX5_told_37
set_option maxHeartbeats 4000000 in
set_option maxRecDepth 100000 in
theorem m_X5_about (l : Launch) (D : va_G) (g : ClassId × ClassId × ClassId) (b : Nat → Nat) {B : Int} (c : CS) (hI : IM B c) (hda : CD 14 b) (q : Int) (w : Int) (h0 : I32 q) (h1 : I32 w) : WRi l yX5_about cX5_about 3 (some .int) 3 67 D g (CA 14 b) (MW g b c) [.ref (b 0), .int (zI q), .int (zI w)] (MW g b (mC c (jAbout c q w) (sS c 0 0))) (mA (jAbout c q w) (mPiT (sS c 0 0) q w)) := by
  refine z_enter RX5 (by decide) rfl (Nat.le_of_ble_eq_true rfl) ?_
  intro p e s m args below meth co S hr hlk hK hP ls hl
  have hl : lv_has ls 3 [(0, .ref (b 0)), (1, .int (zI q)), (2, .int (zI w))] := hl
  have hs := hI.s
  have hS : va_S (CA 14 b) s.heap s.heap [] := va_S.rf
  refine lv_aload_n S.1 S.2.1 dX5_about_0 rfl (lv_at hl 0 rfl) ?_
  refine z_iconst S dX5_about_1 ?_
  refine z_put S inA5 tyX5 tyX5_ok nmX5 hK hP (MW_D hda _) hS 0 rfl rfl 0 (by decide) fl_X5_53 rfl (by decide +kernel) (Nat.le_of_ble_eq_true rfl) dX5_about_2 (fun H locs hP hS => ?_)
  have hP : va_P D vwCl (MW g b (sS c 0 0)) H := hP
  refine lv_aload_n S.1 S.2.1 dX5_about_5 rfl (lv_at hl 0 rfl) ?_
  refine lv_iload_n S.1 S.2.1 dX5_about_6 rfl (lv_at hl 1 rfl) ?_
  refine z_rV (As := [.int (zI q)]) (rest := []) S (m_X5_isPit l D g b (sS c 0 0) (hI.n0 (v := 0)) q (by omega)) ml_X5_118 im_X5_isPit se_X5_isPit ini_X5 cd_X5_isPit ds_X5_isPit ⟨Nat.le_of_ble_eq_true rfl, Nat.le_of_ble_eq_true rfl⟩ hK hP (va_recv hK.1 hP (ci := 5) (q0 := 0) rfl rfl) rfl hl.1 rfl (Nat.le_of_ble_eq_true rfl) ⟨Nat.zero_le _, Nat.zero_le _⟩ dX5_about_7 ?_
  refine z_top (b01 (mP c q)) rfl ?_
  refine z_ifb_eq (tgt := 32) S dX5_about_10 (by decide) (fun h_1 => ?_) (fun h_1 => ?_)
  · refine lv_aload_n S.1 S.2.1 dX5_about_32 rfl (lv_at hl 0 rfl) ?_
    refine z_iconst S dX5_about_33 ?_
    refine z_wV (As := [.int (zI 1)]) (rest := []) S (m_X5_no l D g b (sS c 0 0) (hI.n0 (v := 0)) hda 1) ml_X5_89 im_X5_no se_X5_no ini_X5 cd_X5_no ds_X5_no ⟨Nat.le_of_ble_eq_true rfl, Nat.le_of_ble_eq_true rfl⟩ hK hP (va_recv hK.1 hP (ci := 5) (q0 := 0) rfl rfl) rfl hl.1 rfl (Nat.le_of_ble_eq_true rfl) ⟨Nat.zero_le _, Nat.zero_le _⟩ hS (fun _ h => h) dX5_about_34 (fun H locs hP _ _ hS => ?_)
    have hw : MW g b (sS (sS c 0 0) 0 1) = MW g b (mC c (jAbout c q w) (sS c 0 0)) := by first | (rw [show jAbout c q w = 1 from (by unfold jAbout; repeat (first | rw [if_pos (by omega)] | rw [if_neg (by omega)]))]; rfl)
    rw [hw] at hP
    exact z_retw S hr hlk (by first | (rw [show jAbout c q w = 1 from (by unfold jAbout; repeat (first | rw [if_pos (by omega)] | rw [if_neg (by omega)]))]; rfl)) hP hS dX5_about_37
  · refine lv_iload_n S.1 S.2.1 dX5_about_13 rfl (lv_at hl 2 rfl) ?_
    refine z_iconst S dX5_about_14 ?_
    refine z_bipush S (by decide) dX5_about_15 ?_
    refine z_rS (As := [.int (zI w), .int (zI 0), .int (zI 6)]) (rest := []) S (m_X5_isIn l D g w 0 6 (by omega)) ml_X5_56 sm_X5_isIn ini_X5 cd_X5_isIn ds_X5_isIn ⟨Nat.le_of_ble_eq_true rfl, Nat.le_of_ble_eq_true rfl⟩ hK va_P_nil rfl hl.1 rfl (Nat.le_of_ble_eq_true rfl) ⟨Nat.zero_le _, Nat.zero_le _⟩ dX5_about_17 ?_
    refine z_top (b01 (0 ≤ w ∧ w ≤ 6)) rfl ?_
    refine z_ifb_eq (tgt := 32) S dX5_about_20 (by decide) (fun h_2 => ?_) (fun h_2 => ?_)
    · refine lv_aload_n S.1 S.2.1 dX5_about_32 rfl (lv_at hl 0 rfl) ?_
      refine z_iconst S dX5_about_33 ?_
      refine z_wV (As := [.int (zI 1)]) (rest := []) S (m_X5_no l D g b (sS c 0 0) (hI.n0 (v := 0)) hda 1) ml_X5_89 im_X5_no se_X5_no ini_X5 cd_X5_no ds_X5_no ⟨Nat.le_of_ble_eq_true rfl, Nat.le_of_ble_eq_true rfl⟩ hK hP (va_recv hK.1 hP (ci := 5) (q0 := 0) rfl rfl) rfl hl.1 rfl (Nat.le_of_ble_eq_true rfl) ⟨Nat.zero_le _, Nat.zero_le _⟩ hS (fun _ h => h) dX5_about_34 (fun H locs hP _ _ hS => ?_)
      have hw : MW g b (sS (sS c 0 0) 0 1) = MW g b (mC c (jAbout c q w) (sS c 0 0)) := by first | (rw [show jAbout c q w = 1 from (by unfold jAbout; repeat (first | rw [if_pos (by omega)] | rw [if_neg (by omega)]))]; rfl)
      rw [hw] at hP
      exact z_retw S hr hlk (by first | (rw [show jAbout c q w = 1 from (by unfold jAbout; repeat (first | rw [if_pos (by omega)] | rw [if_neg (by omega)]))]; rfl)) hP hS dX5_about_37
    · refine lv_aload_n S.1 S.2.1 dX5_about_23 rfl (lv_at hl 0 rfl) ?_
      refine lv_iload_n S.1 S.2.1 dX5_about_24 rfl (lv_at hl 1 rfl) ?_
      refine lv_iload_n S.1 S.2.1 dX5_about_25 rfl (lv_at hl 2 rfl) ?_
      refine z_rV (As := [.int (zI q), .int (zI w)]) (rest := []) S (m_X5_pitTold l D g b (sS c 0 0) (hI.n0 (v := 0)) q w (by omega) (by omega)) ml_X5_163 im_X5_pitTold se_X5_pitTold ini_X5 cd_X5_pitTold ds_X5_pitTold ⟨Nat.le_of_ble_eq_true rfl, Nat.le_of_ble_eq_true rfl⟩ hK hP (va_recv hK.1 hP (ci := 5) (q0 := 0) rfl rfl) rfl hl.1 rfl (Nat.le_of_ble_eq_true rfl) ⟨Nat.zero_le _, Nat.zero_le _⟩ dX5_about_26 ?_
      refine z_goto (tgt := 37) S dX5_about_29 (by decide) ?_
      have hw : MW g b (sS c 0 0) = MW g b (mC c (jAbout c q w) (sS c 0 0)) := by first | (rw [show jAbout c q w = 0 from (by unfold jAbout; repeat (first | rw [if_pos (by omega)] | rw [if_neg (by omega)]))]; rfl)
      rw [hw] at hP
      exact z_retw S hr hlk (by first | (rw [show jAbout c q w = 0 from (by unfold jAbout; repeat (first | rw [if_pos (by omega)] | rw [if_neg (by omega)]))]; (show _ = (mPiT (sS c 0 0) q w); first | rfl | grind))) hP hS dX5_about_37
set_option maxHeartbeats 4000000 in
set_option maxRecDepth 100000 in
theorem m_X5_count (l : Launch) (D : va_G) (g : ClassId × ClassId × ClassId) (b : Nat → Nat) {B : Int} (c : CS) (hI : IM B c) (hda : CD 14 b) (w : Int) (h0 : I32 w) : WRi l yX5_count cX5_count 2 (some .int) 3 70 D g (CA 14 b) (MW g b c) [.ref (b 0), .int (zI w)] (MW g b (mC c (jCount w) (sS c 0 0))) (mA (jCount w) (mCnt (sS c 0 0) w)) := by
  refine z_enter RX5 (by decide) rfl (Nat.le_of_ble_eq_true rfl) ?_
  intro p e s m args below meth co S hr hlk hK hP ls hl
  have hl : lv_has ls 2 [(0, .ref (b 0)), (1, .int (zI w))] := hl
  have hs := hI.s
  have hS : va_S (CA 14 b) s.heap s.heap [] := va_S.rf
  refine lv_aload_n S.1 S.2.1 dX5_count_0 rfl (lv_at hl 0 rfl) ?_
  refine z_iconst S dX5_count_1 ?_
  refine z_put S inA5 tyX5 tyX5_ok nmX5 hK hP (MW_D hda _) hS 0 rfl rfl 0 (by decide) fl_X5_53 rfl (by decide +kernel) (Nat.le_of_ble_eq_true rfl) dX5_count_2 (fun H locs hP hS => ?_)
  have hP : va_P D vwCl (MW g b (sS c 0 0)) H := hP
  refine lv_iload_n S.1 S.2.1 dX5_count_5 rfl (lv_at hl 1 rfl) ?_
  refine z_iconst S dX5_count_6 ?_
  refine z_bipush S (by decide) dX5_count_7 ?_
  refine z_rS (As := [.int (zI w), .int (zI 0), .int (zI 8)]) (rest := []) S (m_X5_isIn l D g w 0 8 (by omega)) ml_X5_56 sm_X5_isIn ini_X5 cd_X5_isIn ds_X5_isIn ⟨Nat.le_of_ble_eq_true rfl, Nat.le_of_ble_eq_true rfl⟩ hK va_P_nil rfl hl.1 rfl (Nat.le_of_ble_eq_true rfl) ⟨Nat.zero_le _, Nat.zero_le _⟩ dX5_count_9 ?_
  refine z_top (b01 (0 ≤ w ∧ w ≤ 8)) rfl ?_
  refine z_ifb_eq (tgt := 23) S dX5_count_12 (by decide) (fun h_1 => ?_) (fun h_1 => ?_)
  · refine lv_aload_n S.1 S.2.1 dX5_count_23 rfl (lv_at hl 0 rfl) ?_
    refine z_iconst S dX5_count_24 ?_
    refine z_wV (As := [.int (zI 1)]) (rest := []) S (m_X5_no l D g b (sS c 0 0) (hI.n0 (v := 0)) hda 1) ml_X5_89 im_X5_no se_X5_no ini_X5 cd_X5_no ds_X5_no ⟨Nat.le_of_ble_eq_true rfl, Nat.le_of_ble_eq_true rfl⟩ hK hP (va_recv hK.1 hP (ci := 5) (q0 := 0) rfl rfl) rfl hl.1 rfl (Nat.le_of_ble_eq_true rfl) ⟨Nat.zero_le _, Nat.zero_le _⟩ hS (fun _ h => h) dX5_count_25 (fun H locs hP _ _ hS => ?_)
    have hw : MW g b (sS (sS c 0 0) 0 1) = MW g b (mC c (jCount w) (sS c 0 0)) := by first | (rw [show jCount w = 1 from (by unfold jCount; repeat (first | rw [if_pos (by omega)] | rw [if_neg (by omega)]))]; rfl)
    rw [hw] at hP
    exact z_retw S hr hlk (by first | (rw [show jCount w = 1 from (by unfold jCount; repeat (first | rw [if_pos (by omega)] | rw [if_neg (by omega)]))]; rfl)) hP hS dX5_count_28
  · refine lv_aload_n S.1 S.2.1 dX5_count_15 rfl (lv_at hl 0 rfl) ?_
    refine lv_iload_n S.1 S.2.1 dX5_count_16 rfl (lv_at hl 1 rfl) ?_
    refine z_rV (As := [.int (zI w)]) (rest := []) S (m_X5_counted l D g b (sS c 0 0) (hI.n0 (v := 0)) w (by omega)) ml_X5_166 im_X5_counted se_X5_counted ini_X5 cd_X5_counted ds_X5_counted ⟨Nat.le_of_ble_eq_true rfl, Nat.le_of_ble_eq_true rfl⟩ hK hP (va_recv hK.1 hP (ci := 5) (q0 := 0) rfl rfl) rfl hl.1 rfl (Nat.le_of_ble_eq_true rfl) ⟨Nat.zero_le _, Nat.zero_le _⟩ dX5_count_17 ?_
    refine z_goto (tgt := 28) S dX5_count_20 (by decide) ?_
    have hw : MW g b (sS c 0 0) = MW g b (mC c (jCount w) (sS c 0 0)) := by first | (rw [show jCount w = 0 from (by unfold jCount; repeat (first | rw [if_pos (by omega)] | rw [if_neg (by omega)]))]; rfl)
    rw [hw] at hP
    exact z_retw S hr hlk (by first | (rw [show jCount w = 0 from (by unfold jCount; repeat (first | rw [if_pos (by omega)] | rw [if_neg (by omega)]))]; (show _ = (mCnt (sS c 0 0) w); first | rfl | grind))) hP hS dX5_count_28
set_option maxHeartbeats 4000000 in
set_option maxRecDepth 100000 in
theorem m_X5_line (l : Launch) (D : va_G) (g : ClassId × ClassId × ClassId) (b : Nat → Nat) {B : Int} (c : CS) (hI : IM B c) (hda : CD 14 b) (w : Int) (h0 : I32 w) : WRi l yX5_line cX5_line 2 (some .int) 2 54 D g (CA 14 b) (MW g b c) [.ref (b 0), .int (zI w)] (MW g b (mC c (jLine w) (sS c 0 0))) (mA (jLine w) (mLnT (sS c 0 0) w)) := by
  refine z_enter RX5 (by decide) rfl (Nat.le_of_ble_eq_true rfl) ?_
  intro p e s m args below meth co S hr hlk hK hP ls hl
  have hl : lv_has ls 2 [(0, .ref (b 0)), (1, .int (zI w))] := hl
  have hs := hI.s
  have hS : va_S (CA 14 b) s.heap s.heap [] := va_S.rf
  refine lv_aload_n S.1 S.2.1 dX5_line_0 rfl (lv_at hl 0 rfl) ?_
  refine z_iconst S dX5_line_1 ?_
  refine z_put S inA5 tyX5 tyX5_ok nmX5 hK hP (MW_D hda _) hS 0 rfl rfl 0 (by decide) fl_X5_53 rfl (by decide +kernel) (Nat.le_of_ble_eq_true rfl) dX5_line_2 (fun H locs hP hS => ?_)
  have hP : va_P D vwCl (MW g b (sS c 0 0)) H := hP
  refine lv_iload_n S.1 S.2.1 dX5_line_5 rfl (lv_at hl 1 rfl) ?_
  refine z_iconst S dX5_line_6 ?_
  refine z_iconst S dX5_line_7 ?_
  refine z_rS (As := [.int (zI w), .int (zI 0), .int (zI 2)]) (rest := []) S (m_X5_isIn l D g w 0 2 (by omega)) ml_X5_56 sm_X5_isIn ini_X5 cd_X5_isIn ds_X5_isIn ⟨Nat.le_of_ble_eq_true rfl, Nat.le_of_ble_eq_true rfl⟩ hK va_P_nil rfl hl.1 rfl (Nat.le_of_ble_eq_true rfl) ⟨Nat.zero_le _, Nat.zero_le _⟩ dX5_line_8 ?_
  refine z_top (b01 (0 ≤ w ∧ w ≤ 2)) rfl ?_
  refine z_ifb_eq (tgt := 22) S dX5_line_11 (by decide) (fun h_1 => ?_) (fun h_1 => ?_)
  · refine lv_aload_n S.1 S.2.1 dX5_line_22 rfl (lv_at hl 0 rfl) ?_
    refine z_iconst S dX5_line_23 ?_
    refine z_wV (As := [.int (zI 1)]) (rest := []) S (m_X5_no l D g b (sS c 0 0) (hI.n0 (v := 0)) hda 1) ml_X5_89 im_X5_no se_X5_no ini_X5 cd_X5_no ds_X5_no ⟨Nat.le_of_ble_eq_true rfl, Nat.le_of_ble_eq_true rfl⟩ hK hP (va_recv hK.1 hP (ci := 5) (q0 := 0) rfl rfl) rfl hl.1 rfl (Nat.le_of_ble_eq_true rfl) ⟨Nat.zero_le _, Nat.zero_le _⟩ hS (fun _ h => h) dX5_line_24 (fun H locs hP _ _ hS => ?_)
    have hw : MW g b (sS (sS c 0 0) 0 1) = MW g b (mC c (jLine w) (sS c 0 0)) := by first | (rw [show jLine w = 1 from (by unfold jLine; repeat (first | rw [if_pos (by omega)] | rw [if_neg (by omega)]))]; rfl)
    rw [hw] at hP
    exact z_retw S hr hlk (by first | (rw [show jLine w = 1 from (by unfold jLine; repeat (first | rw [if_pos (by omega)] | rw [if_neg (by omega)]))]; rfl)) hP hS dX5_line_27
  · refine lv_aload_n S.1 S.2.1 dX5_line_14 rfl (lv_at hl 0 rfl) ?_
    refine lv_iload_n S.1 S.2.1 dX5_line_15 rfl (lv_at hl 1 rfl) ?_
    refine z_rV (As := [.int (zI w)]) (rest := []) S (m_X5_lineTold l D g b (sS c 0 0) (hI.n0 (v := 0)) w (by omega)) ml_X5_172 im_X5_lineTold se_X5_lineTold ini_X5 cd_X5_lineTold ds_X5_lineTold ⟨Nat.le_of_ble_eq_true rfl, Nat.le_of_ble_eq_true rfl⟩ hK hP (va_recv hK.1 hP (ci := 5) (q0 := 0) rfl rfl) rfl hl.1 rfl (Nat.le_of_ble_eq_true rfl) ⟨Nat.zero_le _, Nat.zero_le _⟩ dX5_line_16 ?_
    refine z_goto (tgt := 27) S dX5_line_19 (by decide) ?_
    have hw : MW g b (sS c 0 0) = MW g b (mC c (jLine w) (sS c 0 0)) := by first | (rw [show jLine w = 0 from (by unfold jLine; repeat (first | rw [if_pos (by omega)] | rw [if_neg (by omega)]))]; rfl)
    rw [hw] at hP
    exact z_retw S hr hlk (by first | (rw [show jLine w = 0 from (by unfold jLine; repeat (first | rw [if_pos (by omega)] | rw [if_neg (by omega)]))]; (show _ = (mLnT (sS c 0 0) w); first | rfl | grind))) hP hS dX5_line_27
set_option maxHeartbeats 4000000 in
set_option maxRecDepth 100000 in
theorem m_X5_would (l : Launch) (D : va_G) (g : ClassId × ClassId × ClassId) (b : Nat → Nat) {B : Int} (c : CS) (hI : IM B c) (hda : CD 14 b) (q : Int) (d : Int) (f : Int) (h0 : I32 q) (h1 : I32 d) (h2 : I32 f) (h3 : 0 ≤ f ∧ f ≤ 1) : WRi l yX5_would cX5_would 4 (some .int) 3 69 D g (CA 14 b) (MW g b c) [.ref (b 0), .int (zI q), .int (zI d), .int (zI f)] (MW g b (mC c (jWould c q d) (sS c 0 0))) (mA (jWould c q d) (if mO c q then 0 else mSh (sS c 0 0) q d f)) := by
  refine z_enter RX5 (by decide) rfl (Nat.le_of_ble_eq_true rfl) ?_
  intro p e s m args below meth co S hr hlk hK hP ls hl
  have hl : lv_has ls 4 [(0, .ref (b 0)), (1, .int (zI q)), (2, .int (zI d)), (3, .int (zI f))] := hl
  have hs := hI.s
  have hS : va_S (CA 14 b) s.heap s.heap [] := va_S.rf
  refine lv_aload_n S.1 S.2.1 dX5_would_0 rfl (lv_at hl 0 rfl) ?_
  refine z_iconst S dX5_would_1 ?_
  refine z_put S inA5 tyX5 tyX5_ok nmX5 hK hP (MW_D hda _) hS 0 rfl rfl 0 (by decide) fl_X5_53 rfl (by decide +kernel) (Nat.le_of_ble_eq_true rfl) dX5_would_2 (fun H locs hP hS => ?_)
  have hP : va_P D vwCl (MW g b (sS c 0 0)) H := hP
  refine lv_aload_n S.1 S.2.1 dX5_would_5 rfl (lv_at hl 0 rfl) ?_
  refine lv_iload_n S.1 S.2.1 dX5_would_6 rfl (lv_at hl 1 rfl) ?_
  refine z_rV (As := [.int (zI q)]) (rest := []) S (m_X5_isPit l D g b (sS c 0 0) (hI.n0 (v := 0)) q (by omega)) ml_X5_118 im_X5_isPit se_X5_isPit ini_X5 cd_X5_isPit ds_X5_isPit ⟨Nat.le_of_ble_eq_true rfl, Nat.le_of_ble_eq_true rfl⟩ hK hP (va_recv hK.1 hP (ci := 5) (q0 := 0) rfl rfl) rfl hl.1 rfl (Nat.le_of_ble_eq_true rfl) ⟨Nat.zero_le _, Nat.zero_le _⟩ dX5_would_7 ?_
  refine z_top (b01 (mP c q)) rfl ?_
  refine z_ifb_eq (tgt := 21) S dX5_would_10 (by decide) (fun h_1 => ?_) (fun h_1 => ?_)
  · refine lv_aload_n S.1 S.2.1 dX5_would_21 rfl (lv_at hl 0 rfl) ?_
    refine z_iconst S dX5_would_22 ?_
    refine z_wV (As := [.int (zI 1)]) (rest := []) S (m_X5_no l D g b (sS c 0 0) (hI.n0 (v := 0)) hda 1) ml_X5_89 im_X5_no se_X5_no ini_X5 cd_X5_no ds_X5_no ⟨Nat.le_of_ble_eq_true rfl, Nat.le_of_ble_eq_true rfl⟩ hK hP (va_recv hK.1 hP (ci := 5) (q0 := 0) rfl rfl) rfl hl.1 rfl (Nat.le_of_ble_eq_true rfl) ⟨Nat.zero_le _, Nat.zero_le _⟩ hS (fun _ h => h) dX5_would_23 (fun H locs hP _ _ hS => ?_)
    have hw : MW g b (sS (sS c 0 0) 0 1) = MW g b (mC c (jWould c q d) (sS c 0 0)) := by first | (rw [show jWould c q d = 1 from (by unfold jWould; repeat (first | rw [if_pos (by omega)] | rw [if_neg (by omega)]))]; rfl)
    rw [hw] at hP
    exact z_retw S hr hlk (by first | (rw [show jWould c q d = 1 from (by unfold jWould; repeat (first | rw [if_pos (by omega)] | rw [if_neg (by omega)]))]; rfl)) hP hS dX5_would_26
  · refine lv_aload_n S.1 S.2.1 dX5_would_13 rfl (lv_at hl 0 rfl) ?_
    refine lv_iload_n S.1 S.2.1 dX5_would_14 rfl (lv_at hl 2 rfl) ?_
    refine z_rV (As := [.int (zI d)]) (rest := []) S (m_X5_isDowser l D g b (sS c 0 0) (hI.n0 (v := 0)) d (by omega)) ml_X5_102 im_X5_isDowser se_X5_isDowser ini_X5 cd_X5_isDowser ds_X5_isDowser ⟨Nat.le_of_ble_eq_true rfl, Nat.le_of_ble_eq_true rfl⟩ hK hP (va_recv hK.1 hP (ci := 5) (q0 := 0) rfl rfl) rfl hl.1 rfl (Nat.le_of_ble_eq_true rfl) ⟨Nat.zero_le _, Nat.zero_le _⟩ dX5_would_15 ?_
    refine z_top (b01 (mD c d)) rfl ?_
    refine z_ifb_ne (tgt := 27) S dX5_would_18 (by decide) (fun h_2 => ?_) (fun h_2 => ?_)
    · refine lv_aload_n S.1 S.2.1 dX5_would_27 rfl (lv_at hl 0 rfl) ?_
      refine lv_iload_n S.1 S.2.1 dX5_would_28 rfl (lv_at hl 1 rfl) ?_
      refine z_rV (As := [.int (zI q)]) (rest := []) S (m_X5_isOver l D g b (sS c 0 0) (hI.n0 (v := 0)) q (by omega)) ml_X5_132 im_X5_isOver se_X5_isOver ini_X5 cd_X5_isOver ds_X5_isOver ⟨Nat.le_of_ble_eq_true rfl, Nat.le_of_ble_eq_true rfl⟩ hK hP (va_recv hK.1 hP (ci := 5) (q0 := 0) rfl rfl) rfl hl.1 rfl (Nat.le_of_ble_eq_true rfl) ⟨Nat.zero_le _, Nat.zero_le _⟩ dX5_would_29 ?_
      refine z_top (b01 (mO c q)) rfl ?_
      refine z_ifb_eq (tgt := 39) S dX5_would_32 (by decide) (fun h_3 => ?_) (fun h_3 => ?_)
      · refine lv_aload_n S.1 S.2.1 dX5_would_39 rfl (lv_at hl 0 rfl) ?_
        refine lv_iload_n S.1 S.2.1 dX5_would_40 rfl (lv_at hl 1 rfl) ?_
        refine lv_iload_n S.1 S.2.1 dX5_would_41 rfl (lv_at hl 2 rfl) ?_
        refine lv_iload_n S.1 S.2.1 dX5_would_42 rfl (lv_at hl 3 rfl) ?_
        refine z_rV (As := [.int (zI q), .int (zI d), .int (zI f)]) (rest := []) S (m_X5_share l D g b (sS c 0 0) (hI.n0 (v := 0)) q d f (by omega) (by omega) (by omega)) ml_X5_125 im_X5_share se_X5_share ini_X5 cd_X5_share ds_X5_share ⟨Nat.le_of_ble_eq_true rfl, Nat.le_of_ble_eq_true rfl⟩ hK hP (va_recv hK.1 hP (ci := 5) (q0 := 0) rfl rfl) rfl hl.1 rfl (Nat.le_of_ble_eq_true rfl) ⟨Nat.zero_le _, Nat.zero_le _⟩ dX5_would_43 ?_
        have hw : MW g b (sS c 0 0) = MW g b (mC c (jWould c q d) (sS c 0 0)) := by first | (rw [show jWould c q d = 0 from (by unfold jWould; repeat (first | rw [if_pos (by omega)] | rw [if_neg (by omega)]))]; rfl)
        rw [hw] at hP
        exact z_retw S hr hlk (by first | (rw [show jWould c q d = 0 from (by unfold jWould; repeat (first | rw [if_pos (by omega)] | rw [if_neg (by omega)]))]; (show _ = (if mO c q then 0 else mSh (sS c 0 0) q d f); first | rw [if_pos (by assumption)] | rw [if_neg (by assumption)]))) hP hS dX5_would_46
      · refine z_iconst S dX5_would_35 ?_
        refine z_goto (tgt := 46) S dX5_would_36 (by decide) ?_
        have hw : MW g b (sS c 0 0) = MW g b (mC c (jWould c q d) (sS c 0 0)) := by first | (rw [show jWould c q d = 0 from (by unfold jWould; repeat (first | rw [if_pos (by omega)] | rw [if_neg (by omega)]))]; rfl)
        rw [hw] at hP
        exact z_retw S hr hlk (by first | (rw [show jWould c q d = 0 from (by unfold jWould; repeat (first | rw [if_pos (by omega)] | rw [if_neg (by omega)]))]; (show _ = (if mO c q then 0 else mSh (sS c 0 0) q d f); first | rw [if_pos (by assumption)] | rw [if_neg (by assumption)]))) hP hS dX5_would_46
    · refine lv_aload_n S.1 S.2.1 dX5_would_21 rfl (lv_at hl 0 rfl) ?_
      refine z_iconst S dX5_would_22 ?_
      refine z_wV (As := [.int (zI 1)]) (rest := []) S (m_X5_no l D g b (sS c 0 0) (hI.n0 (v := 0)) hda 1) ml_X5_89 im_X5_no se_X5_no ini_X5 cd_X5_no ds_X5_no ⟨Nat.le_of_ble_eq_true rfl, Nat.le_of_ble_eq_true rfl⟩ hK hP (va_recv hK.1 hP (ci := 5) (q0 := 0) rfl rfl) rfl hl.1 rfl (Nat.le_of_ble_eq_true rfl) ⟨Nat.zero_le _, Nat.zero_le _⟩ hS (fun _ h => h) dX5_would_23 (fun H locs hP _ _ hS => ?_)
      have hw : MW g b (sS (sS c 0 0) 0 1) = MW g b (mC c (jWould c q d) (sS c 0 0)) := by first | (rw [show jWould c q d = 1 from (by unfold jWould; repeat (first | rw [if_pos (by omega)] | rw [if_neg (by omega)]))]; rfl)
      rw [hw] at hP
      exact z_retw S hr hlk (by first | (rw [show jWould c q d = 1 from (by unfold jWould; repeat (first | rw [if_pos (by omega)] | rw [if_neg (by omega)]))]; rfl)) hP hS dX5_would_26
set_option maxHeartbeats 4000000 in
set_option maxRecDepth 100000 in
theorem m_X5_best (l : Launch) (D : va_G) (g : ClassId × ClassId × ClassId) (b : Nat → Nat) {B : Int} (c : CS) (hI : IM B c) (hda : CD 14 b) (d : Int) (w : Int) (h0 : I32 d) (h1 : I32 w) : WRi l yX5_best cX5_best 3 (some .int) 3 71 D g (CA 14 b) (MW g b c) [.ref (b 0), .int (zI d), .int (zI w)] (MW g b (mC c (jBest c d w) (sS c 0 0))) (mA (jBest c d w) (mBsT (sS c 0 0) d w)) := by
  refine z_enter RX5 (by decide) rfl (Nat.le_of_ble_eq_true rfl) ?_
  intro p e s m args below meth co S hr hlk hK hP ls hl
  have hl : lv_has ls 3 [(0, .ref (b 0)), (1, .int (zI d)), (2, .int (zI w))] := hl
  have hs := hI.s
  have hS : va_S (CA 14 b) s.heap s.heap [] := va_S.rf
  refine lv_aload_n S.1 S.2.1 dX5_best_0 rfl (lv_at hl 0 rfl) ?_
  refine z_iconst S dX5_best_1 ?_
  refine z_put S inA5 tyX5 tyX5_ok nmX5 hK hP (MW_D hda _) hS 0 rfl rfl 0 (by decide) fl_X5_53 rfl (by decide +kernel) (Nat.le_of_ble_eq_true rfl) dX5_best_2 (fun H locs hP hS => ?_)
  have hP : va_P D vwCl (MW g b (sS c 0 0)) H := hP
  refine lv_aload_n S.1 S.2.1 dX5_best_5 rfl (lv_at hl 0 rfl) ?_
  refine lv_iload_n S.1 S.2.1 dX5_best_6 rfl (lv_at hl 1 rfl) ?_
  refine z_rV (As := [.int (zI d)]) (rest := []) S (m_X5_isDowser l D g b (sS c 0 0) (hI.n0 (v := 0)) d (by omega)) ml_X5_102 im_X5_isDowser se_X5_isDowser ini_X5 cd_X5_isDowser ds_X5_isDowser ⟨Nat.le_of_ble_eq_true rfl, Nat.le_of_ble_eq_true rfl⟩ hK hP (va_recv hK.1 hP (ci := 5) (q0 := 0) rfl rfl) rfl hl.1 rfl (Nat.le_of_ble_eq_true rfl) ⟨Nat.zero_le _, Nat.zero_le _⟩ dX5_best_7 ?_
  refine z_top (b01 (mD c d)) rfl ?_
  refine z_ifb_eq (tgt := 31) S dX5_best_10 (by decide) (fun h_1 => ?_) (fun h_1 => ?_)
  · refine lv_aload_n S.1 S.2.1 dX5_best_31 rfl (lv_at hl 0 rfl) ?_
    refine z_iconst S dX5_best_32 ?_
    refine z_wV (As := [.int (zI 1)]) (rest := []) S (m_X5_no l D g b (sS c 0 0) (hI.n0 (v := 0)) hda 1) ml_X5_89 im_X5_no se_X5_no ini_X5 cd_X5_no ds_X5_no ⟨Nat.le_of_ble_eq_true rfl, Nat.le_of_ble_eq_true rfl⟩ hK hP (va_recv hK.1 hP (ci := 5) (q0 := 0) rfl rfl) rfl hl.1 rfl (Nat.le_of_ble_eq_true rfl) ⟨Nat.zero_le _, Nat.zero_le _⟩ hS (fun _ h => h) dX5_best_33 (fun H locs hP _ _ hS => ?_)
    have hw : MW g b (sS (sS c 0 0) 0 1) = MW g b (mC c (jBest c d w) (sS c 0 0)) := by first | (rw [show jBest c d w = 1 from (by unfold jBest; repeat (first | rw [if_pos (by omega)] | rw [if_neg (by omega)]))]; rfl)
    rw [hw] at hP
    exact z_retw S hr hlk (by first | (rw [show jBest c d w = 1 from (by unfold jBest; repeat (first | rw [if_pos (by omega)] | rw [if_neg (by omega)]))]; rfl)) hP hS dX5_best_36
  · refine lv_iload_n S.1 S.2.1 dX5_best_13 rfl (lv_at hl 2 rfl) ?_
    refine z_iconst S dX5_best_14 ?_
    refine z_iconst S dX5_best_15 ?_
    refine z_rS (As := [.int (zI w), .int (zI 0), .int (zI 2)]) (rest := []) S (m_X5_isIn l D g w 0 2 (by omega)) ml_X5_56 sm_X5_isIn ini_X5 cd_X5_isIn ds_X5_isIn ⟨Nat.le_of_ble_eq_true rfl, Nat.le_of_ble_eq_true rfl⟩ hK va_P_nil rfl hl.1 rfl (Nat.le_of_ble_eq_true rfl) ⟨Nat.zero_le _, Nat.zero_le _⟩ dX5_best_16 ?_
    refine z_top (b01 (0 ≤ w ∧ w ≤ 2)) rfl ?_
    refine z_ifb_eq (tgt := 31) S dX5_best_19 (by decide) (fun h_2 => ?_) (fun h_2 => ?_)
    · refine lv_aload_n S.1 S.2.1 dX5_best_31 rfl (lv_at hl 0 rfl) ?_
      refine z_iconst S dX5_best_32 ?_
      refine z_wV (As := [.int (zI 1)]) (rest := []) S (m_X5_no l D g b (sS c 0 0) (hI.n0 (v := 0)) hda 1) ml_X5_89 im_X5_no se_X5_no ini_X5 cd_X5_no ds_X5_no ⟨Nat.le_of_ble_eq_true rfl, Nat.le_of_ble_eq_true rfl⟩ hK hP (va_recv hK.1 hP (ci := 5) (q0 := 0) rfl rfl) rfl hl.1 rfl (Nat.le_of_ble_eq_true rfl) ⟨Nat.zero_le _, Nat.zero_le _⟩ hS (fun _ h => h) dX5_best_33 (fun H locs hP _ _ hS => ?_)
      have hw : MW g b (sS (sS c 0 0) 0 1) = MW g b (mC c (jBest c d w) (sS c 0 0)) := by first | (rw [show jBest c d w = 1 from (by unfold jBest; repeat (first | rw [if_pos (by omega)] | rw [if_neg (by omega)]))]; rfl)
      rw [hw] at hP
      exact z_retw S hr hlk (by first | (rw [show jBest c d w = 1 from (by unfold jBest; repeat (first | rw [if_pos (by omega)] | rw [if_neg (by omega)]))]; rfl)) hP hS dX5_best_36
    · refine lv_aload_n S.1 S.2.1 dX5_best_22 rfl (lv_at hl 0 rfl) ?_
      refine lv_iload_n S.1 S.2.1 dX5_best_23 rfl (lv_at hl 1 rfl) ?_
      refine lv_iload_n S.1 S.2.1 dX5_best_24 rfl (lv_at hl 2 rfl) ?_
      refine z_rV (As := [.int (zI d), .int (zI w)]) (rest := []) S (m_X5_bestOf l D g b (sS c 0 0) (hI.n0 (v := 0)) d w (by omega) (by omega)) ml_X5_175 im_X5_bestOf se_X5_bestOf ini_X5 cd_X5_bestOf ds_X5_bestOf ⟨Nat.le_of_ble_eq_true rfl, Nat.le_of_ble_eq_true rfl⟩ hK hP (va_recv hK.1 hP (ci := 5) (q0 := 0) rfl rfl) rfl hl.1 rfl (Nat.le_of_ble_eq_true rfl) ⟨Nat.zero_le _, Nat.zero_le _⟩ dX5_best_25 ?_
      refine z_goto (tgt := 36) S dX5_best_28 (by decide) ?_
      have hw : MW g b (sS c 0 0) = MW g b (mC c (jBest c d w) (sS c 0 0)) := by first | (rw [show jBest c d w = 0 from (by unfold jBest; repeat (first | rw [if_pos (by omega)] | rw [if_neg (by omega)]))]; rfl)
      rw [hw] at hP
      exact z_retw S hr hlk (by first | (rw [show jBest c d w = 0 from (by unfold jBest; repeat (first | rw [if_pos (by omega)] | rw [if_neg (by omega)]))]; (show _ = (mBsT (sS c 0 0) d w); first | rfl | grind))) hP hS dX5_best_36
set_option maxHeartbeats 4000000 in
set_option maxRecDepth 100000 in
theorem m_X5_advise (l : Launch) (D : va_G) (g : ClassId × ClassId × ClassId) (b : Nat → Nat) {B : Int} (c : CS) (hI : IM B c) (hda : CD 14 b) : WRi l yX5_advise cX5_advise 4 (some .int) 2 47 D g (CA 14 b) (MW g b c) [.ref (b 0)] (MW g b (sS c 0 0)) (mAdv (sS c 0 0) (c.1 4).toNat) := by
  refine z_enter RX5 (by decide) rfl (Nat.le_of_ble_eq_true rfl) ?_
  intro p e s m args below meth co S hr hlk hK hP ls hl
  have hl : lv_has ls 4 [(0, .ref (b 0))] := hl
  have hs := hI.s
  have hS : va_S (CA 14 b) s.heap s.heap [] := va_S.rf
  refine lv_aload_n S.1 S.2.1 dX5_advise_0 rfl (lv_at hl 0 rfl) ?_
  refine z_iconst S dX5_advise_1 ?_
  refine z_put S inA5 tyX5 tyX5_ok nmX5 hK hP (MW_D hda _) hS 0 rfl rfl 0 (by decide) fl_X5_53 rfl (by decide +kernel) (Nat.le_of_ble_eq_true rfl) dX5_advise_2 (fun H locs hP hS => ?_)
  have hP : va_P D vwCl (MW g b (sS c 0 0)) H := hP
  refine z_iconst S dX5_advise_5 ?_
  refine lv_istore_n (lv' := [(1, .int (zI (-1))), (0, .ref (b 0))]) S.1 S.2.1 dX5_advise_6 rfl hl (by decide) rfl (fun ls hl => ?_)
  refine z_iconst S dX5_advise_7 ?_
  refine lv_istore_n (lv' := [(2, .int (zI 0)), (1, .int (zI (-1))), (0, .ref (b 0))]) S.1 S.2.1 dX5_advise_8 rfl hl (by decide) rfl (fun ls hl => ?_)
  refine z_for (nL := 4) ((c.1 4).toNat) (fun (k9 : Nat) => [(2, .int (zI (k9 : Int))), (1, .int (zI (mAdv (sS c 0 0) k9))), (0, .ref (b 0))]) (fun k9 => True) (fun k9 hk9 hJ9 ls hl ih9 => ?_) (fun hJ9 ls hl => ?_) 0 (by omega) trivial ls (lv_sub hl [0, 1, 2] rfl)
  · have hl : lv_has ls 4 [(2, .int (zI (k9 : Int))), (1, .int (zI (mAdv (sS c 0 0) k9))), (0, .ref (b 0))] := hl
    have hb0 := mAdv_b (sS c 0 0) k9
    have hb1 := mPgO_b (sS c 0 0) (k9 : Int) 0
    have hb2 := mPgO_b (sS c 0 0) (mAdv (sS c 0 0) k9) 0
    have hb3 := prod_b (mPgO_b (sS c 0 0) (k9 : Int) 1) hb2
    have hb4 := prod_b (mPgO_b (sS c 0 0) (mAdv (sS c 0 0) k9) 1) hb1
    refine lv_iload_n S.1 S.2.1 dX5_advise_9 rfl (lv_at hl 0 rfl) ?_
    refine lv_aload_n S.1 S.2.1 dX5_advise_10 rfl (lv_at hl 2 rfl) ?_
    refine z_get (v := .int (zI (c.1 4))) S inA5 hK hP 0 rfl rfl 7 (by decide) fl_X5_60 rfl dX5_advise_11 ?_
    refine z_icmp_ge (tgt := 98) S dX5_advise_14 (by decide) (by omega) (fun h_1 => ?_) (fun h_1 => ?_)
    · exact absurd h_1 (by omega)
    · refine lv_aload_n S.1 S.2.1 dX5_advise_17 rfl (lv_at hl 2 rfl) ?_
      refine lv_iload_n S.1 S.2.1 dX5_advise_18 rfl (lv_at hl 0 rfl) ?_
      refine z_iconst S dX5_advise_19 ?_
      refine z_rV (As := [.int (zI (k9 : Int)), .int (zI 0)]) (rest := []) S (m_X5_pegsOf l D g b (sS c 0 0) (hI.n0 (v := 0)) (k9 : Int) 0 (by omega) (by omega)) ml_X5_154 im_X5_pegsOf se_X5_pegsOf ini_X5 cd_X5_pegsOf ds_X5_pegsOf ⟨Nat.le_of_ble_eq_true rfl, Nat.le_of_ble_eq_true rfl⟩ hK hP (va_recv hK.1 hP (ci := 5) (q0 := 0) rfl rfl) rfl hl.1 rfl (Nat.le_of_ble_eq_true rfl) ⟨Nat.zero_le _, Nat.zero_le _⟩ dX5_advise_20 ?_
      refine z_if_ne (tgt := 29) S dX5_advise_23 (by decide) (by omega) (fun h_2 => ?_) (fun h_2 => ?_)
      · refine lv_iload_n S.1 S.2.1 dX5_advise_29 rfl (lv_at hl 1 rfl) ?_
        refine z_iconst S dX5_advise_30 ?_
        refine z_icmp_ne (tgt := 39) S dX5_advise_31 (by decide) (by omega) (fun h_3 => ?_) (fun h_3 => ?_)
        · refine lv_aload_n S.1 S.2.1 dX5_advise_39 rfl (lv_at hl 2 rfl) ?_
          refine lv_iload_n S.1 S.2.1 dX5_advise_40 rfl (lv_at hl 0 rfl) ?_
          refine z_iconst S dX5_advise_41 ?_
          refine z_rV (As := [.int (zI (k9 : Int)), .int (zI 1)]) (rest := []) S (m_X5_pegsOf l D g b (sS c 0 0) (hI.n0 (v := 0)) (k9 : Int) 1 (by omega) (by omega)) ml_X5_154 im_X5_pegsOf se_X5_pegsOf ini_X5 cd_X5_pegsOf ds_X5_pegsOf ⟨Nat.le_of_ble_eq_true rfl, Nat.le_of_ble_eq_true rfl⟩ hK hP (va_recv hK.1 hP (ci := 5) (q0 := 0) rfl rfl) rfl hl.1 rfl (Nat.le_of_ble_eq_true rfl) ⟨Nat.zero_le _, Nat.zero_le _⟩ dX5_advise_42 ?_
          refine lv_aload_n S.1 S.2.1 dX5_advise_45 rfl (lv_at hl 2 rfl) ?_
          refine lv_iload_n S.1 S.2.1 dX5_advise_46 rfl (lv_at hl 1 rfl) ?_
          refine z_iconst S dX5_advise_47 ?_
          refine z_rV (As := [.int (zI (mAdv (sS c 0 0) k9)), .int (zI 0)]) (rest := [.int (zI (mPgO (sS c 0 0) (k9 : Int) 1))]) S (m_X5_pegsOf l D g b (sS c 0 0) (hI.n0 (v := 0)) (mAdv (sS c 0 0) k9) 0 (by omega) (by omega)) ml_X5_154 im_X5_pegsOf se_X5_pegsOf ini_X5 cd_X5_pegsOf ds_X5_pegsOf ⟨Nat.le_of_ble_eq_true rfl, Nat.le_of_ble_eq_true rfl⟩ hK hP (va_recv hK.1 hP (ci := 5) (q0 := 0) rfl rfl) rfl hl.1 rfl (Nat.le_of_ble_eq_true rfl) ⟨Nat.zero_le _, Nat.zero_le _⟩ dX5_advise_48 ?_
          refine z_imul S dX5_advise_51 ?_
          refine lv_aload_n S.1 S.2.1 dX5_advise_52 rfl (lv_at hl 2 rfl) ?_
          refine lv_iload_n S.1 S.2.1 dX5_advise_53 rfl (lv_at hl 1 rfl) ?_
          refine z_iconst S dX5_advise_54 ?_
          refine z_rV (As := [.int (zI (mAdv (sS c 0 0) k9)), .int (zI 1)]) (rest := [.int (zI ((mPgO (sS c 0 0) (k9 : Int) 1) * (mPgO (sS c 0 0) (mAdv (sS c 0 0) k9) 0)))]) S (m_X5_pegsOf l D g b (sS c 0 0) (hI.n0 (v := 0)) (mAdv (sS c 0 0) k9) 1 (by omega) (by omega)) ml_X5_154 im_X5_pegsOf se_X5_pegsOf ini_X5 cd_X5_pegsOf ds_X5_pegsOf ⟨Nat.le_of_ble_eq_true rfl, Nat.le_of_ble_eq_true rfl⟩ hK hP (va_recv hK.1 hP (ci := 5) (q0 := 0) rfl rfl) rfl hl.1 rfl (Nat.le_of_ble_eq_true rfl) ⟨Nat.zero_le _, Nat.zero_le _⟩ dX5_advise_55 ?_
          refine lv_aload_n S.1 S.2.1 dX5_advise_58 rfl (lv_at hl 2 rfl) ?_
          refine lv_iload_n S.1 S.2.1 dX5_advise_59 rfl (lv_at hl 0 rfl) ?_
          refine z_iconst S dX5_advise_60 ?_
          refine z_rV (As := [.int (zI (k9 : Int)), .int (zI 0)]) (rest := [.int (zI (mPgO (sS c 0 0) (mAdv (sS c 0 0) k9) 1)), .int (zI ((mPgO (sS c 0 0) (k9 : Int) 1) * (mPgO (sS c 0 0) (mAdv (sS c 0 0) k9) 0)))]) S (m_X5_pegsOf l D g b (sS c 0 0) (hI.n0 (v := 0)) (k9 : Int) 0 (by omega) (by omega)) ml_X5_154 im_X5_pegsOf se_X5_pegsOf ini_X5 cd_X5_pegsOf ds_X5_pegsOf ⟨Nat.le_of_ble_eq_true rfl, Nat.le_of_ble_eq_true rfl⟩ hK hP (va_recv hK.1 hP (ci := 5) (q0 := 0) rfl rfl) rfl hl.1 rfl (Nat.le_of_ble_eq_true rfl) ⟨Nat.zero_le _, Nat.zero_le _⟩ dX5_advise_61 ?_
          refine z_imul S dX5_advise_64 ?_
          refine z_isub S dX5_advise_65 ?_
          refine lv_istore_n (lv' := [(3, .int (zI (((mPgO (sS c 0 0) (k9 : Int) 1) * (mPgO (sS c 0 0) (mAdv (sS c 0 0) k9) 0)) - ((mPgO (sS c 0 0) (mAdv (sS c 0 0) k9) 1) * (mPgO (sS c 0 0) (k9 : Int) 0))))), (2, .int (zI (k9 : Int))), (1, .int (zI (mAdv (sS c 0 0) k9))), (0, .ref (b 0))]) S.1 S.2.1 dX5_advise_66 rfl hl (by decide) rfl (fun ls hl => ?_)
          refine lv_iload_n S.1 S.2.1 dX5_advise_67 rfl (lv_at hl 0 rfl) ?_
          refine z_if_gt (tgt := 90) S dX5_advise_68 (by decide) (by omega) (fun h_4 => ?_) (fun h_4 => ?_)
          · refine lv_iload_n S.1 S.2.1 dX5_advise_90 rfl (lv_at hl 1 rfl) ?_
            refine lv_istore_n (lv' := [(1, .int (zI (k9 : Int))), (3, .int (zI (((mPgO (sS c 0 0) (k9 : Int) 1) * (mPgO (sS c 0 0) (mAdv (sS c 0 0) k9) 0)) - ((mPgO (sS c 0 0) (mAdv (sS c 0 0) k9) 1) * (mPgO (sS c 0 0) (k9 : Int) 0))))), (2, .int (zI (k9 : Int))), (0, .ref (b 0))]) S.1 S.2.1 dX5_advise_91 rfl hl (by decide) rfl (fun ls hl => ?_)
            refine z_iinc (lv' := [(2, .int (zI ((k9 : Int) + 1))), (1, .int (zI (k9 : Int))), (3, .int (zI (((mPgO (sS c 0 0) (k9 : Int) 1) * (mPgO (sS c 0 0) (mAdv (sS c 0 0) k9) 0)) - ((mPgO (sS c 0 0) (mAdv (sS c 0 0) k9) 1) * (mPgO (sS c 0 0) (k9 : Int) 0))))), (0, .ref (b 0))]) S dX5_advise_92 hl (k := 2) rfl (by decide) rfl (fun ls hl => ?_)
            refine z_goto (tgt := 9) S dX5_advise_95 (by decide) ?_
            have e_5 : mAdv (sS c 0 0) (k9 + 1) = (k9 : Int) := by grind [mAdv]
            exact ih9 _ (lv_sub hl [0, 1, 3] (by show _ = ([(2, .int (zI ((k9 + 1 : Nat) : Int))), (1, .int (zI (mAdv (sS c 0 0) (k9 + 1)))), (0, .ref (b 0))] : List (Nat × Value)); rw [e_5]; first | done | rfl)) trivial
          · refine lv_iload_n S.1 S.2.1 dX5_advise_71 rfl (lv_at hl 0 rfl) ?_
            refine z_if_ne (tgt := 92) S dX5_advise_72 (by decide) (by omega) (fun h_6 => ?_) (fun h_6 => ?_)
            · refine z_iinc (lv' := [(2, .int (zI ((k9 : Int) + 1))), (3, .int (zI (((mPgO (sS c 0 0) (k9 : Int) 1) * (mPgO (sS c 0 0) (mAdv (sS c 0 0) k9) 0)) - ((mPgO (sS c 0 0) (mAdv (sS c 0 0) k9) 1) * (mPgO (sS c 0 0) (k9 : Int) 0))))), (1, .int (zI (mAdv (sS c 0 0) k9))), (0, .ref (b 0))]) S dX5_advise_92 hl (k := 1) rfl (by decide) rfl (fun ls hl => ?_)
              refine z_goto (tgt := 9) S dX5_advise_95 (by decide) ?_
              have e_7 : mAdv (sS c 0 0) (k9 + 1) = mAdv (sS c 0 0) k9 := by grind [mAdv]
              exact ih9 _ (lv_sub hl [0, 2, 3] (by show _ = ([(2, .int (zI ((k9 + 1 : Nat) : Int))), (1, .int (zI (mAdv (sS c 0 0) (k9 + 1)))), (0, .ref (b 0))] : List (Nat × Value)); rw [e_7]; first | done | rfl)) trivial
            · refine lv_aload_n S.1 S.2.1 dX5_advise_75 rfl (lv_at hl 3 rfl) ?_
              refine lv_iload_n S.1 S.2.1 dX5_advise_76 rfl (lv_at hl 1 rfl) ?_
              refine z_iconst S dX5_advise_77 ?_
              refine z_rV (As := [.int (zI (k9 : Int)), .int (zI 0)]) (rest := []) S (m_X5_pegsOf l D g b (sS c 0 0) (hI.n0 (v := 0)) (k9 : Int) 0 (by omega) (by omega)) ml_X5_154 im_X5_pegsOf se_X5_pegsOf ini_X5 cd_X5_pegsOf ds_X5_pegsOf ⟨Nat.le_of_ble_eq_true rfl, Nat.le_of_ble_eq_true rfl⟩ hK hP (va_recv hK.1 hP (ci := 5) (q0 := 0) rfl rfl) rfl hl.1 rfl (Nat.le_of_ble_eq_true rfl) ⟨Nat.zero_le _, Nat.zero_le _⟩ dX5_advise_78 ?_
              refine lv_aload_n S.1 S.2.1 dX5_advise_81 rfl (lv_at hl 3 rfl) ?_
              refine lv_iload_n S.1 S.2.1 dX5_advise_82 rfl (lv_at hl 2 rfl) ?_
              refine z_iconst S dX5_advise_83 ?_
              refine z_rV (As := [.int (zI (mAdv (sS c 0 0) k9)), .int (zI 0)]) (rest := [.int (zI (mPgO (sS c 0 0) (k9 : Int) 0))]) S (m_X5_pegsOf l D g b (sS c 0 0) (hI.n0 (v := 0)) (mAdv (sS c 0 0) k9) 0 (by omega) (by omega)) ml_X5_154 im_X5_pegsOf se_X5_pegsOf ini_X5 cd_X5_pegsOf ds_X5_pegsOf ⟨Nat.le_of_ble_eq_true rfl, Nat.le_of_ble_eq_true rfl⟩ hK hP (va_recv hK.1 hP (ci := 5) (q0 := 0) rfl rfl) rfl hl.1 rfl (Nat.le_of_ble_eq_true rfl) ⟨Nat.zero_le _, Nat.zero_le _⟩ dX5_advise_84 ?_
              refine z_icmp_le (tgt := 92) S dX5_advise_87 (by decide) (by omega) (fun h_8 => ?_) (fun h_8 => ?_)
              · refine z_iinc (lv' := [(2, .int (zI ((k9 : Int) + 1))), (3, .int (zI (((mPgO (sS c 0 0) (k9 : Int) 1) * (mPgO (sS c 0 0) (mAdv (sS c 0 0) k9) 0)) - ((mPgO (sS c 0 0) (mAdv (sS c 0 0) k9) 1) * (mPgO (sS c 0 0) (k9 : Int) 0))))), (1, .int (zI (mAdv (sS c 0 0) k9))), (0, .ref (b 0))]) S dX5_advise_92 hl (k := 1) rfl (by decide) rfl (fun ls hl => ?_)
                refine z_goto (tgt := 9) S dX5_advise_95 (by decide) ?_
                have e_9 : mAdv (sS c 0 0) (k9 + 1) = mAdv (sS c 0 0) k9 := by grind [mAdv]
                exact ih9 _ (lv_sub hl [0, 2, 3] (by show _ = ([(2, .int (zI ((k9 + 1 : Nat) : Int))), (1, .int (zI (mAdv (sS c 0 0) (k9 + 1)))), (0, .ref (b 0))] : List (Nat × Value)); rw [e_9]; first | done | rfl)) trivial
              · refine lv_iload_n S.1 S.2.1 dX5_advise_90 rfl (lv_at hl 1 rfl) ?_
                refine lv_istore_n (lv' := [(1, .int (zI (k9 : Int))), (3, .int (zI (((mPgO (sS c 0 0) (k9 : Int) 1) * (mPgO (sS c 0 0) (mAdv (sS c 0 0) k9) 0)) - ((mPgO (sS c 0 0) (mAdv (sS c 0 0) k9) 1) * (mPgO (sS c 0 0) (k9 : Int) 0))))), (2, .int (zI (k9 : Int))), (0, .ref (b 0))]) S.1 S.2.1 dX5_advise_91 rfl hl (by decide) rfl (fun ls hl => ?_)
                refine z_iinc (lv' := [(2, .int (zI ((k9 : Int) + 1))), (1, .int (zI (k9 : Int))), (3, .int (zI (((mPgO (sS c 0 0) (k9 : Int) 1) * (mPgO (sS c 0 0) (mAdv (sS c 0 0) k9) 0)) - ((mPgO (sS c 0 0) (mAdv (sS c 0 0) k9) 1) * (mPgO (sS c 0 0) (k9 : Int) 0))))), (0, .ref (b 0))]) S dX5_advise_92 hl (k := 2) rfl (by decide) rfl (fun ls hl => ?_)
                refine z_goto (tgt := 9) S dX5_advise_95 (by decide) ?_
                have e_10 : mAdv (sS c 0 0) (k9 + 1) = (k9 : Int) := by grind [mAdv]
                exact ih9 _ (lv_sub hl [0, 1, 3] (by show _ = ([(2, .int (zI ((k9 + 1 : Nat) : Int))), (1, .int (zI (mAdv (sS c 0 0) (k9 + 1)))), (0, .ref (b 0))] : List (Nat × Value)); rw [e_10]; first | done | rfl)) trivial
        · refine lv_iload_n S.1 S.2.1 dX5_advise_34 rfl (lv_at hl 0 rfl) ?_
          refine lv_istore_n (lv' := [(1, .int (zI (k9 : Int))), (2, .int (zI (k9 : Int))), (0, .ref (b 0))]) S.1 S.2.1 dX5_advise_35 rfl hl (by decide) rfl (fun ls hl => ?_)
          refine z_goto (tgt := 92) S dX5_advise_36 (by decide) ?_
          refine z_iinc (lv' := [(2, .int (zI ((k9 : Int) + 1))), (1, .int (zI (k9 : Int))), (0, .ref (b 0))]) S dX5_advise_92 hl (k := 1) rfl (by decide) rfl (fun ls hl => ?_)
          refine z_goto (tgt := 9) S dX5_advise_95 (by decide) ?_
          have e_11 : mAdv (sS c 0 0) (k9 + 1) = (k9 : Int) := by grind [mAdv]
          exact ih9 _ (lv_sub hl [0, 1, 2] (by show _ = ([(2, .int (zI ((k9 + 1 : Nat) : Int))), (1, .int (zI (mAdv (sS c 0 0) (k9 + 1)))), (0, .ref (b 0))] : List (Nat × Value)); rw [e_11]; first | done | rfl)) trivial
      · refine z_goto (tgt := 92) S dX5_advise_26 (by decide) ?_
        refine z_iinc (lv' := [(2, .int (zI ((k9 : Int) + 1))), (1, .int (zI (mAdv (sS c 0 0) k9))), (0, .ref (b 0))]) S dX5_advise_92 hl (k := 0) rfl (by decide) rfl (fun ls hl => ?_)
        refine z_goto (tgt := 9) S dX5_advise_95 (by decide) ?_
        have e_12 : mAdv (sS c 0 0) (k9 + 1) = mAdv (sS c 0 0) k9 := by grind [mAdv]
        exact ih9 _ (lv_sub hl [0, 1, 2] (by show _ = ([(2, .int (zI ((k9 + 1 : Nat) : Int))), (1, .int (zI (mAdv (sS c 0 0) (k9 + 1)))), (0, .ref (b 0))] : List (Nat × Value)); rw [e_12]; first | done | rfl)) trivial
  · have hl : lv_has ls 4 [(2, .int (zI (((c.1 4).toNat : Nat) : Int))), (1, .int (zI (mAdv (sS c 0 0) ((c.1 4).toNat)))), (0, .ref (b 0))] := hl
    refine lv_iload_n S.1 S.2.1 dX5_advise_9 rfl (lv_at hl 0 rfl) ?_
    refine lv_aload_n S.1 S.2.1 dX5_advise_10 rfl (lv_at hl 2 rfl) ?_
    refine z_get (v := .int (zI (c.1 4))) S inA5 hK hP 0 rfl rfl 7 (by decide) fl_X5_60 rfl dX5_advise_11 ?_
    refine z_icmp_ge (tgt := 98) S dX5_advise_14 (by decide) (by omega) (fun h_13 => ?_) (fun h_13 => ?_)
    · refine lv_iload_n S.1 S.2.1 dX5_advise_98 rfl (lv_at hl 1 rfl) ?_
      have hw : MW g b (sS c 0 0) = MW g b (sS c 0 0) := by exact rfl
      rw [hw] at hP
      exact z_retw S hr hlk (by first | rfl | grind) hP hS dX5_advise_99
    · exact absurd h_13 (by omega)
set_option maxHeartbeats 4000000 in
set_option maxRecDepth 100000 in
theorem m_X5_digest (l : Launch) (D : va_G) (g : ClassId × ClassId × ClassId) (b : Nat → Nat) {B : Int} (c : CS) (hI : IM B c) (hda : CD 14 b) : WRl l yX5_digest cX5_digest 5 (some .long) 4 87 D g (CA 14 b) (MW g b c) [.ref (b 0)] (MW g b (sS c 0 0)) (dgO (mSpT (sS c 0 0)) 4 (dgO (mPiT (sS c 0 0)) 7 (dgO (mDoT (sS c 0 0)) 8 (dg (mCnt (sS c 0 0)) 1801 9) (c.1 4).toNat) (c.1 6).toNat) 400) := by
  refine z_enter RX5 (by decide) rfl (Nat.le_of_ble_eq_true rfl) ?_
  intro p e s m args below meth co S hr hlk hK hP ls hl
  have hl : lv_has ls 5 [(0, .ref (b 0))] := hl
  have hs := hI.s
  have hS : va_S (CA 14 b) s.heap s.heap [] := va_S.rf
  refine lv_aload_n S.1 S.2.1 dX5_digest_0 rfl (lv_at hl 0 rfl) ?_
  refine z_iconst S dX5_digest_1 ?_
  refine z_put S inA5 tyX5 tyX5_ok nmX5 hK hP (MW_D hda _) hS 0 rfl rfl 0 (by decide) fl_X5_53 rfl (by decide +kernel) (Nat.le_of_ble_eq_true rfl) dX5_digest_2 (fun H locs hP hS => ?_)
  have hP : va_P D vwCl (MW g b (sS c 0 0)) H := hP
  refine lv_ldc2 S.1 S.2.1 S.2.2.2.1 (S.2.2.2.2 _ kl_X5_178) dX5_digest_5 ?_
  refine lv_lstore_n (lv' := [(1, .long (1801 : Int64)), (0, .ref (b 0))]) S.1 S.2.1 dX5_digest_8 rfl hl (by decide) rfl (fun ls hl => ?_)
  refine z_iconst S dX5_digest_9 ?_
  refine lv_istore_n (lv' := [(3, .int (zI 0)), (1, .long (1801 : Int64)), (0, .ref (b 0))]) S.1 S.2.1 dX5_digest_10 rfl hl (by decide) rfl (fun ls hl => ?_)
  refine z_for (nL := 5) (9) (fun (k11 : Nat) => [(3, .int (zI (k11 : Int))), (1, .long (dg (mCnt (sS c 0 0)) 1801 k11)), (0, .ref (b 0))]) (fun k11 => True) (fun k11 hk11 hJ11 ls hl ih11 => ?_) (fun hJ11 ls hl => ?_) 0 (by omega) trivial ls (lv_sub hl [0, 1, 2] rfl)
  · have hl : lv_has ls 5 [(3, .int (zI (k11 : Int))), (1, .long (dg (mCnt (sS c 0 0)) 1801 k11)), (0, .ref (b 0))] := hl
    refine lv_iload_n S.1 S.2.1 dX5_digest_11 rfl (lv_at hl 0 rfl) ?_
    refine z_bipush S (by decide) dX5_digest_12 ?_
    refine z_icmp_gt (tgt := 36) S dX5_digest_14 (by decide) (by omega) (fun h_1 => ?_) (fun h_1 => ?_)
    · exact absurd h_1 (by omega)
    · refine lv_lload_n S.1 S.2.1 dX5_digest_17 rfl (lv_at hl 1 rfl) ?_
      refine lv_ldc2 S.1 S.2.1 S.2.2.2.1 (S.2.2.2.2 _ kl_X5_180) dX5_digest_18 ?_
      refine lv_lmul S.1 S.2.1 dX5_digest_21 ?_
      refine lv_aload_n S.1 S.2.1 dX5_digest_22 rfl (lv_at hl 2 rfl) ?_
      refine lv_iload_n S.1 S.2.1 dX5_digest_23 rfl (lv_at hl 0 rfl) ?_
      refine z_rV (As := [.int (zI (k11 : Int))]) (rest := [.long ((dg (mCnt (sS c 0 0)) 1801 k11) * (31 : Int64))]) S (m_X5_counted l D g b (sS c 0 0) (hI.n0 (v := 0)) (k11 : Int) (by omega)) ml_X5_166 im_X5_counted se_X5_counted ini_X5 cd_X5_counted ds_X5_counted ⟨Nat.le_of_ble_eq_true rfl, Nat.le_of_ble_eq_true rfl⟩ hK hP (va_recv hK.1 hP (ci := 5) (q0 := 0) rfl rfl) rfl hl.1 rfl (Nat.le_of_ble_eq_true rfl) ⟨Nat.zero_le _, Nat.zero_le _⟩ dX5_digest_24 ?_
      refine lv_i2l (v := (zI (mCnt (sS c 0 0) (k11 : Int))).toInt64) S.1 S.2.1 dX5_digest_27 rfl ?_
      refine lv_ladd S.1 S.2.1 dX5_digest_28 ?_
      refine lv_lstore_n (lv' := [(1, .long (((dg (mCnt (sS c 0 0)) 1801 k11) * (31 : Int64)) + ((zI (mCnt (sS c 0 0) (k11 : Int))).toInt64))), (3, .int (zI (k11 : Int))), (0, .ref (b 0))]) S.1 S.2.1 dX5_digest_29 rfl hl (by decide) rfl (fun ls hl => ?_)
      refine z_iinc (lv' := [(3, .int (zI ((k11 : Int) + 1))), (1, .long (((dg (mCnt (sS c 0 0)) 1801 k11) * (31 : Int64)) + ((zI (mCnt (sS c 0 0) (k11 : Int))).toInt64))), (0, .ref (b 0))]) S dX5_digest_30 hl (k := 1) rfl (by decide) rfl (fun ls hl => ?_)
      refine z_goto (tgt := 11) S dX5_digest_33 (by decide) ?_
      exact ih11 _ (lv_sub hl [0, 1, 2] rfl) trivial
  · have hl : lv_has ls 5 [(3, .int (zI ((9 : Nat) : Int))), (1, .long (dg (mCnt (sS c 0 0)) 1801 9)), (0, .ref (b 0))] := hl
    refine lv_iload_n S.1 S.2.1 dX5_digest_11 rfl (lv_at hl 0 rfl) ?_
    refine z_bipush S (by decide) dX5_digest_12 ?_
    refine z_icmp_gt (tgt := 36) S dX5_digest_14 (by decide) (by omega) (fun h_2 => ?_) (fun h_2 => ?_)
    · refine z_iconst S dX5_digest_36 ?_
      refine lv_istore_n (lv' := [(3, .int (zI 0)), (1, .long (dg (mCnt (sS c 0 0)) 1801 9)), (0, .ref (b 0))]) S.1 S.2.1 dX5_digest_37 rfl hl (by decide) rfl (fun ls hl => ?_)
      refine z_for (nL := 5) ((c.1 4).toNat) (fun (k38 : Nat) => [(3, .int (zI (k38 : Int))), (1, .long (dgO (mDoT (sS c 0 0)) 8 (dg (mCnt (sS c 0 0)) 1801 9) k38)), (0, .ref (b 0))]) (fun k38 => True) (fun k38 hk38 hJ38 ls hl ih38 => ?_) (fun hJ38 ls hl => ?_) 0 (by omega) trivial ls (lv_sub hl [0, 1, 2] rfl)
      · have hl : lv_has ls 5 [(3, .int (zI (k38 : Int))), (1, .long (dgO (mDoT (sS c 0 0)) 8 (dg (mCnt (sS c 0 0)) 1801 9) k38)), (0, .ref (b 0))] := hl
        refine lv_iload_n S.1 S.2.1 dX5_digest_38 rfl (lv_at hl 0 rfl) ?_
        refine lv_aload_n S.1 S.2.1 dX5_digest_39 rfl (lv_at hl 2 rfl) ?_
        refine z_get (v := .int (zI (c.1 4))) S inA5 hK hP 0 rfl rfl 7 (by decide) fl_X5_60 rfl dX5_digest_40 ?_
        refine z_icmp_ge (tgt := 83) S dX5_digest_43 (by decide) (by omega) (fun h_3 => ?_) (fun h_3 => ?_)
        · exact absurd h_3 (by omega)
        · refine z_iconst S dX5_digest_46 ?_
          refine lv_istore (lv' := [(4, .int (zI 0)), (3, .int (zI (k38 : Int))), (1, .long (dgO (mDoT (sS c 0 0)) 8 (dg (mCnt (sS c 0 0)) 1801 9) k38)), (0, .ref (b 0))]) S.1 S.2.1 dX5_digest_47 hl (by decide) rfl (fun ls hl => ?_)
          refine z_for (nL := 5) (8) (fun (k49 : Nat) => [(4, .int (zI (k49 : Int))), (3, .int (zI (k38 : Int))), (1, .long (dg (mDoT (sS c 0 0) (k38 : Int)) (dgO (mDoT (sS c 0 0)) 8 (dg (mCnt (sS c 0 0)) 1801 9) k38) k49)), (0, .ref (b 0))]) (fun k49 => True) (fun k49 hk49 hJ49 ls hl ih49 => ?_) (fun hJ49 ls hl => ?_) 0 (by omega) trivial ls (lv_sub hl [0, 1, 2, 3] rfl)
          · have hl : lv_has ls 5 [(4, .int (zI (k49 : Int))), (3, .int (zI (k38 : Int))), (1, .long (dg (mDoT (sS c 0 0) (k38 : Int)) (dgO (mDoT (sS c 0 0)) 8 (dg (mCnt (sS c 0 0)) 1801 9) k38) k49)), (0, .ref (b 0))] := hl
            refine lv_iload S.1 S.2.1 dX5_digest_49 (lv_at hl 0 rfl) ?_
            refine z_bipush S (by decide) dX5_digest_51 ?_
            refine z_icmp_gt (tgt := 77) S dX5_digest_53 (by decide) (by omega) (fun h_4 => ?_) (fun h_4 => ?_)
            · exact absurd h_4 (by omega)
            · refine lv_lload_n S.1 S.2.1 dX5_digest_56 rfl (lv_at hl 2 rfl) ?_
              refine lv_ldc2 S.1 S.2.1 S.2.2.2.1 (S.2.2.2.2 _ kl_X5_180) dX5_digest_57 ?_
              refine lv_lmul S.1 S.2.1 dX5_digest_60 ?_
              refine lv_aload_n S.1 S.2.1 dX5_digest_61 rfl (lv_at hl 3 rfl) ?_
              refine lv_iload_n S.1 S.2.1 dX5_digest_62 rfl (lv_at hl 1 rfl) ?_
              refine lv_iload S.1 S.2.1 dX5_digest_63 (lv_at hl 0 rfl) ?_
              refine z_rV (As := [.int (zI (k38 : Int)), .int (zI (k49 : Int))]) (rest := [.long ((dg (mDoT (sS c 0 0) (k38 : Int)) (dgO (mDoT (sS c 0 0)) 8 (dg (mCnt (sS c 0 0)) 1801 9) k38) k49) * (31 : Int64))]) S (m_X5_dowserTold l D g b (sS c 0 0) (hI.n0 (v := 0)) (k38 : Int) (k49 : Int) (by omega) (by omega)) ml_X5_160 im_X5_dowserTold se_X5_dowserTold ini_X5 cd_X5_dowserTold ds_X5_dowserTold ⟨Nat.le_of_ble_eq_true rfl, Nat.le_of_ble_eq_true rfl⟩ hK hP (va_recv hK.1 hP (ci := 5) (q0 := 0) rfl rfl) rfl hl.1 rfl (Nat.le_of_ble_eq_true rfl) ⟨Nat.zero_le _, Nat.zero_le _⟩ dX5_digest_65 ?_
              refine lv_i2l (v := (zI (mDoT (sS c 0 0) (k38 : Int) (k49 : Int))).toInt64) S.1 S.2.1 dX5_digest_68 rfl ?_
              refine lv_ladd S.1 S.2.1 dX5_digest_69 ?_
              refine lv_lstore_n (lv' := [(1, .long (((dg (mDoT (sS c 0 0) (k38 : Int)) (dgO (mDoT (sS c 0 0)) 8 (dg (mCnt (sS c 0 0)) 1801 9) k38) k49) * (31 : Int64)) + ((zI (mDoT (sS c 0 0) (k38 : Int) (k49 : Int))).toInt64))), (4, .int (zI (k49 : Int))), (3, .int (zI (k38 : Int))), (0, .ref (b 0))]) S.1 S.2.1 dX5_digest_70 rfl hl (by decide) rfl (fun ls hl => ?_)
              refine z_iinc (lv' := [(4, .int (zI ((k49 : Int) + 1))), (1, .long (((dg (mDoT (sS c 0 0) (k38 : Int)) (dgO (mDoT (sS c 0 0)) 8 (dg (mCnt (sS c 0 0)) 1801 9) k38) k49) * (31 : Int64)) + ((zI (mDoT (sS c 0 0) (k38 : Int) (k49 : Int))).toInt64))), (3, .int (zI (k38 : Int))), (0, .ref (b 0))]) S dX5_digest_71 hl (k := 1) rfl (by decide) rfl (fun ls hl => ?_)
              refine z_goto (tgt := 49) S dX5_digest_74 (by decide) ?_
              exact ih49 _ (lv_sub hl [0, 2, 1, 3] rfl) trivial
          · have hl : lv_has ls 5 [(4, .int (zI ((8 : Nat) : Int))), (3, .int (zI (k38 : Int))), (1, .long (dg (mDoT (sS c 0 0) (k38 : Int)) (dgO (mDoT (sS c 0 0)) 8 (dg (mCnt (sS c 0 0)) 1801 9) k38) 8)), (0, .ref (b 0))] := hl
            refine lv_iload S.1 S.2.1 dX5_digest_49 (lv_at hl 0 rfl) ?_
            refine z_bipush S (by decide) dX5_digest_51 ?_
            refine z_icmp_gt (tgt := 77) S dX5_digest_53 (by decide) (by omega) (fun h_5 => ?_) (fun h_5 => ?_)
            · refine z_iinc (lv' := [(3, .int (zI ((k38 : Int) + 1))), (4, .int (zI ((8 : Nat) : Int))), (1, .long (dg (mDoT (sS c 0 0) (k38 : Int)) (dgO (mDoT (sS c 0 0)) 8 (dg (mCnt (sS c 0 0)) 1801 9) k38) 8)), (0, .ref (b 0))]) S dX5_digest_77 hl (k := 1) rfl (by decide) rfl (fun ls hl => ?_)
              refine z_goto (tgt := 38) S dX5_digest_80 (by decide) ?_
              exact ih38 _ (lv_sub hl [0, 2, 3] rfl) trivial
            · exact absurd h_5 (by omega)
      · have hl : lv_has ls 5 [(3, .int (zI (((c.1 4).toNat : Nat) : Int))), (1, .long (dgO (mDoT (sS c 0 0)) 8 (dg (mCnt (sS c 0 0)) 1801 9) ((c.1 4).toNat))), (0, .ref (b 0))] := hl
        refine lv_iload_n S.1 S.2.1 dX5_digest_38 rfl (lv_at hl 0 rfl) ?_
        refine lv_aload_n S.1 S.2.1 dX5_digest_39 rfl (lv_at hl 2 rfl) ?_
        refine z_get (v := .int (zI (c.1 4))) S inA5 hK hP 0 rfl rfl 7 (by decide) fl_X5_60 rfl dX5_digest_40 ?_
        refine z_icmp_ge (tgt := 83) S dX5_digest_43 (by decide) (by omega) (fun h_6 => ?_) (fun h_6 => ?_)
        · refine z_iconst S dX5_digest_83 ?_
          refine lv_istore_n (lv' := [(3, .int (zI 0)), (1, .long (dgO (mDoT (sS c 0 0)) 8 (dg (mCnt (sS c 0 0)) 1801 9) ((c.1 4).toNat))), (0, .ref (b 0))]) S.1 S.2.1 dX5_digest_84 rfl hl (by decide) rfl (fun ls hl => ?_)
          refine z_for (nL := 5) ((c.1 6).toNat) (fun (k85 : Nat) => [(3, .int (zI (k85 : Int))), (1, .long (dgO (mPiT (sS c 0 0)) 7 (dgO (mDoT (sS c 0 0)) 8 (dg (mCnt (sS c 0 0)) 1801 9) (c.1 4).toNat) k85)), (0, .ref (b 0))]) (fun k85 => True) (fun k85 hk85 hJ85 ls hl ih85 => ?_) (fun hJ85 ls hl => ?_) 0 (by omega) trivial ls (lv_sub hl [0, 1, 2] rfl)
          · have hl : lv_has ls 5 [(3, .int (zI (k85 : Int))), (1, .long (dgO (mPiT (sS c 0 0)) 7 (dgO (mDoT (sS c 0 0)) 8 (dg (mCnt (sS c 0 0)) 1801 9) (c.1 4).toNat) k85)), (0, .ref (b 0))] := hl
            refine lv_iload_n S.1 S.2.1 dX5_digest_85 rfl (lv_at hl 0 rfl) ?_
            refine lv_aload_n S.1 S.2.1 dX5_digest_86 rfl (lv_at hl 2 rfl) ?_
            refine z_get (v := .int (zI (c.1 6))) S inA5 hK hP 0 rfl rfl 15 (by decide) fl_X5_63 rfl dX5_digest_87 ?_
            refine z_icmp_ge (tgt := 130) S dX5_digest_90 (by decide) (by omega) (fun h_7 => ?_) (fun h_7 => ?_)
            · exact absurd h_7 (by omega)
            · refine z_iconst S dX5_digest_93 ?_
              refine lv_istore (lv' := [(4, .int (zI 0)), (3, .int (zI (k85 : Int))), (1, .long (dgO (mPiT (sS c 0 0)) 7 (dgO (mDoT (sS c 0 0)) 8 (dg (mCnt (sS c 0 0)) 1801 9) (c.1 4).toNat) k85)), (0, .ref (b 0))]) S.1 S.2.1 dX5_digest_94 hl (by decide) rfl (fun ls hl => ?_)
              refine z_for (nL := 5) (7) (fun (k96 : Nat) => [(4, .int (zI (k96 : Int))), (3, .int (zI (k85 : Int))), (1, .long (dg (mPiT (sS c 0 0) (k85 : Int)) (dgO (mPiT (sS c 0 0)) 7 (dgO (mDoT (sS c 0 0)) 8 (dg (mCnt (sS c 0 0)) 1801 9) (c.1 4).toNat) k85) k96)), (0, .ref (b 0))]) (fun k96 => True) (fun k96 hk96 hJ96 ls hl ih96 => ?_) (fun hJ96 ls hl => ?_) 0 (by omega) trivial ls (lv_sub hl [0, 1, 2, 3] rfl)
              · have hl : lv_has ls 5 [(4, .int (zI (k96 : Int))), (3, .int (zI (k85 : Int))), (1, .long (dg (mPiT (sS c 0 0) (k85 : Int)) (dgO (mPiT (sS c 0 0)) 7 (dgO (mDoT (sS c 0 0)) 8 (dg (mCnt (sS c 0 0)) 1801 9) (c.1 4).toNat) k85) k96)), (0, .ref (b 0))] := hl
                refine lv_iload S.1 S.2.1 dX5_digest_96 (lv_at hl 0 rfl) ?_
                refine z_bipush S (by decide) dX5_digest_98 ?_
                refine z_icmp_gt (tgt := 124) S dX5_digest_100 (by decide) (by omega) (fun h_8 => ?_) (fun h_8 => ?_)
                · exact absurd h_8 (by omega)
                · refine lv_lload_n S.1 S.2.1 dX5_digest_103 rfl (lv_at hl 2 rfl) ?_
                  refine lv_ldc2 S.1 S.2.1 S.2.2.2.1 (S.2.2.2.2 _ kl_X5_180) dX5_digest_104 ?_
                  refine lv_lmul S.1 S.2.1 dX5_digest_107 ?_
                  refine lv_aload_n S.1 S.2.1 dX5_digest_108 rfl (lv_at hl 3 rfl) ?_
                  refine lv_iload_n S.1 S.2.1 dX5_digest_109 rfl (lv_at hl 1 rfl) ?_
                  refine lv_iload S.1 S.2.1 dX5_digest_110 (lv_at hl 0 rfl) ?_
                  refine z_rV (As := [.int (zI (k85 : Int)), .int (zI (k96 : Int))]) (rest := [.long ((dg (mPiT (sS c 0 0) (k85 : Int)) (dgO (mPiT (sS c 0 0)) 7 (dgO (mDoT (sS c 0 0)) 8 (dg (mCnt (sS c 0 0)) 1801 9) (c.1 4).toNat) k85) k96) * (31 : Int64))]) S (m_X5_pitTold l D g b (sS c 0 0) (hI.n0 (v := 0)) (k85 : Int) (k96 : Int) (by omega) (by omega)) ml_X5_163 im_X5_pitTold se_X5_pitTold ini_X5 cd_X5_pitTold ds_X5_pitTold ⟨Nat.le_of_ble_eq_true rfl, Nat.le_of_ble_eq_true rfl⟩ hK hP (va_recv hK.1 hP (ci := 5) (q0 := 0) rfl rfl) rfl hl.1 rfl (Nat.le_of_ble_eq_true rfl) ⟨Nat.zero_le _, Nat.zero_le _⟩ dX5_digest_112 ?_
                  refine lv_i2l (v := (zI (mPiT (sS c 0 0) (k85 : Int) (k96 : Int))).toInt64) S.1 S.2.1 dX5_digest_115 rfl ?_
                  refine lv_ladd S.1 S.2.1 dX5_digest_116 ?_
                  refine lv_lstore_n (lv' := [(1, .long (((dg (mPiT (sS c 0 0) (k85 : Int)) (dgO (mPiT (sS c 0 0)) 7 (dgO (mDoT (sS c 0 0)) 8 (dg (mCnt (sS c 0 0)) 1801 9) (c.1 4).toNat) k85) k96) * (31 : Int64)) + ((zI (mPiT (sS c 0 0) (k85 : Int) (k96 : Int))).toInt64))), (4, .int (zI (k96 : Int))), (3, .int (zI (k85 : Int))), (0, .ref (b 0))]) S.1 S.2.1 dX5_digest_117 rfl hl (by decide) rfl (fun ls hl => ?_)
                  refine z_iinc (lv' := [(4, .int (zI ((k96 : Int) + 1))), (1, .long (((dg (mPiT (sS c 0 0) (k85 : Int)) (dgO (mPiT (sS c 0 0)) 7 (dgO (mDoT (sS c 0 0)) 8 (dg (mCnt (sS c 0 0)) 1801 9) (c.1 4).toNat) k85) k96) * (31 : Int64)) + ((zI (mPiT (sS c 0 0) (k85 : Int) (k96 : Int))).toInt64))), (3, .int (zI (k85 : Int))), (0, .ref (b 0))]) S dX5_digest_118 hl (k := 1) rfl (by decide) rfl (fun ls hl => ?_)
                  refine z_goto (tgt := 96) S dX5_digest_121 (by decide) ?_
                  exact ih96 _ (lv_sub hl [0, 2, 1, 3] rfl) trivial
              · have hl : lv_has ls 5 [(4, .int (zI ((7 : Nat) : Int))), (3, .int (zI (k85 : Int))), (1, .long (dg (mPiT (sS c 0 0) (k85 : Int)) (dgO (mPiT (sS c 0 0)) 7 (dgO (mDoT (sS c 0 0)) 8 (dg (mCnt (sS c 0 0)) 1801 9) (c.1 4).toNat) k85) 7)), (0, .ref (b 0))] := hl
                refine lv_iload S.1 S.2.1 dX5_digest_96 (lv_at hl 0 rfl) ?_
                refine z_bipush S (by decide) dX5_digest_98 ?_
                refine z_icmp_gt (tgt := 124) S dX5_digest_100 (by decide) (by omega) (fun h_9 => ?_) (fun h_9 => ?_)
                · refine z_iinc (lv' := [(3, .int (zI ((k85 : Int) + 1))), (4, .int (zI ((7 : Nat) : Int))), (1, .long (dg (mPiT (sS c 0 0) (k85 : Int)) (dgO (mPiT (sS c 0 0)) 7 (dgO (mDoT (sS c 0 0)) 8 (dg (mCnt (sS c 0 0)) 1801 9) (c.1 4).toNat) k85) 7)), (0, .ref (b 0))]) S dX5_digest_124 hl (k := 1) rfl (by decide) rfl (fun ls hl => ?_)
                  refine z_goto (tgt := 85) S dX5_digest_127 (by decide) ?_
                  exact ih85 _ (lv_sub hl [0, 2, 3] rfl) trivial
                · exact absurd h_9 (by omega)
          · have hl : lv_has ls 5 [(3, .int (zI (((c.1 6).toNat : Nat) : Int))), (1, .long (dgO (mPiT (sS c 0 0)) 7 (dgO (mDoT (sS c 0 0)) 8 (dg (mCnt (sS c 0 0)) 1801 9) (c.1 4).toNat) ((c.1 6).toNat))), (0, .ref (b 0))] := hl
            refine lv_iload_n S.1 S.2.1 dX5_digest_85 rfl (lv_at hl 0 rfl) ?_
            refine lv_aload_n S.1 S.2.1 dX5_digest_86 rfl (lv_at hl 2 rfl) ?_
            refine z_get (v := .int (zI (c.1 6))) S inA5 hK hP 0 rfl rfl 15 (by decide) fl_X5_63 rfl dX5_digest_87 ?_
            refine z_icmp_ge (tgt := 130) S dX5_digest_90 (by decide) (by omega) (fun h_10 => ?_) (fun h_10 => ?_)
            · refine z_iconst S dX5_digest_130 ?_
              refine lv_istore_n (lv' := [(3, .int (zI 0)), (1, .long (dgO (mPiT (sS c 0 0)) 7 (dgO (mDoT (sS c 0 0)) 8 (dg (mCnt (sS c 0 0)) 1801 9) (c.1 4).toNat) ((c.1 6).toNat))), (0, .ref (b 0))]) S.1 S.2.1 dX5_digest_131 rfl hl (by decide) rfl (fun ls hl => ?_)
              refine z_for (nL := 5) (400) (fun (k132 : Nat) => [(3, .int (zI (k132 : Int))), (1, .long (dgO (mSpT (sS c 0 0)) 4 (dgO (mPiT (sS c 0 0)) 7 (dgO (mDoT (sS c 0 0)) 8 (dg (mCnt (sS c 0 0)) 1801 9) (c.1 4).toNat) (c.1 6).toNat) k132)), (0, .ref (b 0))]) (fun k132 => True) (fun k132 hk132 hJ132 ls hl ih132 => ?_) (fun hJ132 ls hl => ?_) 0 (by omega) trivial ls (lv_sub hl [0, 1, 2] rfl)
              · have hl : lv_has ls 5 [(3, .int (zI (k132 : Int))), (1, .long (dgO (mSpT (sS c 0 0)) 4 (dgO (mPiT (sS c 0 0)) 7 (dgO (mDoT (sS c 0 0)) 8 (dg (mCnt (sS c 0 0)) 1801 9) (c.1 4).toNat) (c.1 6).toNat) k132)), (0, .ref (b 0))] := hl
                refine lv_iload_n S.1 S.2.1 dX5_digest_132 rfl (lv_at hl 0 rfl) ?_
                refine z_sipush S (by decide) dX5_digest_133 ?_
                refine z_icmp_ge (tgt := 175) S dX5_digest_136 (by decide) (by omega) (fun h_11 => ?_) (fun h_11 => ?_)
                · exact absurd h_11 (by omega)
                · refine z_iconst S dX5_digest_139 ?_
                  refine lv_istore (lv' := [(4, .int (zI 0)), (3, .int (zI (k132 : Int))), (1, .long (dgO (mSpT (sS c 0 0)) 4 (dgO (mPiT (sS c 0 0)) 7 (dgO (mDoT (sS c 0 0)) 8 (dg (mCnt (sS c 0 0)) 1801 9) (c.1 4).toNat) (c.1 6).toNat) k132)), (0, .ref (b 0))]) S.1 S.2.1 dX5_digest_140 hl (by decide) rfl (fun ls hl => ?_)
                  refine z_for (nL := 5) (4) (fun (k142 : Nat) => [(4, .int (zI (k142 : Int))), (3, .int (zI (k132 : Int))), (1, .long (dg (mSpT (sS c 0 0) (k132 : Int)) (dgO (mSpT (sS c 0 0)) 4 (dgO (mPiT (sS c 0 0)) 7 (dgO (mDoT (sS c 0 0)) 8 (dg (mCnt (sS c 0 0)) 1801 9) (c.1 4).toNat) (c.1 6).toNat) k132) k142)), (0, .ref (b 0))]) (fun k142 => True) (fun k142 hk142 hJ142 ls hl ih142 => ?_) (fun hJ142 ls hl => ?_) 0 (by omega) trivial ls (lv_sub hl [0, 1, 2, 3] rfl)
                  · have hl : lv_has ls 5 [(4, .int (zI (k142 : Int))), (3, .int (zI (k132 : Int))), (1, .long (dg (mSpT (sS c 0 0) (k132 : Int)) (dgO (mSpT (sS c 0 0)) 4 (dgO (mPiT (sS c 0 0)) 7 (dgO (mDoT (sS c 0 0)) 8 (dg (mCnt (sS c 0 0)) 1801 9) (c.1 4).toNat) (c.1 6).toNat) k132) k142)), (0, .ref (b 0))] := hl
                    refine lv_iload S.1 S.2.1 dX5_digest_142 (lv_at hl 0 rfl) ?_
                    refine z_iconst S dX5_digest_144 ?_
                    refine z_icmp_gt (tgt := 169) S dX5_digest_145 (by decide) (by omega) (fun h_12 => ?_) (fun h_12 => ?_)
                    · exact absurd h_12 (by omega)
                    · refine lv_lload_n S.1 S.2.1 dX5_digest_148 rfl (lv_at hl 2 rfl) ?_
                      refine lv_ldc2 S.1 S.2.1 S.2.2.2.1 (S.2.2.2.2 _ kl_X5_180) dX5_digest_149 ?_
                      refine lv_lmul S.1 S.2.1 dX5_digest_152 ?_
                      refine lv_aload_n S.1 S.2.1 dX5_digest_153 rfl (lv_at hl 3 rfl) ?_
                      refine lv_iload_n S.1 S.2.1 dX5_digest_154 rfl (lv_at hl 1 rfl) ?_
                      refine lv_iload S.1 S.2.1 dX5_digest_155 (lv_at hl 0 rfl) ?_
                      refine z_rV (As := [.int (zI (k132 : Int)), .int (zI (k142 : Int))]) (rest := [.long ((dg (mSpT (sS c 0 0) (k132 : Int)) (dgO (mSpT (sS c 0 0)) 4 (dgO (mPiT (sS c 0 0)) 7 (dgO (mDoT (sS c 0 0)) 8 (dg (mCnt (sS c 0 0)) 1801 9) (c.1 4).toNat) (c.1 6).toNat) k132) k142) * (31 : Int64))]) S (m_X5_spotTold l D g b (sS c 0 0) (hI.n0 (v := 0)) (k132 : Int) (k142 : Int) (by omega) (by omega)) ml_X5_151 im_X5_spotTold se_X5_spotTold ini_X5 cd_X5_spotTold ds_X5_spotTold ⟨Nat.le_of_ble_eq_true rfl, Nat.le_of_ble_eq_true rfl⟩ hK hP (va_recv hK.1 hP (ci := 5) (q0 := 0) rfl rfl) rfl hl.1 rfl (Nat.le_of_ble_eq_true rfl) ⟨Nat.zero_le _, Nat.zero_le _⟩ dX5_digest_157 ?_
                      refine lv_i2l (v := (zI (mSpT (sS c 0 0) (k132 : Int) (k142 : Int))).toInt64) S.1 S.2.1 dX5_digest_160 rfl ?_
                      refine lv_ladd S.1 S.2.1 dX5_digest_161 ?_
                      refine lv_lstore_n (lv' := [(1, .long (((dg (mSpT (sS c 0 0) (k132 : Int)) (dgO (mSpT (sS c 0 0)) 4 (dgO (mPiT (sS c 0 0)) 7 (dgO (mDoT (sS c 0 0)) 8 (dg (mCnt (sS c 0 0)) 1801 9) (c.1 4).toNat) (c.1 6).toNat) k132) k142) * (31 : Int64)) + ((zI (mSpT (sS c 0 0) (k132 : Int) (k142 : Int))).toInt64))), (4, .int (zI (k142 : Int))), (3, .int (zI (k132 : Int))), (0, .ref (b 0))]) S.1 S.2.1 dX5_digest_162 rfl hl (by decide) rfl (fun ls hl => ?_)
                      refine z_iinc (lv' := [(4, .int (zI ((k142 : Int) + 1))), (1, .long (((dg (mSpT (sS c 0 0) (k132 : Int)) (dgO (mSpT (sS c 0 0)) 4 (dgO (mPiT (sS c 0 0)) 7 (dgO (mDoT (sS c 0 0)) 8 (dg (mCnt (sS c 0 0)) 1801 9) (c.1 4).toNat) (c.1 6).toNat) k132) k142) * (31 : Int64)) + ((zI (mSpT (sS c 0 0) (k132 : Int) (k142 : Int))).toInt64))), (3, .int (zI (k132 : Int))), (0, .ref (b 0))]) S dX5_digest_163 hl (k := 1) rfl (by decide) rfl (fun ls hl => ?_)
                      refine z_goto (tgt := 142) S dX5_digest_166 (by decide) ?_
                      exact ih142 _ (lv_sub hl [0, 2, 1, 3] rfl) trivial
                  · have hl : lv_has ls 5 [(4, .int (zI ((4 : Nat) : Int))), (3, .int (zI (k132 : Int))), (1, .long (dg (mSpT (sS c 0 0) (k132 : Int)) (dgO (mSpT (sS c 0 0)) 4 (dgO (mPiT (sS c 0 0)) 7 (dgO (mDoT (sS c 0 0)) 8 (dg (mCnt (sS c 0 0)) 1801 9) (c.1 4).toNat) (c.1 6).toNat) k132) 4)), (0, .ref (b 0))] := hl
                    refine lv_iload S.1 S.2.1 dX5_digest_142 (lv_at hl 0 rfl) ?_
                    refine z_iconst S dX5_digest_144 ?_
                    refine z_icmp_gt (tgt := 169) S dX5_digest_145 (by decide) (by omega) (fun h_13 => ?_) (fun h_13 => ?_)
                    · refine z_iinc (lv' := [(3, .int (zI ((k132 : Int) + 1))), (4, .int (zI ((4 : Nat) : Int))), (1, .long (dg (mSpT (sS c 0 0) (k132 : Int)) (dgO (mSpT (sS c 0 0)) 4 (dgO (mPiT (sS c 0 0)) 7 (dgO (mDoT (sS c 0 0)) 8 (dg (mCnt (sS c 0 0)) 1801 9) (c.1 4).toNat) (c.1 6).toNat) k132) 4)), (0, .ref (b 0))]) S dX5_digest_169 hl (k := 1) rfl (by decide) rfl (fun ls hl => ?_)
                      refine z_goto (tgt := 132) S dX5_digest_172 (by decide) ?_
                      exact ih132 _ (lv_sub hl [0, 2, 3] rfl) trivial
                    · exact absurd h_13 (by omega)
              · have hl : lv_has ls 5 [(3, .int (zI ((400 : Nat) : Int))), (1, .long (dgO (mSpT (sS c 0 0)) 4 (dgO (mPiT (sS c 0 0)) 7 (dgO (mDoT (sS c 0 0)) 8 (dg (mCnt (sS c 0 0)) 1801 9) (c.1 4).toNat) (c.1 6).toNat) 400)), (0, .ref (b 0))] := hl
                refine lv_iload_n S.1 S.2.1 dX5_digest_132 rfl (lv_at hl 0 rfl) ?_
                refine z_sipush S (by decide) dX5_digest_133 ?_
                refine z_icmp_ge (tgt := 175) S dX5_digest_136 (by decide) (by omega) (fun h_14 => ?_) (fun h_14 => ?_)
                · refine lv_lload_n S.1 S.2.1 dX5_digest_175 rfl (lv_at hl 1 rfl) ?_
                  exact z_retwl S hr hlk (by first | rfl | grind) hP hS dX5_digest_176
                · exact absurd h_14 (by omega)
            · exact absurd h_10 (by omega)
        · exact absurd h_6 (by omega)
    · exact absurd h_2 (by omega)
set_option maxHeartbeats 4000000 in
set_option maxRecDepth 100000 in
theorem m_X5_mean (l : Launch) (D : va_G) (g : ClassId × ClassId × ClassId) (b : Nat → Nat) {B : Int} (c : CS) (hI : IM B c) (hda : CD 14 b) : MDd l yX5_mean cX5_mean 3 (some .double) 1 23 D g (CA 14 b) (MW g b c) [.ref (b 0)] (MW g b (sS c 0 0)) (fun v => if 0 < c.1 5 then alike64 v (FP.ddiv (FP.i2d (zI (mMeW (sS c 0 0)))) (FP.i2d (zI (c.1 5)))) = true else v = FP.dconst0) := by
  refine d_enter RX5 (by decide) rfl (Nat.le_of_ble_eq_true rfl) ?_
  intro p e s0 s d0 m args below meth co hs9 hd0 S hr hlk hK hP ls hl
  have hl : lv_has ls 3 [(0, .ref (b 0))] := hl
  have hs := hI.s
  have hS : va_S (CA 14 b) s.heap s.heap [] := va_S.rf
  refine lv_aload_n S.1 S.2.1 dX5_mean_0 rfl (lv_at hl 0 rfl) ?_
  refine z_iconst S dX5_mean_1 ?_
  refine z_put S inA5 tyX5 tyX5_ok nmX5 hK hP (MW_D hda _) hS 0 rfl rfl 0 (by decide) fl_X5_53 rfl (by decide +kernel) (Nat.le_of_ble_eq_true rfl) dX5_mean_2 (fun H locs hP hS => ?_)
  have hP : va_P D vwCl (MW g b (sS c 0 0)) H := hP
  refine z_iconst S dX5_mean_5 ?_
  refine lv_istore_n (lv' := [(1, .int (zI 0)), (0, .ref (b 0))]) S.1 S.2.1 dX5_mean_6 rfl hl (by decide) rfl (fun ls hl => ?_)
  refine z_iconst S dX5_mean_7 ?_
  refine lv_istore_n (lv' := [(2, .int (zI 0)), (1, .int (zI 0)), (0, .ref (b 0))]) S.1 S.2.1 dX5_mean_8 rfl hl (by decide) rfl (fun ls hl => ?_)
  refine z_for (nL := 3) (400) (fun (k9 : Nat) => [(2, .int (zI (k9 : Int))), (1, .int (zI (sm (fun k => if 0 < c.2 8 k then mWat (sS c 0 0) k (c.1 3).toNat else 0) k9))), (0, .ref (b 0))]) (fun k9 => True) (fun k9 hk9 hJ9 ls hl ih9 => ?_) (fun hJ9 ls hl => ?_) 0 (by omega) trivial ls (lv_sub hl [0, 1, 2] rfl)
  · have hl : lv_has ls 3 [(2, .int (zI (k9 : Int))), (1, .int (zI (sm (fun k => if 0 < c.2 8 k then mWat (sS c 0 0) k (c.1 3).toNat else 0) k9))), (0, .ref (b 0))] := hl
    refine lv_iload_n S.1 S.2.1 dX5_mean_9 rfl (lv_at hl 0 rfl) ?_
    refine z_sipush S (by decide) dX5_mean_10 ?_
    refine z_icmp_ge (tgt := 43) S dX5_mean_13 (by decide) (by omega) (fun h_1 => ?_) (fun h_1 => ?_)
    · exact absurd h_1 (by omega)
    · refine lv_iload_n S.1 S.2.1 dX5_mean_16 rfl (lv_at hl 1 rfl) ?_
      refine lv_aload_n S.1 S.2.1 dX5_mean_17 rfl (lv_at hl 2 rfl) ?_
      refine z_get (v := .ref (b 9)) S inA5 hK hP 0 rfl rfl 14 (by decide) fl_X5_38 rfl dX5_mean_18 ?_
      refine lv_iload_n S.1 S.2.1 dX5_mean_21 rfl (lv_at hl 0 rfl) ?_
      refine z_iald (F := c.2 8) S hK hP 9 rfl (by decide) (by omega) dX5_mean_22 ?_
      have hb_2 := hI.r8 (k9 : Int)
      refine z_if_le (tgt := 34) S dX5_mean_23 (by decide) (by omega) (fun h_3 => ?_) (fun h_3 => ?_)
      · refine z_iconst S dX5_mean_34 ?_
        refine z_iadd S dX5_mean_35 ?_
        refine lv_istore_n (lv' := [(1, .int (zI ((sm (fun k => if 0 < c.2 8 k then mWat (sS c 0 0) k (c.1 3).toNat else 0) k9) + 0))), (2, .int (zI (k9 : Int))), (0, .ref (b 0))]) S.1 S.2.1 dX5_mean_36 rfl hl (by decide) rfl (fun ls hl => ?_)
        refine z_iinc (lv' := [(2, .int (zI ((k9 : Int) + 1))), (1, .int (zI ((sm (fun k => if 0 < c.2 8 k then mWat (sS c 0 0) k (c.1 3).toNat else 0) k9) + 0))), (0, .ref (b 0))]) S dX5_mean_37 hl (k := 1) rfl (by decide) rfl (fun ls hl => ?_)
        refine z_goto (tgt := 9) S dX5_mean_40 (by decide) ?_
        have e_4 : sm (fun k => if 0 < c.2 8 k then mWat (sS c 0 0) k (c.1 3).toNat else 0) (k9 + 1) = (sm (fun k => if 0 < c.2 8 k then mWat (sS c 0 0) k (c.1 3).toNat else 0) k9) + 0 := by first | (show _ + (if _ then _ else _ : Int) = _; rw [if_pos (by omega)]; first | done | rfl) | (show _ + (if _ then _ else _ : Int) = _; rw [if_neg (by omega)]; first | done | exact Int.add_zero _)
        exact ih9 _ (lv_sub hl [0, 1, 2] (by show _ = ([(2, .int (zI ((k9 + 1 : Nat) : Int))), (1, .int (zI (sm (fun k => if 0 < c.2 8 k then mWat (sS c 0 0) k (c.1 3).toNat else 0) (k9 + 1)))), (0, .ref (b 0))] : List (Nat × Value)); rw [e_4]; first | done | rfl)) trivial
      · refine lv_aload_n S.1 S.2.1 dX5_mean_26 rfl (lv_at hl 2 rfl) ?_
        refine lv_iload_n S.1 S.2.1 dX5_mean_27 rfl (lv_at hl 0 rfl) ?_
        refine z_rV (As := [.int (zI (k9 : Int))]) (rest := [.int (zI (sm (fun k => if 0 < c.2 8 k then mWat (sS c 0 0) k (c.1 3).toNat else 0) k9))]) S (m_X5_water l D g b (sS c 0 0) (hI.n0 (v := 0)) (k9 : Int) (by omega)) ml_X5_142 im_X5_water se_X5_water ini_X5 cd_X5_water ds_X5_water ⟨Nat.le_of_ble_eq_true rfl, Nat.le_of_ble_eq_true rfl⟩ hK hP (va_recv hK.1 hP (ci := 5) (q0 := 0) rfl rfl) rfl hl.1 rfl (Nat.le_of_ble_eq_true rfl) ⟨Nat.zero_le _, Nat.zero_le _⟩ dX5_mean_28 ?_
        refine z_goto (tgt := 35) S dX5_mean_31 (by decide) ?_
        refine z_iadd S dX5_mean_35 ?_
        refine lv_istore_n (lv' := [(1, .int (zI ((sm (fun k => if 0 < c.2 8 k then mWat (sS c 0 0) k (c.1 3).toNat else 0) k9) + (mWat (sS c 0 0) (k9 : Int) ((sS c 0 0).1 3).toNat)))), (2, .int (zI (k9 : Int))), (0, .ref (b 0))]) S.1 S.2.1 dX5_mean_36 rfl hl (by decide) rfl (fun ls hl => ?_)
        refine z_iinc (lv' := [(2, .int (zI ((k9 : Int) + 1))), (1, .int (zI ((sm (fun k => if 0 < c.2 8 k then mWat (sS c 0 0) k (c.1 3).toNat else 0) k9) + (mWat (sS c 0 0) (k9 : Int) ((sS c 0 0).1 3).toNat)))), (0, .ref (b 0))]) S dX5_mean_37 hl (k := 1) rfl (by decide) rfl (fun ls hl => ?_)
        refine z_goto (tgt := 9) S dX5_mean_40 (by decide) ?_
        have e_5 : sm (fun k => if 0 < c.2 8 k then mWat (sS c 0 0) k (c.1 3).toNat else 0) (k9 + 1) = (sm (fun k => if 0 < c.2 8 k then mWat (sS c 0 0) k (c.1 3).toNat else 0) k9) + (mWat (sS c 0 0) (k9 : Int) ((sS c 0 0).1 3).toNat) := by first | (show _ + (if _ then _ else _ : Int) = _; rw [if_pos (by omega)]; first | done | rfl) | (show _ + (if _ then _ else _ : Int) = _; rw [if_neg (by omega)]; first | done | exact Int.add_zero _)
        exact ih9 _ (lv_sub hl [0, 1, 2] (by show _ = ([(2, .int (zI ((k9 + 1 : Nat) : Int))), (1, .int (zI (sm (fun k => if 0 < c.2 8 k then mWat (sS c 0 0) k (c.1 3).toNat else 0) (k9 + 1)))), (0, .ref (b 0))] : List (Nat × Value)); rw [e_5]; first | done | rfl)) trivial
  · have hl : lv_has ls 3 [(2, .int (zI ((400 : Nat) : Int))), (1, .int (zI (sm (fun k => if 0 < c.2 8 k then mWat (sS c 0 0) k (c.1 3).toNat else 0) 400))), (0, .ref (b 0))] := hl
    refine lv_iload_n S.1 S.2.1 dX5_mean_9 rfl (lv_at hl 0 rfl) ?_
    refine z_sipush S (by decide) dX5_mean_10 ?_
    refine z_icmp_ge (tgt := 43) S dX5_mean_13 (by decide) (by omega) (fun h_6 => ?_) (fun h_6 => ?_)
    · refine lv_aload_n S.1 S.2.1 dX5_mean_43 rfl (lv_at hl 2 rfl) ?_
      refine z_get (v := .int (zI (c.1 5))) S inA5 hK hP 0 rfl rfl 13 (by decide) fl_X5_96 rfl dX5_mean_44 ?_
      refine z_if_ne (tgt := 54) S dX5_mean_47 (by decide) (by omega) (fun h_7 => ?_) (fun h_7 => ?_)
      · refine lv_iload_n S.1 S.2.1 dX5_mean_54 rfl (lv_at hl 1 rfl) ?_
        refine lv_i2d S.1 S.2.1 dX5_mean_55 ?_
        refine lv_aload_n S.1 S.2.1 dX5_mean_56 rfl (lv_at hl 2 rfl) ?_
        refine z_get (v := .int (zI (c.1 5))) S inA5 hK hP 0 rfl rfl 13 (by decide) fl_X5_96 rfl dX5_mean_57 ?_
        refine lv_i2d S.1 S.2.1 dX5_mean_60 ?_
        have hP9 := hP
        subst hs9
        refine lv_ddiv_any hd0 lw_bits S.1 S.2.1 dX5_mean_61 (fun r9 d9 hal hd9 => ?_)
        have S := z_S9 S d9
        exact d_ret hd9 S hr hlk (by rw [if_pos (by omega)]; exact hal) hP9 hS dX5_mean_62
      · refine lv_dconst0 S.1 S.2.1 dX5_mean_50 ?_
        refine z_goto (tgt := 62) S dX5_mean_51 (by decide) ?_
        have hP9 := hP
        subst hs9
        exact d_ret hd0 S hr hlk (by rw [if_neg (by omega)]) hP9 hS dX5_mean_62
    · exact absurd h_6 (by omega)
set_option maxHeartbeats 4000000 in
set_option maxRecDepth 100000 in
theorem m_X4_mean (l : Launch) (D : va_G) (g : ClassId × ClassId × ClassId) (a : Nat → Nat) {B : Int} (c : CS) (hI : IC B c) (hda : CD 21 a) : MDd l yX4_mean cX4_mean 3 (some .double) 1 21 D g (CA 21 a) (CW g a c) [.ref (a 0)] (CW g a (c)) (fun v => if 0 < c.1 4 then alike64 v (FP.ddiv (FP.i2d (zI (meanW c))) (FP.i2d (zI (c.1 4)))) = true else v = FP.dconst0) := by
  refine d_enter RX4 (by decide) rfl (Nat.le_of_ble_eq_true rfl) ?_
  intro p e s0 s d0 m args below meth co hs9 hd0 S hr hlk hK hP ls hl
  have hl : lv_has ls 3 [(0, .ref (a 0))] := hl
  have hs := hI.s
  have hS : va_S (CA 21 a) s.heap s.heap [] := va_S.rf
  refine z_iconst S dX4_mean_0 ?_
  refine lv_istore_n (lv' := [(1, .int (zI 0)), (0, .ref (a 0))]) S.1 S.2.1 dX4_mean_1 rfl hl (by decide) rfl (fun ls hl => ?_)
  refine z_iconst S dX4_mean_2 ?_
  refine lv_istore_n (lv' := [(2, .int (zI 0)), (1, .int (zI 0)), (0, .ref (a 0))]) S.1 S.2.1 dX4_mean_3 rfl hl (by decide) rfl (fun ls hl => ?_)
  refine z_for (nL := 3) (400) (fun (k4 : Nat) => [(2, .int (zI (k4 : Int))), (1, .int (zI (sm (fun j => if c.2 8 j ≠ -1 then c.2 3 j else 0) k4))), (0, .ref (a 0))]) (fun k4 => True) (fun k4 hk4 hJ4 ls hl ih4 => ?_) (fun hJ4 ls hl => ?_) 0 (by omega) trivial ls (lv_sub hl [0, 1, 2] rfl)
  · have hl : lv_has ls 3 [(2, .int (zI (k4 : Int))), (1, .int (zI (sm (fun j => if c.2 8 j ≠ -1 then c.2 3 j else 0) k4))), (0, .ref (a 0))] := hl
    refine lv_iload_n S.1 S.2.1 dX4_mean_4 rfl (lv_at hl 0 rfl) ?_
    refine z_sipush S (by decide) dX4_mean_5 ?_
    refine z_icmp_ge (tgt := 40) S dX4_mean_8 (by decide) (by omega) (fun h_1 => ?_) (fun h_1 => ?_)
    · exact absurd h_1 (by omega)
    · refine lv_aload_n S.1 S.2.1 dX4_mean_11 rfl (lv_at hl 2 rfl) ?_
      refine z_get (v := .ref (a 3)) S inA4 hK hP 0 rfl rfl 2 (by decide) fl_X4_26 rfl dX4_mean_12 ?_
      refine lv_iload_n S.1 S.2.1 dX4_mean_15 rfl (lv_at hl 0 rfl) ?_
      refine z_rV (As := [.int (zI (k4 : Int))]) (rest := []) S (m_X1_standsAt l D g a c hI (k4 : Int) (by omega)) ml_X4_121 im_X1_standsAt se_X1_standsAt ini_X1 cd_X1_standsAt ds_X1_standsAt ⟨Nat.le_of_ble_eq_true rfl, Nat.le_of_ble_eq_true rfl⟩ hK hP (va_recv hK.1 hP (ci := 1) (q0 := 3) rfl rfl) rfl hl.1 rfl (Nat.le_of_ble_eq_true rfl) ⟨Nat.zero_le _, Nat.zero_le _⟩ dX4_mean_16 ?_
      refine z_ifb_eq (tgt := 34) S dX4_mean_19 (by decide) (fun h_2 => ?_) (fun h_2 => ?_)
      · refine z_iinc (lv' := [(2, .int (zI ((k4 : Int) + 1))), (1, .int (zI (sm (fun j => if c.2 8 j ≠ -1 then c.2 3 j else 0) k4))), (0, .ref (a 0))]) S dX4_mean_34 hl (k := 0) rfl (by decide) rfl (fun ls hl => ?_)
        refine z_goto (tgt := 4) S dX4_mean_37 (by decide) ?_
        have e_3 : sm (fun j => if c.2 8 j ≠ -1 then c.2 3 j else 0) (k4 + 1) = sm (fun j => if c.2 8 j ≠ -1 then c.2 3 j else 0) k4 := by first | (show _ + (if _ then _ else _ : Int) = _; rw [if_pos (by omega)]; first | done | rfl) | (show _ + (if _ then _ else _ : Int) = _; rw [if_neg (by omega)]; first | done | exact Int.add_zero _)
        exact ih4 _ (lv_sub hl [0, 1, 2] (by show _ = ([(2, .int (zI ((k4 + 1 : Nat) : Int))), (1, .int (zI (sm (fun j => if c.2 8 j ≠ -1 then c.2 3 j else 0) (k4 + 1)))), (0, .ref (a 0))] : List (Nat × Value)); rw [e_3]; first | done | rfl)) trivial
      · refine lv_iload_n S.1 S.2.1 dX4_mean_22 rfl (lv_at hl 1 rfl) ?_
        refine lv_aload_n S.1 S.2.1 dX4_mean_23 rfl (lv_at hl 2 rfl) ?_
        refine z_get (v := .ref (a 1)) S inA4 hK hP 0 rfl rfl 0 (by decide) fl_X4_12 rfl dX4_mean_24 ?_
        refine z_get (v := .ref (a 8)) S inA3 hK hP 1 rfl rfl 4 (by decide) fl_X4_229 rfl dX4_mean_27 ?_
        refine lv_iload_n S.1 S.2.1 dX4_mean_30 rfl (lv_at hl 0 rfl) ?_
        refine z_iald S hK hP 8 rfl (by decide) (by omega) dX4_mean_31 ?_
        have hb_4 := hI.r3 (k4 : Int)
        refine z_iadd S dX4_mean_32 ?_
        refine lv_istore_n (lv' := [(1, .int (zI ((sm (fun j => if c.2 8 j ≠ -1 then c.2 3 j else 0) k4) + (c.2 3 (k4 : Int))))), (2, .int (zI (k4 : Int))), (0, .ref (a 0))]) S.1 S.2.1 dX4_mean_33 rfl hl (by decide) rfl (fun ls hl => ?_)
        refine z_iinc (lv' := [(2, .int (zI ((k4 : Int) + 1))), (1, .int (zI ((sm (fun j => if c.2 8 j ≠ -1 then c.2 3 j else 0) k4) + (c.2 3 (k4 : Int))))), (0, .ref (a 0))]) S dX4_mean_34 hl (k := 1) rfl (by decide) rfl (fun ls hl => ?_)
        refine z_goto (tgt := 4) S dX4_mean_37 (by decide) ?_
        have e_5 : sm (fun j => if c.2 8 j ≠ -1 then c.2 3 j else 0) (k4 + 1) = (sm (fun j => if c.2 8 j ≠ -1 then c.2 3 j else 0) k4) + (c.2 3 (k4 : Int)) := by first | (show _ + (if _ then _ else _ : Int) = _; rw [if_pos (by omega)]; first | done | rfl) | (show _ + (if _ then _ else _ : Int) = _; rw [if_neg (by omega)]; first | done | exact Int.add_zero _)
        exact ih4 _ (lv_sub hl [0, 1, 2] (by show _ = ([(2, .int (zI ((k4 + 1 : Nat) : Int))), (1, .int (zI (sm (fun j => if c.2 8 j ≠ -1 then c.2 3 j else 0) (k4 + 1)))), (0, .ref (a 0))] : List (Nat × Value)); rw [e_5]; first | done | rfl)) trivial
  · have hl : lv_has ls 3 [(2, .int (zI ((400 : Nat) : Int))), (1, .int (zI (sm (fun j => if c.2 8 j ≠ -1 then c.2 3 j else 0) 400))), (0, .ref (a 0))] := hl
    refine lv_iload_n S.1 S.2.1 dX4_mean_4 rfl (lv_at hl 0 rfl) ?_
    refine z_sipush S (by decide) dX4_mean_5 ?_
    refine z_icmp_ge (tgt := 40) S dX4_mean_8 (by decide) (by omega) (fun h_6 => ?_) (fun h_6 => ?_)
    · refine lv_aload_n S.1 S.2.1 dX4_mean_40 rfl (lv_at hl 2 rfl) ?_
      refine z_get (v := .ref (a 3)) S inA4 hK hP 0 rfl rfl 2 (by decide) fl_X4_26 rfl dX4_mean_41 ?_
      refine z_get (v := .int (zI (c.1 4))) S inA1 hK hP 3 rfl rfl 0 (by decide) fl_X4_232 rfl dX4_mean_44 ?_
      refine z_if_le (tgt := 64) S dX4_mean_47 (by decide) (by omega) (fun h_7 => ?_) (fun h_7 => ?_)
      · refine lv_dconst0 S.1 S.2.1 dX4_mean_64 ?_
        have hP9 := hP
        subst hs9
        exact d_ret hd0 S hr hlk (by rw [if_neg (by omega)]) hP9 hS dX4_mean_65
      · refine lv_iload_n S.1 S.2.1 dX4_mean_50 rfl (lv_at hl 1 rfl) ?_
        refine lv_i2d S.1 S.2.1 dX4_mean_51 ?_
        refine lv_aload_n S.1 S.2.1 dX4_mean_52 rfl (lv_at hl 2 rfl) ?_
        refine z_get (v := .ref (a 3)) S inA4 hK hP 0 rfl rfl 2 (by decide) fl_X4_26 rfl dX4_mean_53 ?_
        refine z_get (v := .int (zI (c.1 4))) S inA1 hK hP 3 rfl rfl 0 (by decide) fl_X4_232 rfl dX4_mean_56 ?_
        refine lv_i2d S.1 S.2.1 dX4_mean_59 ?_
        have hP9 := hP
        subst hs9
        refine lv_ddiv_any hd0 lw_bits S.1 S.2.1 dX4_mean_60 (fun r9 d9 hal hd9 => ?_)
        have S := z_S9 S d9
        refine z_goto (tgt := 65) S dX4_mean_61 (by decide) ?_
        exact d_ret hd9 S hr hlk (by rw [if_pos (by omega)]; exact hal) hP9 hS dX4_mean_65
    · exact absurd h_6 (by omega)
