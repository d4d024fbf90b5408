set_option maxHeartbeats 4000000 in
set_option maxRecDepth 100000 in
theorem m_X3_cover (l : Launch) (D : va_G) (g : ClassId × ClassId × ClassId) (a : Nat → Nat) {B : Int} (c : CS) (hI : IC B c) (hda : CD 21 a) (v : Int) (x : Int) (y : Int) (h0 : 0 ≤ v ∧ v < 6) (h1 : 0 ≤ x ∧ x ≤ 19) (h2 : 0 ≤ y ∧ y ≤ 19) : WRv l yX3_cover cX3_cover 6 none 3 68 D g (CA 21 a) (CW g a c) [.ref (a 1), .int (zI v), .int (zI x), .int (zI y)] (CW g a (cov c v x y)) := by
  refine z_enter RX3 (by decide) rfl (Nat.le_of_ble_eq_true rfl) ?_
  intro p e s m args below meth co S hr hlk hK hP ls hl
  have hl : lv_has ls 6 [(0, .ref (a 1)), (1, .int (zI v)), (2, .int (zI x)), (3, .int (zI y))] := hl
  have hs := hI.s
  have hS : va_S (CA 21 a) s.heap s.heap [] := va_S.rf
  refine lv_aload_n S.1 S.2.1 dX3_cover_0 rfl (lv_at hl 0 rfl) ?_
  refine lv_iload_n S.1 S.2.1 dX3_cover_1 rfl (lv_at hl 1 rfl) ?_
  refine lv_iload_n S.1 S.2.1 dX3_cover_2 rfl (lv_at hl 2 rfl) ?_
  refine lv_iload_n S.1 S.2.1 dX3_cover_3 rfl (lv_at hl 3 rfl) ?_
  refine z_iconst S dX3_cover_4 ?_
  refine z_wVv (As := [.int (zI v), .int (zI x), .int (zI y), .int (zI 2)]) (rest := []) S (m_X3_raise l D g a c hI hda v x y 2 (by omega) (by omega) (by omega)) ml_X3_50 im_X3_raise se_X3_raise ini_X3 cd_X3_raise ds_X3_raise ⟨Nat.le_of_ble_eq_true rfl, Nat.le_of_ble_eq_true rfl⟩ hK hP (va_recv hK.1 hP (ci := 3) (q0 := 1) rfl rfl) rfl hl.1 rfl (Nat.le_of_ble_eq_true rfl) ⟨Nat.zero_le _, Nat.zero_le _⟩ hS (fun _ h => h) dX3_cover_5 (fun H locs hP _ _ hS => ?_)
  refine lv_aload_n S.1 S.2.1 dX3_cover_8 rfl (lv_at hl 0 rfl) ?_
  refine lv_iload_n S.1 S.2.1 dX3_cover_9 rfl (lv_at hl 1 rfl) ?_
  refine lv_iload_n S.1 S.2.1 dX3_cover_10 rfl (lv_at hl 2 rfl) ?_
  refine z_iconst S dX3_cover_11 ?_
  refine z_isub S dX3_cover_12 ?_
  refine lv_iload_n S.1 S.2.1 dX3_cover_13 rfl (lv_at hl 3 rfl) ?_
  refine z_iconst S dX3_cover_14 ?_
  refine z_wVv (As := [.int (zI v), .int (zI (x - 1)), .int (zI y), .int (zI 1)]) (rest := []) S (m_X3_raise l D g a (rse c v x y 2) (rse_IC hI v x y 2 (by omega)) hda v (x - 1) y 1 (by omega) (by omega) (by omega)) ml_X3_50 im_X3_raise se_X3_raise ini_X3 cd_X3_raise ds_X3_raise ⟨Nat.le_of_ble_eq_true rfl, Nat.le_of_ble_eq_true rfl⟩ hK hP (va_recv hK.1 hP (ci := 3) (q0 := 1) rfl rfl) rfl hl.1 rfl (Nat.le_of_ble_eq_true rfl) ⟨Nat.zero_le _, Nat.zero_le _⟩ hS (fun _ h => h) dX3_cover_15 (fun H locs hP _ _ hS => ?_)
  refine lv_aload_n S.1 S.2.1 dX3_cover_18 rfl (lv_at hl 0 rfl) ?_
  refine lv_iload_n S.1 S.2.1 dX3_cover_19 rfl (lv_at hl 1 rfl) ?_
  refine lv_iload_n S.1 S.2.1 dX3_cover_20 rfl (lv_at hl 2 rfl) ?_
  refine z_iconst S dX3_cover_21 ?_
  refine z_iadd S dX3_cover_22 ?_
  refine lv_iload_n S.1 S.2.1 dX3_cover_23 rfl (lv_at hl 3 rfl) ?_
  refine z_iconst S dX3_cover_24 ?_
  refine z_wVv (As := [.int (zI v), .int (zI (x + 1)), .int (zI y), .int (zI 1)]) (rest := []) S (m_X3_raise l D g a (rse (rse c v x y 2) v (x - 1) y 1) (rse_IC (rse_IC hI v x y 2 (by omega)) v (x - 1) y 1 (by omega)) hda v (x + 1) y 1 (by omega) (by omega) (by omega)) ml_X3_50 im_X3_raise se_X3_raise ini_X3 cd_X3_raise ds_X3_raise ⟨Nat.le_of_ble_eq_true rfl, Nat.le_of_ble_eq_true rfl⟩ hK hP (va_recv hK.1 hP (ci := 3) (q0 := 1) rfl rfl) rfl hl.1 rfl (Nat.le_of_ble_eq_true rfl) ⟨Nat.zero_le _, Nat.zero_le _⟩ hS (fun _ h => h) dX3_cover_25 (fun H locs hP _ _ hS => ?_)
  refine lv_aload_n S.1 S.2.1 dX3_cover_28 rfl (lv_at hl 0 rfl) ?_
  refine lv_iload_n S.1 S.2.1 dX3_cover_29 rfl (lv_at hl 1 rfl) ?_
  refine lv_iload_n S.1 S.2.1 dX3_cover_30 rfl (lv_at hl 2 rfl) ?_
  refine lv_iload_n S.1 S.2.1 dX3_cover_31 rfl (lv_at hl 3 rfl) ?_
  refine z_iconst S dX3_cover_32 ?_
  refine z_isub S dX3_cover_33 ?_
  refine z_iconst S dX3_cover_34 ?_
  refine z_wVv (As := [.int (zI v), .int (zI x), .int (zI (y - 1)), .int (zI 1)]) (rest := []) S (m_X3_raise l D g a (rse (rse (rse c v x y 2) v (x - 1) y 1) v (x + 1) y 1) (rse_IC (rse_IC (rse_IC hI v x y 2 (by omega)) v (x - 1) y 1 (by omega)) v (x + 1) y 1 (by omega)) hda v x (y - 1) 1 (by omega) (by omega) (by omega)) ml_X3_50 im_X3_raise se_X3_raise ini_X3 cd_X3_raise ds_X3_raise ⟨Nat.le_of_ble_eq_true rfl, Nat.le_of_ble_eq_true rfl⟩ hK hP (va_recv hK.1 hP (ci := 3) (q0 := 1) rfl rfl) rfl hl.1 rfl (Nat.le_of_ble_eq_true rfl) ⟨Nat.zero_le _, Nat.zero_le _⟩ hS (fun _ h => h) dX3_cover_35 (fun H locs hP _ _ hS => ?_)
  refine lv_aload_n S.1 S.2.1 dX3_cover_38 rfl (lv_at hl 0 rfl) ?_
  refine lv_iload_n S.1 S.2.1 dX3_cover_39 rfl (lv_at hl 1 rfl) ?_
  refine lv_iload_n S.1 S.2.1 dX3_cover_40 rfl (lv_at hl 2 rfl) ?_
  refine lv_iload_n S.1 S.2.1 dX3_cover_41 rfl (lv_at hl 3 rfl) ?_
  refine z_iconst S dX3_cover_42 ?_
  refine z_iadd S dX3_cover_43 ?_
  refine z_iconst S dX3_cover_44 ?_
  refine z_wVv (As := [.int (zI v), .int (zI x), .int (zI (y + 1)), .int (zI 1)]) (rest := []) S (m_X3_raise l D g a (rse (rse (rse (rse c v x y 2) v (x - 1) y 1) v (x + 1) y 1) v x (y - 1) 1) (rse_IC (rse_IC (rse_IC (rse_IC hI v x y 2 (by omega)) v (x - 1) y 1 (by omega)) v (x + 1) y 1 (by omega)) v x (y - 1) 1 (by omega)) hda v x (y + 1) 1 (by omega) (by omega) (by omega)) ml_X3_50 im_X3_raise se_X3_raise ini_X3 cd_X3_raise ds_X3_raise ⟨Nat.le_of_ble_eq_true rfl, Nat.le_of_ble_eq_true rfl⟩ hK hP (va_recv hK.1 hP (ci := 3) (q0 := 1) rfl rfl) rfl hl.1 rfl (Nat.le_of_ble_eq_true rfl) ⟨Nat.zero_le _, Nat.zero_le _⟩ hS (fun _ h => h) dX3_cover_45 (fun H locs hP _ _ hS => ?_)
  have hP : va_P D vwCl (CW g a (cov5 c v x y)) H := hP
  refine lv_iload_n S.1 S.2.1 dX3_cover_48 rfl (lv_at hl 2 rfl) ?_
  refine lv_iload_n S.1 S.2.1 dX3_cover_49 rfl (lv_at hl 3 rfl) ?_
  refine z_rN (As := [.int (zI x), .int (zI y)]) (rest := []) S (m_X4_spotAt l D g x y) nw_X3_54 sm_X4_spotAt ini_X4 cd_X4_spotAt ds_X4_spotAt ⟨Nat.le_of_ble_eq_true rfl, Nat.le_of_ble_eq_true rfl⟩ hK va_P_nil rfl hl.1 rfl (Nat.le_of_ble_eq_true rfl) ⟨Nat.zero_le _, Nat.zero_le _⟩ dX3_cover_50 ?_
  refine lv_istore (lv' := [(4, .int (zI (y * 20 + x))), (0, .ref (a 1)), (1, .int (zI v)), (2, .int (zI x)), (3, .int (zI y))]) S.1 S.2.1 dX3_cover_53 hl (by decide) rfl (fun ls hl => ?_)
  refine lv_aload_n S.1 S.2.1 dX3_cover_55 rfl (lv_at hl 1 rfl) ?_
  refine z_get (v := .ref (a 8)) S inA3 hK hP 1 rfl rfl 4 (by decide) fl_X3_25 rfl dX3_cover_56 ?_
  refine lv_iload S.1 S.2.1 dX3_cover_59 (lv_at hl 0 rfl) ?_
  refine lv_dup2_11 S.1 S.2.1 dX3_cover_61 rfl rfl ?_
  refine z_iald S hK hP 8 rfl (by decide) (by omega) dX3_cover_62 ?_
  have hb_1 := (cov5_IC hI v x y).r3 (y * 20 + x)
  refine lv_aload_n S.1 S.2.1 dX3_cover_63 rfl (lv_at hl 1 rfl) ?_
  refine z_get (v := .ref (a 6)) S inA3 hK hP 1 rfl rfl 2 (by decide) fl_X3_19 rfl dX3_cover_64 ?_
  refine lv_iload_n S.1 S.2.1 dX3_cover_67 rfl (lv_at hl 2 rfl) ?_
  refine z_iald S hK hP 6 rfl (by decide) (by omega) dX3_cover_68 ?_
  have hb_2 := (cov5_IC hI v x y).r1 v
  refine z_iadd S dX3_cover_69 ?_
  refine z_iast S hK hP (CW_D hda _) hS 8 rfl (by decide) (by omega) dX3_cover_70 (fun H locs hP hS => ?_)
  have hP : va_P D vwCl (CW g a (sA (cov5 c v x y) 3 (upZ ((cov5 c v x y).2 3) (y * 20 + x) (((cov5 c v x y).2 3 (y * 20 + x)) + ((cov5 c v x y).2 1 v))))) H := hP
  refine lv_aload_n S.1 S.2.1 dX3_cover_71 rfl (lv_at hl 1 rfl) ?_
  refine z_get (v := .ref (a 9)) S inA3 hK hP 1 rfl rfl 5 (by decide) fl_X3_28 rfl dX3_cover_72 ?_
  refine lv_iload S.1 S.2.1 dX3_cover_75 (lv_at hl 0 rfl) ?_
  refine z_iald (F := (cov5 c v x y).2 4) S hK hP 9 rfl (by decide) (by omega) dX3_cover_77 ?_
  have hb_3 := (cov5_IC hI v x y).r4 (y * 20 + x)
  refine z_if_eq (tgt := 97) S dX3_cover_78 (by decide) (by omega) (fun h_4 => ?_) (fun h_4 => ?_)
  · refine z_iconst S dX3_cover_97 ?_
    refine z_goto (tgt := 102) S dX3_cover_98 (by decide) ?_
    refine lv_istore (lv' := [(5, .int (zI 1)), (4, .int (zI (y * 20 + x))), (0, .ref (a 1)), (1, .int (zI v)), (2, .int (zI x)), (3, .int (zI y))]) S.1 S.2.1 dX3_cover_102 hl (by decide) rfl (fun ls hl => ?_)
    refine lv_aload_n S.1 S.2.1 dX3_cover_104 rfl (lv_at hl 2 rfl) ?_
    refine z_get (v := .ref (a 9)) S inA3 hK hP 1 rfl rfl 5 (by decide) fl_X3_28 rfl dX3_cover_105 ?_
    refine lv_iload S.1 S.2.1 dX3_cover_108 (lv_at hl 1 rfl) ?_
    refine lv_iload S.1 S.2.1 dX3_cover_110 (lv_at hl 0 rfl) ?_
    refine z_if_eq (tgt := 124) S dX3_cover_112 (by decide) (by omega) (fun h_5 => ?_) (fun h_5 => ?_)
    · exact absurd h_5 (by omega)
    · refine lv_aload_n S.1 S.2.1 dX3_cover_115 rfl (lv_at hl 2 rfl) ?_
      refine z_get (v := .ref (a 5)) S inA3 hK hP 1 rfl rfl 1 (by decide) fl_X3_15 rfl dX3_cover_116 ?_
      refine lv_iload_n S.1 S.2.1 dX3_cover_119 rfl (lv_at hl 3 rfl) ?_
      refine z_iald (F := (cov5 c v x y).2 0) S hK hP 5 rfl (by decide) (by omega) dX3_cover_120 ?_
      have hb_6 := (cov5_IC hI v x y).r0 v
      refine z_goto (tgt := 131) S dX3_cover_121 (by decide) ?_
      refine z_iast (F := (cov5 c v x y).2 4) S hK hP (CW_D hda _) hS 9 rfl (by decide) (by omega) dX3_cover_131 (fun H locs hP hS => ?_)
      have hP : va_P D vwCl (CW g a (sA (sA (cov5 c v x y) 3 (upZ ((cov5 c v x y).2 3) (y * 20 + x) (((cov5 c v x y).2 3 (y * 20 + x)) + ((cov5 c v x y).2 1 v)))) 4 (upZ ((cov5 c v x y).2 4) (y * 20 + x) ((cov5 c v x y).2 0 v)))) H := hP
      have hw : CW g a (sA (sA (cov5 c v x y) 3 (upZ ((cov5 c v x y).2 3) (y * 20 + x) (((cov5 c v x y).2 3 (y * 20 + x)) + ((cov5 c v x y).2 1 v)))) 4 (upZ ((cov5 c v x y).2 4) (y * 20 + x) ((cov5 c v x y).2 0 v))) = CW g a (cov c v x y) := by first | rfl | rw [cov, covW, shlw, if_pos (by omega)] | rw [cov, covW, shlw, if_neg (by omega)]
      rw [hw] at hP
      exact z_retv S hr hlk hP hS dX3_cover_132
  · refine lv_aload_n S.1 S.2.1 dX3_cover_81 rfl (lv_at hl 1 rfl) ?_
    refine z_get (v := .ref (a 5)) S inA3 hK hP 1 rfl rfl 1 (by decide) fl_X3_15 rfl dX3_cover_82 ?_
    refine lv_iload_n S.1 S.2.1 dX3_cover_85 rfl (lv_at hl 2 rfl) ?_
    refine z_iald (F := (cov5 c v x y).2 0) S hK hP 5 rfl (by decide) (by omega) dX3_cover_86 ?_
    have hb_7 := (cov5_IC hI v x y).r0 v
    refine lv_aload_n S.1 S.2.1 dX3_cover_87 rfl (lv_at hl 1 rfl) ?_
    refine z_get (v := .ref (a 9)) S inA3 hK hP 1 rfl rfl 5 (by decide) fl_X3_28 rfl dX3_cover_88 ?_
    refine lv_iload S.1 S.2.1 dX3_cover_91 (lv_at hl 0 rfl) ?_
    refine z_iald (F := (cov5 c v x y).2 4) S hK hP 9 rfl (by decide) (by omega) dX3_cover_93 ?_
    have hb_8 := (cov5_IC hI v x y).r4 (y * 20 + x)
    refine z_icmp_ge (tgt := 101) S dX3_cover_94 (by decide) (by omega) (fun h_9 => ?_) (fun h_9 => ?_)
    · refine z_iconst S dX3_cover_101 ?_
      refine lv_istore (lv' := [(5, .int (zI 0)), (4, .int (zI (y * 20 + x))), (0, .ref (a 1)), (1, .int (zI v)), (2, .int (zI x)), (3, .int (zI y))]) S.1 S.2.1 dX3_cover_102 hl (by decide) rfl (fun ls hl => ?_)
      refine lv_aload_n S.1 S.2.1 dX3_cover_104 rfl (lv_at hl 2 rfl) ?_
      refine z_get (v := .ref (a 9)) S inA3 hK hP 1 rfl rfl 5 (by decide) fl_X3_28 rfl dX3_cover_105 ?_
      refine lv_iload S.1 S.2.1 dX3_cover_108 (lv_at hl 1 rfl) ?_
      refine lv_iload S.1 S.2.1 dX3_cover_110 (lv_at hl 0 rfl) ?_
      refine z_if_eq (tgt := 124) S dX3_cover_112 (by decide) (by omega) (fun h_10 => ?_) (fun h_10 => ?_)
      · refine lv_aload_n S.1 S.2.1 dX3_cover_124 rfl (lv_at hl 2 rfl) ?_
        refine z_get (v := .ref (a 9)) S inA3 hK hP 1 rfl rfl 5 (by decide) fl_X3_28 rfl dX3_cover_125 ?_
        refine lv_iload S.1 S.2.1 dX3_cover_128 (lv_at hl 1 rfl) ?_
        refine z_iald (F := (cov5 c v x y).2 4) S hK hP 9 rfl (by decide) (by omega) dX3_cover_130 ?_
        have hb_11 := (cov5_IC hI v x y).r4 (y * 20 + x)
        refine z_iast (F := (cov5 c v x y).2 4) S hK hP (CW_D hda _) hS 9 rfl (by decide) (by omega) dX3_cover_131 (fun H locs hP hS => ?_)
        have hP : va_P D vwCl (CW g a (sA (sA (cov5 c v x y) 3 (upZ ((cov5 c v x y).2 3) (y * 20 + x) (((cov5 c v x y).2 3 (y * 20 + x)) + ((cov5 c v x y).2 1 v)))) 4 (upZ ((cov5 c v x y).2 4) (y * 20 + x) ((cov5 c v x y).2 4 (y * 20 + x))))) H := hP
        have hw : CW g a (sA (sA (cov5 c v x y) 3 (upZ ((cov5 c v x y).2 3) (y * 20 + x) (((cov5 c v x y).2 3 (y * 20 + x)) + ((cov5 c v x y).2 1 v)))) 4 (upZ ((cov5 c v x y).2 4) (y * 20 + x) ((cov5 c v x y).2 4 (y * 20 + x)))) = CW g a (cov c v x y) := by first | rfl | rw [cov, covW, shlw, if_pos (by omega)] | rw [cov, covW, shlw, if_neg (by omega)]
        rw [hw] at hP
        exact z_retv S hr hlk hP hS dX3_cover_132
      · exact absurd h_10 (by omega)
    · refine z_iconst S dX3_cover_97 ?_
      refine z_goto (tgt := 102) S dX3_cover_98 (by decide) ?_
      refine lv_istore (lv' := [(5, .int (zI 1)), (4, .int (zI (y * 20 + x))), (0, .ref (a 1)), (1, .int (zI v)), (2, .int (zI x)), (3, .int (zI y))]) S.1 S.2.1 dX3_cover_102 hl (by decide) rfl (fun ls hl => ?_)
      refine lv_aload_n S.1 S.2.1 dX3_cover_104 rfl (lv_at hl 2 rfl) ?_
      refine z_get (v := .ref (a 9)) S inA3 hK hP 1 rfl rfl 5 (by decide) fl_X3_28 rfl dX3_cover_105 ?_
      refine lv_iload S.1 S.2.1 dX3_cover_108 (lv_at hl 1 rfl) ?_
      refine lv_iload S.1 S.2.1 dX3_cover_110 (lv_at hl 0 rfl) ?_
      refine z_if_eq (tgt := 124) S dX3_cover_112 (by decide) (by omega) (fun h_12 => ?_) (fun h_12 => ?_)
      · exact absurd h_12 (by omega)
      · refine lv_aload_n S.1 S.2.1 dX3_cover_115 rfl (lv_at hl 2 rfl) ?_
        refine z_get (v := .ref (a 5)) S inA3 hK hP 1 rfl rfl 1 (by decide) fl_X3_15 rfl dX3_cover_116 ?_
        refine lv_iload_n S.1 S.2.1 dX3_cover_119 rfl (lv_at hl 3 rfl) ?_
        refine z_iald (F := (cov5 c v x y).2 0) S hK hP 5 rfl (by decide) (by omega) dX3_cover_120 ?_
        have hb_13 := (cov5_IC hI v x y).r0 v
        refine z_goto (tgt := 131) S dX3_cover_121 (by decide) ?_
        refine z_iast (F := (cov5 c v x y).2 4) S hK hP (CW_D hda _) hS 9 rfl (by decide) (by omega) dX3_cover_131 (fun H locs hP hS => ?_)
        have hP : va_P D vwCl (CW g a (sA (sA (cov5 c v x y) 3 (upZ ((cov5 c v x y).2 3) (y * 20 + x) (((cov5 c v x y).2 3 (y * 20 + x)) + ((cov5 c v x y).2 1 v)))) 4 (upZ ((cov5 c v x y).2 4) (y * 20 + x) ((cov5 c v x y).2 0 v)))) H := hP
        have hw : CW g a (sA (sA (cov5 c v x y) 3 (upZ ((cov5 c v x y).2 3) (y * 20 + x) (((cov5 c v x y).2 3 (y * 20 + x)) + ((cov5 c v x y).2 1 v)))) 4 (upZ ((cov5 c v x y).2 4) (y * 20 + x) ((cov5 c v x y).2 0 v))) = CW g a (cov c v x y) := by first | rfl | rw [cov, covW, shlw, if_pos (by omega)] | rw [cov, covW, shlw, if_neg (by omega)]
        rw [hw] at hP
        exact z_retv S hr hlk hP hS dX3_cover_132
set_option maxHeartbeats 4000000 in
set_option maxRecDepth 100000 in
theorem m_X3_lay (l : Launch) (D : va_G) (g : ClassId × ClassId × ClassId) (a : Nat → Nat) {B : Int} (c : CS) (hI : IC B c) (hda : CD 21 a) (v : Int) (x : Int) (y : Int) (tx : Int) (ty : Int) (h0 : 0 ≤ v ∧ v < 6) (h1 : (0 ≤ x ∧ x ≤ 19) ∧ (0 ≤ y ∧ y ≤ 19) ∧ (0 ≤ tx ∧ tx ≤ 19) ∧ 0 ≤ ty ∧ ty ≤ 19) (h2 : x = tx ∨ y = ty ∨ ab (tx - x) = ab (ty - y)) (h3 : B ≤ 900000000) : WRv l yX3_lay cX3_lay 10 none 4 93 D g (CA 21 a) (CW g a c) [.ref (a 1), .int (zI v), .int (zI x), .int (zI y), .int (zI tx), .int (zI ty)] (CW g a (lay c v x y (sgn (tx - x)) (sgn (ty - y)) (max (ab (tx - x)) (ab (ty - y)) + 1).toNat)) := by
  refine z_enter RX3 (by decide) rfl (Nat.le_of_ble_eq_true rfl) ?_
  intro p e s m args below meth co S hr hlk hK hP ls hl
  have hl : lv_has ls 10 [(0, .ref (a 1)), (1, .int (zI v)), (2, .int (zI x)), (3, .int (zI y)), (4, .int (zI tx)), (5, .int (zI ty))] := hl
  have hs := hI.s
  have hS : va_S (CA 21 a) s.heap s.heap [] := va_S.rf
  have hb1 := ab_le (x := tx - x) (n := 19) (by omega)
  have hb2 := ab_le (x := ty - y) (n := 19) (by omega)
  refine lv_iload S.1 S.2.1 dX3_lay_0 (lv_at hl 4 rfl) ?_
  refine lv_iload_n S.1 S.2.1 dX3_lay_2 rfl (lv_at hl 2 rfl) ?_
  refine z_isub S dX3_lay_3 ?_
  refine z_rS (As := [.int (zI (tx - x))]) (rest := []) S (m_J6_signum_0f7a4 l D g (tx - x) (by omega)) ml_X3_31 sm_J6_signum_0f7a4 ini_J6 cd_J6_signum_0f7a4 ds_J6_signum_0f7a4 ⟨Nat.le_of_ble_eq_true rfl, Nat.le_of_ble_eq_true rfl⟩ hK va_P_nil rfl hl.1 rfl (Nat.le_of_ble_eq_true rfl) ⟨Nat.zero_le _, Nat.zero_le _⟩ dX3_lay_4 ?_
  refine lv_istore (lv' := [(6, .int (zI (sgn (tx - x)))), (0, .ref (a 1)), (1, .int (zI v)), (2, .int (zI x)), (3, .int (zI y)), (4, .int (zI tx)), (5, .int (zI ty))]) S.1 S.2.1 dX3_lay_7 hl (by decide) rfl (fun ls hl => ?_)
  refine lv_iload S.1 S.2.1 dX3_lay_9 (lv_at hl 6 rfl) ?_
  refine lv_iload_n S.1 S.2.1 dX3_lay_11 rfl (lv_at hl 4 rfl) ?_
  refine z_isub S dX3_lay_12 ?_
  refine z_rS (As := [.int (zI (ty - y))]) (rest := []) S (m_J6_signum_0f7a4 l D g (ty - y) (by omega)) ml_X3_31 sm_J6_signum_0f7a4 ini_J6 cd_J6_signum_0f7a4 ds_J6_signum_0f7a4 ⟨Nat.le_of_ble_eq_true rfl, Nat.le_of_ble_eq_true rfl⟩ hK va_P_nil rfl hl.1 rfl (Nat.le_of_ble_eq_true rfl) ⟨Nat.zero_le _, Nat.zero_le _⟩ dX3_lay_13 ?_
  refine lv_istore (lv' := [(7, .int (zI (sgn (ty - y)))), (6, .int (zI (sgn (tx - x)))), (0, .ref (a 1)), (1, .int (zI v)), (2, .int (zI x)), (3, .int (zI y)), (4, .int (zI tx)), (5, .int (zI ty))]) S.1 S.2.1 dX3_lay_16 hl (by decide) rfl (fun ls hl => ?_)
  refine lv_iload S.1 S.2.1 dX3_lay_18 (lv_at hl 6 rfl) ?_
  refine lv_iload_n S.1 S.2.1 dX3_lay_20 rfl (lv_at hl 4 rfl) ?_
  refine z_isub S dX3_lay_21 ?_
  refine z_abs S ml_X3_37 hl.1 (Nat.le_of_ble_eq_true rfl) (Nat.le_of_ble_eq_true rfl) ⟨Nat.zero_le _, Nat.zero_le _⟩ (by omega) dX3_lay_22 ?_
  refine lv_iload S.1 S.2.1 dX3_lay_25 (lv_at hl 7 rfl) ?_
  refine lv_iload_n S.1 S.2.1 dX3_lay_27 rfl (lv_at hl 5 rfl) ?_
  refine z_isub S dX3_lay_28 ?_
  refine z_abs S ml_X3_37 hl.1 (Nat.le_of_ble_eq_true rfl) (Nat.le_of_ble_eq_true rfl) ⟨Nat.zero_le _, Nat.zero_le _⟩ (by omega) dX3_lay_29 ?_
  refine z_max S ml_X3_42 hl.1 (Nat.le_of_ble_eq_true rfl) (Nat.le_of_ble_eq_true rfl) ⟨Nat.zero_le _, Nat.zero_le _⟩ (by omega) dX3_lay_32 ?_
  refine lv_istore (lv' := [(8, .int (zI (max (ab (tx - x)) (ab (ty - y))))), (7, .int (zI (sgn (ty - y)))), (6, .int (zI (sgn (tx - x)))), (0, .ref (a 1)), (1, .int (zI v)), (2, .int (zI x)), (3, .int (zI y)), (4, .int (zI tx)), (5, .int (zI ty))]) S.1 S.2.1 dX3_lay_35 hl (by decide) rfl (fun ls hl => ?_)
  refine z_iconst S dX3_lay_37 ?_
  refine lv_istore (lv' := [(9, .int (zI 0)), (8, .int (zI (max (ab (tx - x)) (ab (ty - y))))), (7, .int (zI (sgn (ty - y)))), (6, .int (zI (sgn (tx - x)))), (0, .ref (a 1)), (1, .int (zI v)), (2, .int (zI x)), (3, .int (zI y)), (4, .int (zI tx)), (5, .int (zI ty))]) S.1 S.2.1 dX3_lay_38 hl (by decide) rfl (fun ls hl => ?_)
  refine z_forW (D := D) (nL := 10) (A := (CA 21 a)) (H0 := s.heap) ((max (ab (tx - x)) (ab (ty - y)) + 1).toNat) (fun (k40 : Nat) => [(9, .int (zI (k40 : Int))), (8, .int (zI (max (ab (tx - x)) (ab (ty - y))))), (7, .int (zI (sgn (ty - y)))), (6, .int (zI (sgn (tx - x)))), (0, .ref (a 1)), (1, .int (zI v)), (2, .int (zI x)), (3, .int (zI y)), (4, .int (zI tx)), (5, .int (zI ty))]) (fun (k40 : Nat) => CW g a (lay c v x y (sgn (tx - x)) (sgn (ty - y)) k40)) (fun k40 => True) (fun k40 hk40 hJ40 H locs hP hS ls hl ih40 => ?_) (fun hJ40 H locs hP hS ls hl => ?_) 0 (by omega) trivial _ _ hP hS ls (lv_sub hl [0, 1, 2, 3, 4, 5, 6, 7, 8, 9] rfl)
  · have hl : lv_has ls 10 [(9, .int (zI (k40 : Int))), (8, .int (zI (max (ab (tx - x)) (ab (ty - y))))), (7, .int (zI (sgn (ty - y)))), (6, .int (zI (sgn (tx - x)))), (0, .ref (a 1)), (1, .int (zI v)), (2, .int (zI x)), (3, .int (zI y)), (4, .int (zI tx)), (5, .int (zI ty))] := hl
    have hP : va_P D vwCl (CW g a (lay c v x y (sgn (tx - x)) (sgn (ty - y)) k40)) H := hP
    have hb3 := sgn_in h1 h2 (k := (k40 : Int)) (by omega)
    refine lv_iload S.1 S.2.1 dX3_lay_40 (lv_at hl 0 rfl) ?_
    refine lv_iload S.1 S.2.1 dX3_lay_42 (lv_at hl 1 rfl) ?_
    refine z_icmp_gt (tgt := 72) S dX3_lay_44 (by decide) (by omega) (fun h_1 => ?_) (fun h_1 => ?_)
    · exact absurd h_1 (by omega)
    · refine lv_aload_n S.1 S.2.1 dX3_lay_47 rfl (lv_at hl 4 rfl) ?_
      refine lv_iload_n S.1 S.2.1 dX3_lay_48 rfl (lv_at hl 5 rfl) ?_
      refine lv_iload_n S.1 S.2.1 dX3_lay_49 rfl (lv_at hl 6 rfl) ?_
      refine lv_iload S.1 S.2.1 dX3_lay_50 (lv_at hl 0 rfl) ?_
      refine lv_iload S.1 S.2.1 dX3_lay_52 (lv_at hl 3 rfl) ?_
      refine z_imul S dX3_lay_54 ?_
      refine z_iadd S dX3_lay_55 ?_
      refine lv_iload_n S.1 S.2.1 dX3_lay_56 rfl (lv_at hl 7 rfl) ?_
      refine lv_iload S.1 S.2.1 dX3_lay_57 (lv_at hl 0 rfl) ?_
      refine lv_iload S.1 S.2.1 dX3_lay_59 (lv_at hl 2 rfl) ?_
      refine z_imul S dX3_lay_61 ?_
      refine z_iadd S dX3_lay_62 ?_
      refine z_wVv (As := [.int (zI v), .int (zI (x + ((k40 : Int) * (sgn (tx - x))))), .int (zI (y + ((k40 : Int) * (sgn (ty - y)))))]) (rest := []) S (m_X3_cover l D g a (lay c v x y (sgn (tx - x)) (sgn (ty - y)) k40) (lay_IC hI v x y (sgn (tx - x)) (sgn (ty - y)) k40 (by omega)) hda v (x + ((k40 : Int) * (sgn (tx - x)))) (y + ((k40 : Int) * (sgn (ty - y)))) (by omega) (by omega) (by omega)) ml_X3_46 im_X3_cover se_X3_cover ini_X3 cd_X3_cover ds_X3_cover ⟨Nat.le_of_ble_eq_true rfl, Nat.le_of_ble_eq_true rfl⟩ hK hP (va_recv hK.1 hP (ci := 3) (q0 := 1) rfl rfl) rfl hl.1 rfl (Nat.le_of_ble_eq_true rfl) ⟨Nat.zero_le _, Nat.zero_le _⟩ hS (fun _ h => h) dX3_lay_63 (fun H locs hP _ _ hS => ?_)
      refine z_iinc (lv' := [(9, .int (zI ((k40 : Int) + 1))), (8, .int (zI (max (ab (tx - x)) (ab (ty - y))))), (7, .int (zI (sgn (ty - y)))), (6, .int (zI (sgn (tx - x)))), (0, .ref (a 1)), (1, .int (zI v)), (2, .int (zI x)), (3, .int (zI y)), (4, .int (zI tx)), (5, .int (zI ty))]) S dX3_lay_66 hl (k := 0) rfl (by decide) rfl (fun ls hl => ?_)
      refine z_goto (tgt := 40) S dX3_lay_69 (by decide) ?_
      have hw : CW g a (cov (lay c v x y (sgn (tx - x)) (sgn (ty - y)) k40) v (x + ((k40 : Int) * (sgn (tx - x)))) (y + ((k40 : Int) * (sgn (ty - y))))) = CW g a (lay c v x y (sgn (tx - x)) (sgn (ty - y)) (k40 + 1)) := by exact rfl
      rw [hw] at hP
      exact ih40 _ _ hP hS _ (lv_sub hl [0, 1, 2, 3, 4, 5, 6, 7, 8, 9] rfl) trivial
  · have hl : lv_has ls 10 [(9, .int (zI (((max (ab (tx - x)) (ab (ty - y)) + 1).toNat : Nat) : Int))), (8, .int (zI (max (ab (tx - x)) (ab (ty - y))))), (7, .int (zI (sgn (ty - y)))), (6, .int (zI (sgn (tx - x)))), (0, .ref (a 1)), (1, .int (zI v)), (2, .int (zI x)), (3, .int (zI y)), (4, .int (zI tx)), (5, .int (zI ty))] := hl
    have hP : va_P D vwCl (CW g a (lay c v x y (sgn (tx - x)) (sgn (ty - y)) ((max (ab (tx - x)) (ab (ty - y)) + 1).toNat))) H := hP
    refine lv_iload S.1 S.2.1 dX3_lay_40 (lv_at hl 0 rfl) ?_
    refine lv_iload S.1 S.2.1 dX3_lay_42 (lv_at hl 1 rfl) ?_
    refine z_icmp_gt (tgt := 72) S dX3_lay_44 (by decide) (by omega) (fun h_2 => ?_) (fun h_2 => ?_)
    · have hw : CW g a (lay c v x y (sgn (tx - x)) (sgn (ty - y)) ((max (ab (tx - x)) (ab (ty - y)) + 1).toNat)) = CW g a (lay c v x y (sgn (tx - x)) (sgn (ty - y)) (max (ab (tx - x)) (ab (ty - y)) + 1).toNat) := by exact rfl
      rw [hw] at hP
      exact z_retv S hr hlk hP hS dX3_lay_72
    · exact absurd h_2 (by omega)
set_option maxHeartbeats 4000000 in
set_option maxRecDepth 100000 in
theorem m_X1_countByLine (l : Launch) (D : va_G) (g : ClassId × ClassId × ClassId) (a : Nat → Nat) {B : Int} (c : CS) (hI : IC B c) (hda : CD 21 a) : WRv l yX1_countByLine cX1_countByLine 4 none 1 23 D g (CA 21 a) (CW g a c) [.ref (a 3)] (CW g a (sA c 9 (onL c 400))) := by
  refine z_enter RX1 (by decide) rfl (Nat.le_of_ble_eq_true rfl) ?_
  intro p e s m args below meth co S hr hlk hK hP ls hl
  have hl : lv_has ls 4 [(0, .ref (a 3))] := hl
  have hs := hI.s
  have hS : va_S (CA 21 a) s.heap s.heap [] := va_S.rf
  refine lv_aload_n S.1 S.2.1 dX1_countByLine_0 rfl (lv_at hl 0 rfl) ?_
  refine z_get (v := .ref (a 14)) S inA1 hK hP 3 rfl rfl 2 (by decide) fl_X1_25 rfl dX1_countByLine_1 ?_
  refine z_iconst S dX1_countByLine_4 ?_
  refine z_wSv (As := [.ref (a 14), .int (zI 0)]) (rest := []) S (m_J7_fill_53178 l D g _ 14 0 rfl (CW_D hda _) (by decide)) ml_X1_19 sm_J7_fill_53178 ini_J7 cd_J7_fill_53178 ds_J7_fill_53178 ⟨Nat.le_of_ble_eq_true rfl, Nat.le_of_ble_eq_true rfl⟩ hK hP rfl hl.1 rfl (Nat.le_of_ble_eq_true rfl) ⟨Nat.zero_le _, Nat.zero_le _⟩ hS (fun _ h => h) dX1_countByLine_5 (fun H locs hP _ _ hS => ?_)
  have hP : va_P D vwCl (CW g a (sA c 9 (fun _ => 0))) H := hP
  refine z_iconst S dX1_countByLine_8 ?_
  refine lv_istore_n (lv' := [(1, .int (zI 0)), (0, .ref (a 3))]) S.1 S.2.1 dX1_countByLine_9 rfl hl (by decide) rfl (fun ls hl => ?_)
  refine z_forW (D := D) (nL := 4) (A := (CA 21 a)) (H0 := s.heap) (400) (fun (k10 : Nat) => [(1, .int (zI (k10 : Int))), (0, .ref (a 3))]) (fun (k10 : Nat) => CW g a (sA c 9 (onL c k10))) (fun k10 => True) (fun k10 hk10 hJ10 H locs hP hS ls hl ih10 => ?_) (fun hJ10 H locs hP hS ls hl => ?_) 0 (by omega) trivial _ _ hP hS ls (lv_sub hl [0, 1] rfl)
  · have hl : lv_has ls 4 [(1, .int (zI (k10 : Int))), (0, .ref (a 3))] := hl
    have hP : va_P D vwCl (CW g a (sA c 9 (onL c k10))) H := hP
    refine lv_iload_n S.1 S.2.1 dX1_countByLine_10 rfl (lv_at hl 0 rfl) ?_
    refine z_sipush S (by decide) dX1_countByLine_11 ?_
    refine z_icmp_ge (tgt := 94) S dX1_countByLine_14 (by decide) (by omega) (fun h_1 => ?_) (fun h_1 => ?_)
    · exact absurd h_1 (by omega)
    · refine lv_aload_n S.1 S.2.1 dX1_countByLine_17 rfl (lv_at hl 1 rfl) ?_
      refine lv_iload_n S.1 S.2.1 dX1_countByLine_18 rfl (lv_at hl 0 rfl) ?_
      refine z_rV (As := [.int (zI (k10 : Int))]) (rest := []) S (m_X1_standsAt l D g a (sA c 9 (onL c k10)) hI.a9 (k10 : Int) (by omega)) ml_X1_46 im_X1_standsAt se_X1_standsAt ini_X1 cd_X1_standsAt ds_X1_standsAt ⟨Nat.le_of_ble_eq_true rfl, Nat.le_of_ble_eq_true rfl⟩ hK hP (va_recv hK.1 hP (ci := 1) (q0 := 3) rfl rfl) rfl hl.1 rfl (Nat.le_of_ble_eq_true rfl) ⟨Nat.zero_le _, Nat.zero_le _⟩ dX1_countByLine_19 ?_
      refine z_ifb_eq (tgt := 88) S dX1_countByLine_22 (by decide) (fun h_2 => ?_) (fun h_2 => ?_)
      · refine z_iinc (lv' := [(1, .int (zI ((k10 : Int) + 1))), (0, .ref (a 3))]) S dX1_countByLine_88 hl (k := 0) rfl (by decide) rfl (fun ls hl => ?_)
        refine z_goto (tgt := 10) S dX1_countByLine_91 (by decide) ?_
        have hw : CW g a (sA c 9 (onL c k10)) = CW g a (sA c 9 (onL c (k10 + 1))) := by first | rfl | (show CW g a (sA c 9 _) = CW g a (sA c 9 (if _ then _ else _)); first | rw [if_pos (by assumption)]; rfl | rw [if_neg (by assumption)])
        rw [hw] at hP
        exact ih10 _ _ hP hS _ (lv_sub hl [0, 1] rfl) trivial
      · refine lv_iload_n S.1 S.2.1 dX1_countByLine_25 rfl (lv_at hl 0 rfl) ?_
        refine z_rN (As := [.int (zI (k10 : Int))]) (rest := []) S (m_X4_columnOf l D g (k10 : Int) (by omega)) nw_X1_28 sm_X4_columnOf ini_X4 cd_X4_columnOf ds_X4_columnOf ⟨Nat.le_of_ble_eq_true rfl, Nat.le_of_ble_eq_true rfl⟩ hK va_P_nil rfl hl.1 rfl (Nat.le_of_ble_eq_true rfl) ⟨Nat.zero_le _, Nat.zero_le _⟩ dX1_countByLine_26 ?_
        refine lv_istore_n (lv' := [(2, .int (zI ((k10 : Int) % 20))), (1, .int (zI (k10 : Int))), (0, .ref (a 3))]) S.1 S.2.1 dX1_countByLine_29 rfl hl (by decide) rfl (fun ls hl => ?_)
        refine lv_iload_n S.1 S.2.1 dX1_countByLine_30 rfl (lv_at hl 1 rfl) ?_
        refine z_rN (As := [.int (zI (k10 : Int))]) (rest := []) S (m_X4_rowOf l D g (k10 : Int) (by omega)) nw_X1_32 sm_X4_rowOf ini_X4 cd_X4_rowOf ds_X4_rowOf ⟨Nat.le_of_ble_eq_true rfl, Nat.le_of_ble_eq_true rfl⟩ hK va_P_nil rfl hl.1 rfl (Nat.le_of_ble_eq_true rfl) ⟨Nat.zero_le _, Nat.zero_le _⟩ dX1_countByLine_31 ?_
        refine lv_istore_n (lv' := [(3, .int (zI ((k10 : Int) / 20))), (2, .int (zI ((k10 : Int) % 20))), (1, .int (zI (k10 : Int))), (0, .ref (a 3))]) S.1 S.2.1 dX1_countByLine_34 rfl hl (by decide) rfl (fun ls hl => ?_)
        refine lv_aload_n S.1 S.2.1 dX1_countByLine_35 rfl (lv_at hl 3 rfl) ?_
        refine z_get (v := .ref (a 14)) S inA1 hK hP 3 rfl rfl 2 (by decide) fl_X1_25 rfl dX1_countByLine_36 ?_
        refine lv_iload_n S.1 S.2.1 dX1_countByLine_39 rfl (lv_at hl 0 rfl) ?_
        refine lv_dup2_11 S.1 S.2.1 dX1_countByLine_40 rfl rfl ?_
        refine z_iald S hK hP 14 rfl (by decide) (by omega) dX1_countByLine_41 ?_
        refine z_iconst S dX1_countByLine_42 ?_
        refine z_iadd S dX1_countByLine_43 ?_
        refine z_iast S hK hP (CW_D hda _) hS 14 rfl (by decide) (by omega) dX1_countByLine_44 (fun H locs hP hS => ?_)
        have hP : va_P D vwCl (CW g a (sA (sA c 9 (onL c k10)) 9 (upZ ((sA c 9 (onL c k10)).2 9) ((k10 : Int) / 20) (((sA c 9 (onL c k10)).2 9 ((k10 : Int) / 20)) + 1)))) H := hP
        refine lv_aload_n S.1 S.2.1 dX1_countByLine_45 rfl (lv_at hl 3 rfl) ?_
        refine z_get (v := .ref (a 14)) S inA1 hK hP 3 rfl rfl 2 (by decide) fl_X1_25 rfl dX1_countByLine_46 ?_
        refine z_bipush S (by decide) dX1_countByLine_49 ?_
        refine lv_iload_n S.1 S.2.1 dX1_countByLine_51 rfl (lv_at hl 1 rfl) ?_
        refine z_iadd S dX1_countByLine_52 ?_
        refine lv_dup2_11 S.1 S.2.1 dX1_countByLine_53 rfl rfl ?_
        refine z_iald (F := upZ ((sA c 9 (onL c k10)).2 9) ((k10 : Int) / 20) (((sA c 9 (onL c k10)).2 9 ((k10 : Int) / 20)) + 1)) S hK hP 14 rfl (by decide) (by omega) dX1_countByLine_54 ?_
        refine z_iconst S dX1_countByLine_55 ?_
        refine z_iadd S dX1_countByLine_56 ?_
        refine z_iast (F := upZ ((sA c 9 (onL c k10)).2 9) ((k10 : Int) / 20) (((sA c 9 (onL c k10)).2 9 ((k10 : Int) / 20)) + 1)) S hK hP (CW_D hda _) hS 14 rfl (by decide) (by omega) dX1_countByLine_57 (fun H locs hP hS => ?_)
        have hP : va_P D vwCl (CW g a (sA (sA (sA c 9 (onL c k10)) 9 (upZ ((sA c 9 (onL c k10)).2 9) ((k10 : Int) / 20) (((sA c 9 (onL c k10)).2 9 ((k10 : Int) / 20)) + 1))) 9 (upZ (upZ ((sA c 9 (onL c k10)).2 9) ((k10 : Int) / 20) (((sA c 9 (onL c k10)).2 9 ((k10 : Int) / 20)) + 1)) (20 + ((k10 : Int) % 20)) (((upZ ((sA c 9 (onL c k10)).2 9) ((k10 : Int) / 20) (((sA c 9 (onL c k10)).2 9 ((k10 : Int) / 20)) + 1)) (20 + ((k10 : Int) % 20))) + 1)))) H := hP
        refine lv_aload_n S.1 S.2.1 dX1_countByLine_58 rfl (lv_at hl 3 rfl) ?_
        refine z_get (v := .ref (a 14)) S inA1 hK hP 3 rfl rfl 2 (by decide) fl_X1_25 rfl dX1_countByLine_59 ?_
        refine z_bipush S (by decide) dX1_countByLine_62 ?_
        refine lv_iload_n S.1 S.2.1 dX1_countByLine_64 rfl (lv_at hl 1 rfl) ?_
        refine z_iadd S dX1_countByLine_65 ?_
        refine lv_iload_n S.1 S.2.1 dX1_countByLine_66 rfl (lv_at hl 0 rfl) ?_
        refine z_isub S dX1_countByLine_67 ?_
        refine lv_dup2_11 S.1 S.2.1 dX1_countByLine_68 rfl rfl ?_
        refine z_iald (F := upZ (upZ ((sA c 9 (onL c k10)).2 9) ((k10 : Int) / 20) (((sA c 9 (onL c k10)).2 9 ((k10 : Int) / 20)) + 1)) (20 + ((k10 : Int) % 20)) (((upZ ((sA c 9 (onL c k10)).2 9) ((k10 : Int) / 20) (((sA c 9 (onL c k10)).2 9 ((k10 : Int) / 20)) + 1)) (20 + ((k10 : Int) % 20))) + 1)) S hK hP 14 rfl (by decide) (by omega) dX1_countByLine_69 ?_
        refine z_iconst S dX1_countByLine_70 ?_
        refine z_iadd S dX1_countByLine_71 ?_
        refine z_iast (F := upZ (upZ ((sA c 9 (onL c k10)).2 9) ((k10 : Int) / 20) (((sA c 9 (onL c k10)).2 9 ((k10 : Int) / 20)) + 1)) (20 + ((k10 : Int) % 20)) (((upZ ((sA c 9 (onL c k10)).2 9) ((k10 : Int) / 20) (((sA c 9 (onL c k10)).2 9 ((k10 : Int) / 20)) + 1)) (20 + ((k10 : Int) % 20))) + 1)) S hK hP (CW_D hda _) hS 14 rfl (by decide) (by omega) dX1_countByLine_72 (fun H locs hP hS => ?_)
        have hP : va_P D vwCl (CW g a (sA (sA (sA (sA c 9 (onL c k10)) 9 (upZ ((sA c 9 (onL c k10)).2 9) ((k10 : Int) / 20) (((sA c 9 (onL c k10)).2 9 ((k10 : Int) / 20)) + 1))) 9 (upZ (upZ ((sA c 9 (onL c k10)).2 9) ((k10 : Int) / 20) (((sA c 9 (onL c k10)).2 9 ((k10 : Int) / 20)) + 1)) (20 + ((k10 : Int) % 20)) (((upZ ((sA c 9 (onL c k10)).2 9) ((k10 : Int) / 20) (((sA c 9 (onL c k10)).2 9 ((k10 : Int) / 20)) + 1)) (20 + ((k10 : Int) % 20))) + 1))) 9 (upZ (upZ (upZ ((sA c 9 (onL c k10)).2 9) ((k10 : Int) / 20) (((sA c 9 (onL c k10)).2 9 ((k10 : Int) / 20)) + 1)) (20 + ((k10 : Int) % 20)) (((upZ ((sA c 9 (onL c k10)).2 9) ((k10 : Int) / 20) (((sA c 9 (onL c k10)).2 9 ((k10 : Int) / 20)) + 1)) (20 + ((k10 : Int) % 20))) + 1)) ((59 + ((k10 : Int) % 20)) - ((k10 : Int) / 20)) (((upZ (upZ ((sA c 9 (onL c k10)).2 9) ((k10 : Int) / 20) (((sA c 9 (onL c k10)).2 9 ((k10 : Int) / 20)) + 1)) (20 + ((k10 : Int) % 20)) (((upZ ((sA c 9 (onL c k10)).2 9) ((k10 : Int) / 20) (((sA c 9 (onL c k10)).2 9 ((k10 : Int) / 20)) + 1)) (20 + ((k10 : Int) % 20))) + 1)) ((59 + ((k10 : Int) % 20)) - ((k10 : Int) / 20))) + 1)))) H := hP
        refine lv_aload_n S.1 S.2.1 dX1_countByLine_73 rfl (lv_at hl 3 rfl) ?_
        refine z_get (v := .ref (a 14)) S inA1 hK hP 3 rfl rfl 2 (by decide) fl_X1_25 rfl dX1_countByLine_74 ?_
        refine z_bipush S (by decide) dX1_countByLine_77 ?_
        refine lv_iload_n S.1 S.2.1 dX1_countByLine_79 rfl (lv_at hl 1 rfl) ?_
        refine z_iadd S dX1_countByLine_80 ?_
        refine lv_iload_n S.1 S.2.1 dX1_countByLine_81 rfl (lv_at hl 0 rfl) ?_
        refine z_iadd S dX1_countByLine_82 ?_
        refine lv_dup2_11 S.1 S.2.1 dX1_countByLine_83 rfl rfl ?_
        refine z_iald (F := upZ (upZ (upZ ((sA c 9 (onL c k10)).2 9) ((k10 : Int) / 20) (((sA c 9 (onL c k10)).2 9 ((k10 : Int) / 20)) + 1)) (20 + ((k10 : Int) % 20)) (((upZ ((sA c 9 (onL c k10)).2 9) ((k10 : Int) / 20) (((sA c 9 (onL c k10)).2 9 ((k10 : Int) / 20)) + 1)) (20 + ((k10 : Int) % 20))) + 1)) ((59 + ((k10 : Int) % 20)) - ((k10 : Int) / 20)) (((upZ (upZ ((sA c 9 (onL c k10)).2 9) ((k10 : Int) / 20) (((sA c 9 (onL c k10)).2 9 ((k10 : Int) / 20)) + 1)) (20 + ((k10 : Int) % 20)) (((upZ ((sA c 9 (onL c k10)).2 9) ((k10 : Int) / 20) (((sA c 9 (onL c k10)).2 9 ((k10 : Int) / 20)) + 1)) (20 + ((k10 : Int) % 20))) + 1)) ((59 + ((k10 : Int) % 20)) - ((k10 : Int) / 20))) + 1)) S hK hP 14 rfl (by decide) (by omega) dX1_countByLine_84 ?_
        refine z_iconst S dX1_countByLine_85 ?_
        refine z_iadd S dX1_countByLine_86 ?_
        refine z_iast (F := upZ (upZ (upZ ((sA c 9 (onL c k10)).2 9) ((k10 : Int) / 20) (((sA c 9 (onL c k10)).2 9 ((k10 : Int) / 20)) + 1)) (20 + ((k10 : Int) % 20)) (((upZ ((sA c 9 (onL c k10)).2 9) ((k10 : Int) / 20) (((sA c 9 (onL c k10)).2 9 ((k10 : Int) / 20)) + 1)) (20 + ((k10 : Int) % 20))) + 1)) ((59 + ((k10 : Int) % 20)) - ((k10 : Int) / 20)) (((upZ (upZ ((sA c 9 (onL c k10)).2 9) ((k10 : Int) / 20) (((sA c 9 (onL c k10)).2 9 ((k10 : Int) / 20)) + 1)) (20 + ((k10 : Int) % 20)) (((upZ ((sA c 9 (onL c k10)).2 9) ((k10 : Int) / 20) (((sA c 9 (onL c k10)).2 9 ((k10 : Int) / 20)) + 1)) (20 + ((k10 : Int) % 20))) + 1)) ((59 + ((k10 : Int) % 20)) - ((k10 : Int) / 20))) + 1)) S hK hP (CW_D hda _) hS 14 rfl (by decide) (by omega) dX1_countByLine_87 (fun H locs hP hS => ?_)
        have hP : va_P D vwCl (CW g a (sA (sA (sA (sA (sA c 9 (onL c k10)) 9 (upZ ((sA c 9 (onL c k10)).2 9) ((k10 : Int) / 20) (((sA c 9 (onL c k10)).2 9 ((k10 : Int) / 20)) + 1))) 9 (upZ (upZ ((sA c 9 (onL c k10)).2 9) ((k10 : Int) / 20) (((sA c 9 (onL c k10)).2 9 ((k10 : Int) / 20)) + 1)) (20 + ((k10 : Int) % 20)) (((upZ ((sA c 9 (onL c k10)).2 9) ((k10 : Int) / 20) (((sA c 9 (onL c k10)).2 9 ((k10 : Int) / 20)) + 1)) (20 + ((k10 : Int) % 20))) + 1))) 9 (upZ (upZ (upZ ((sA c 9 (onL c k10)).2 9) ((k10 : Int) / 20) (((sA c 9 (onL c k10)).2 9 ((k10 : Int) / 20)) + 1)) (20 + ((k10 : Int) % 20)) (((upZ ((sA c 9 (onL c k10)).2 9) ((k10 : Int) / 20) (((sA c 9 (onL c k10)).2 9 ((k10 : Int) / 20)) + 1)) (20 + ((k10 : Int) % 20))) + 1)) ((59 + ((k10 : Int) % 20)) - ((k10 : Int) / 20)) (((upZ (upZ ((sA c 9 (onL c k10)).2 9) ((k10 : Int) / 20) (((sA c 9 (onL c k10)).2 9 ((k10 : Int) / 20)) + 1)) (20 + ((k10 : Int) % 20)) (((upZ ((sA c 9 (onL c k10)).2 9) ((k10 : Int) / 20) (((sA c 9 (onL c k10)).2 9 ((k10 : Int) / 20)) + 1)) (20 + ((k10 : Int) % 20))) + 1)) ((59 + ((k10 : Int) % 20)) - ((k10 : Int) / 20))) + 1))) 9 (upZ (upZ (upZ (upZ ((sA c 9 (onL c k10)).2 9) ((k10 : Int) / 20) (((sA c 9 (onL c k10)).2 9 ((k10 : Int) / 20)) + 1)) (20 + ((k10 : Int) % 20)) (((upZ ((sA c 9 (onL c k10)).2 9) ((k10 : Int) / 20) (((sA c 9 (onL c k10)).2 9 ((k10 : Int) / 20)) + 1)) (20 + ((k10 : Int) % 20))) + 1)) ((59 + ((k10 : Int) % 20)) - ((k10 : Int) / 20)) (((upZ (upZ ((sA c 9 (onL c k10)).2 9) ((k10 : Int) / 20) (((sA c 9 (onL c k10)).2 9 ((k10 : Int) / 20)) + 1)) (20 + ((k10 : Int) % 20)) (((upZ ((sA c 9 (onL c k10)).2 9) ((k10 : Int) / 20) (((sA c 9 (onL c k10)).2 9 ((k10 : Int) / 20)) + 1)) (20 + ((k10 : Int) % 20))) + 1)) ((59 + ((k10 : Int) % 20)) - ((k10 : Int) / 20))) + 1)) ((79 + ((k10 : Int) % 20)) + ((k10 : Int) / 20)) (((upZ (upZ (upZ ((sA c 9 (onL c k10)).2 9) ((k10 : Int) / 20) (((sA c 9 (onL c k10)).2 9 ((k10 : Int) / 20)) + 1)) (20 + ((k10 : Int) % 20)) (((upZ ((sA c 9 (onL c k10)).2 9) ((k10 : Int) / 20) (((sA c 9 (onL c k10)).2 9 ((k10 : Int) / 20)) + 1)) (20 + ((k10 : Int) % 20))) + 1)) ((59 + ((k10 : Int) % 20)) - ((k10 : Int) / 20)) (((upZ (upZ ((sA c 9 (onL c k10)).2 9) ((k10 : Int) / 20) (((sA c 9 (onL c k10)).2 9 ((k10 : Int) / 20)) + 1)) (20 + ((k10 : Int) % 20)) (((upZ ((sA c 9 (onL c k10)).2 9) ((k10 : Int) / 20) (((sA c 9 (onL c k10)).2 9 ((k10 : Int) / 20)) + 1)) (20 + ((k10 : Int) % 20))) + 1)) ((59 + ((k10 : Int) % 20)) - ((k10 : Int) / 20))) + 1)) ((79 + ((k10 : Int) % 20)) + ((k10 : Int) / 20))) + 1)))) H := hP
        refine z_iinc (lv' := [(1, .int (zI ((k10 : Int) + 1))), (3, .int (zI ((k10 : Int) / 20))), (2, .int (zI ((k10 : Int) % 20))), (0, .ref (a 3))]) S dX1_countByLine_88 hl (k := 2) rfl (by decide) rfl (fun ls hl => ?_)
        refine z_goto (tgt := 10) S dX1_countByLine_91 (by decide) ?_
        have hw : CW g a (sA (sA (sA (sA (sA c 9 (onL c k10)) 9 (upZ ((sA c 9 (onL c k10)).2 9) ((k10 : Int) / 20) (((sA c 9 (onL c k10)).2 9 ((k10 : Int) / 20)) + 1))) 9 (upZ (upZ ((sA c 9 (onL c k10)).2 9) ((k10 : Int) / 20) (((sA c 9 (onL c k10)).2 9 ((k10 : Int) / 20)) + 1)) (20 + ((k10 : Int) % 20)) (((upZ ((sA c 9 (onL c k10)).2 9) ((k10 : Int) / 20) (((sA c 9 (onL c k10)).2 9 ((k10 : Int) / 20)) + 1)) (20 + ((k10 : Int) % 20))) + 1))) 9 (upZ (upZ (upZ ((sA c 9 (onL c k10)).2 9) ((k10 : Int) / 20) (((sA c 9 (onL c k10)).2 9 ((k10 : Int) / 20)) + 1)) (20 + ((k10 : Int) % 20)) (((upZ ((sA c 9 (onL c k10)).2 9) ((k10 : Int) / 20) (((sA c 9 (onL c k10)).2 9 ((k10 : Int) / 20)) + 1)) (20 + ((k10 : Int) % 20))) + 1)) ((59 + ((k10 : Int) % 20)) - ((k10 : Int) / 20)) (((upZ (upZ ((sA c 9 (onL c k10)).2 9) ((k10 : Int) / 20) (((sA c 9 (onL c k10)).2 9 ((k10 : Int) / 20)) + 1)) (20 + ((k10 : Int) % 20)) (((upZ ((sA c 9 (onL c k10)).2 9) ((k10 : Int) / 20) (((sA c 9 (onL c k10)).2 9 ((k10 : Int) / 20)) + 1)) (20 + ((k10 : Int) % 20))) + 1)) ((59 + ((k10 : Int) % 20)) - ((k10 : Int) / 20))) + 1))) 9 (upZ (upZ (upZ (upZ ((sA c 9 (onL c k10)).2 9) ((k10 : Int) / 20) (((sA c 9 (onL c k10)).2 9 ((k10 : Int) / 20)) + 1)) (20 + ((k10 : Int) % 20)) (((upZ ((sA c 9 (onL c k10)).2 9) ((k10 : Int) / 20) (((sA c 9 (onL c k10)).2 9 ((k10 : Int) / 20)) + 1)) (20 + ((k10 : Int) % 20))) + 1)) ((59 + ((k10 : Int) % 20)) - ((k10 : Int) / 20)) (((upZ (upZ ((sA c 9 (onL c k10)).2 9) ((k10 : Int) / 20) (((sA c 9 (onL c k10)).2 9 ((k10 : Int) / 20)) + 1)) (20 + ((k10 : Int) % 20)) (((upZ ((sA c 9 (onL c k10)).2 9) ((k10 : Int) / 20) (((sA c 9 (onL c k10)).2 9 ((k10 : Int) / 20)) + 1)) (20 + ((k10 : Int) % 20))) + 1)) ((59 + ((k10 : Int) % 20)) - ((k10 : Int) / 20))) + 1)) ((79 + ((k10 : Int) % 20)) + ((k10 : Int) / 20)) (((upZ (upZ (upZ ((sA c 9 (onL c k10)).2 9) ((k10 : Int) / 20) (((sA c 9 (onL c k10)).2 9 ((k10 : Int) / 20)) + 1)) (20 + ((k10 : Int) % 20)) (((upZ ((sA c 9 (onL c k10)).2 9) ((k10 : Int) / 20) (((sA c 9 (onL c k10)).2 9 ((k10 : Int) / 20)) + 1)) (20 + ((k10 : Int) % 20))) + 1)) ((59 + ((k10 : Int) % 20)) - ((k10 : Int) / 20)) (((upZ (upZ ((sA c 9 (onL c k10)).2 9) ((k10 : Int) / 20) (((sA c 9 (onL c k10)).2 9 ((k10 : Int) / 20)) + 1)) (20 + ((k10 : Int) % 20)) (((upZ ((sA c 9 (onL c k10)).2 9) ((k10 : Int) / 20) (((sA c 9 (onL c k10)).2 9 ((k10 : Int) / 20)) + 1)) (20 + ((k10 : Int) % 20))) + 1)) ((59 + ((k10 : Int) % 20)) - ((k10 : Int) / 20))) + 1)) ((79 + ((k10 : Int) % 20)) + ((k10 : Int) / 20))) + 1))) = CW g a (sA c 9 (onL c (k10 + 1))) := by first | rfl | (show CW g a (sA c 9 _) = CW g a (sA c 9 (if _ then _ else _)); first | rw [if_pos (by assumption)]; rfl | rw [if_neg (by assumption)])
        rw [hw] at hP
        exact ih10 _ _ hP hS _ (lv_sub hl [0, 3] rfl) trivial
  · have hl : lv_has ls 4 [(1, .int (zI ((400 : Nat) : Int))), (0, .ref (a 3))] := hl
    have hP : va_P D vwCl (CW g a (sA c 9 (onL c 400))) H := hP
    refine lv_iload_n S.1 S.2.1 dX1_countByLine_10 rfl (lv_at hl 0 rfl) ?_
    refine z_sipush S (by decide) dX1_countByLine_11 ?_
    refine z_icmp_ge (tgt := 94) S dX1_countByLine_14 (by decide) (by omega) (fun h_3 => ?_) (fun h_3 => ?_)
    · have hw : CW g a (sA c 9 (onL c 400)) = CW g a (sA c 9 (onL c 400)) := by exact rfl
      rw [hw] at hP
      exact z_retv S hr hlk hP hS dX1_countByLine_94
    · exact absurd h_3 (by omega)
set_option maxHeartbeats 4000000 in
set_option maxRecDepth 100000 in
theorem m_X1_tellFullestLine (l : Launch) (D : va_G) (g : ClassId × ClassId × ClassId) (a : Nat → Nat) {B : Int} (c : CS) (hI : IC B c) (hda : CD 21 a) (what : Int) (h0 : 0 ≤ what ∧ what ≤ 2) : WRi l yX1_tellFullestLine cX1_tellFullestLine 3 (some .int) 2 46 D g (CA 21 a) (CW g a c) [.ref (a 3), .int (zI what)] (CW g a (sA c 9 (onL c 400))) (lineT c what) := by
  refine z_enter RX1 (by decide) rfl (Nat.le_of_ble_eq_true rfl) ?_
  intro p e s m args below meth co S hr hlk hK hP ls hl
  have hl : lv_has ls 3 [(0, .ref (a 3)), (1, .int (zI what))] := hl
  have hs := hI.s
  have hS : va_S (CA 21 a) s.heap s.heap [] := va_S.rf
  refine lv_aload_n S.1 S.2.1 dX1_tellFullestLine_0 rfl (lv_at hl 0 rfl) ?_
  refine z_wVv (As := []) (rest := []) S (m_X1_countByLine l D g a c hI hda) ml_X1_53 im_X1_countByLine se_X1_countByLine ini_X1 cd_X1_countByLine ds_X1_countByLine ⟨Nat.le_of_ble_eq_true rfl, Nat.le_of_ble_eq_true rfl⟩ hK hP (va_recv hK.1 hP (ci := 1) (q0 := 3) rfl rfl) rfl hl.1 rfl (Nat.le_of_ble_eq_true rfl) ⟨Nat.zero_le _, Nat.zero_le _⟩ hS (fun _ h => h) dX1_tellFullestLine_1 (fun H locs hP _ _ hS => ?_)
  refine lv_aload_n S.1 S.2.1 dX1_tellFullestLine_4 rfl (lv_at hl 0 rfl) ?_
  refine z_rV (As := []) (rest := []) S (m_X1_fullestLine l D g a (sA c 9 (onL c 400)) hI.a9 (fun j => by have := onL_b c 400 j; show 0 ≤ onL c 400 j ∧ onL c 400 j ≤ 100000; omega)) ml_X1_56 im_X1_fullestLine se_X1_fullestLine ini_X1 cd_X1_fullestLine ds_X1_fullestLine ⟨Nat.le_of_ble_eq_true rfl, Nat.le_of_ble_eq_true rfl⟩ hK hP (va_recv hK.1 hP (ci := 1) (q0 := 3) rfl rfl) rfl hl.1 rfl (Nat.le_of_ble_eq_true rfl) ⟨Nat.zero_le _, Nat.zero_le _⟩ dX1_tellFullestLine_5 ?_
  refine z_top (fm (onL c 400) 118) (rfl) ?_
  have hb1 := fm_b (onL c 400) 118
  refine lv_istore_n (lv' := [(2, .int (zI (fm (onL c 400) 118))), (0, .ref (a 3)), (1, .int (zI what))]) S.1 S.2.1 dX1_tellFullestLine_8 rfl hl (by decide) rfl (fun ls hl => ?_)
  refine lv_iload_n S.1 S.2.1 dX1_tellFullestLine_9 rfl (lv_at hl 2 rfl) ?_
  refine z_if_ne (tgt := 20) S dX1_tellFullestLine_10 (by decide) (by omega) (fun h_1 => ?_) (fun h_1 => ?_)
  · refine lv_aload_n S.1 S.2.1 dX1_tellFullestLine_20 rfl (lv_at hl 1 rfl) ?_
    refine z_get (v := .int (zI (c.1 4))) S inA1 hK hP 3 rfl rfl 0 (by decide) fl_X1_11 rfl dX1_tellFullestLine_21 ?_
    refine z_if_ne (tgt := 29) S dX1_tellFullestLine_24 (by decide) (by omega) (fun h_2 => ?_) (fun h_2 => ?_)
    · refine lv_iload_n S.1 S.2.1 dX1_tellFullestLine_29 rfl (lv_at hl 2 rfl) ?_
      refine z_iconst S dX1_tellFullestLine_30 ?_
      refine z_icmp_ne (tgt := 41) S dX1_tellFullestLine_31 (by decide) (by omega) (fun h_3 => ?_) (fun h_3 => ?_)
      · refine lv_iload_n S.1 S.2.1 dX1_tellFullestLine_41 rfl (lv_at hl 0 rfl) ?_
        refine z_rS (As := [.int (zI (fm (onL c 400) 118))]) (rest := []) S (m_X1_numberOf l D g (fm (onL c 400) 118) (by omega)) ml_X1_63 sm_X1_numberOf ini_X1 cd_X1_numberOf ds_X1_numberOf ⟨Nat.le_of_ble_eq_true rfl, Nat.le_of_ble_eq_true rfl⟩ hK va_P_nil rfl hl.1 rfl (Nat.le_of_ble_eq_true rfl) ⟨Nat.zero_le _, Nat.zero_le _⟩ dX1_tellFullestLine_42 ?_
        have hw : CW g a (sA c 9 (onL c 400)) = CW g a (sA c 9 (onL c 400)) := by exact rfl
        rw [hw] at hP
        exact z_retw S hr hlk (by grind [lineT, kindL, numL]) hP hS dX1_tellFullestLine_45
      · refine lv_iload_n S.1 S.2.1 dX1_tellFullestLine_34 rfl (lv_at hl 0 rfl) ?_
        refine z_rS (As := [.int (zI (fm (onL c 400) 118))]) (rest := []) S (m_X1_kindOf l D g (fm (onL c 400) 118) (by omega)) ml_X1_60 sm_X1_kindOf ini_X1 cd_X1_kindOf ds_X1_kindOf ⟨Nat.le_of_ble_eq_true rfl, Nat.le_of_ble_eq_true rfl⟩ hK va_P_nil rfl hl.1 rfl (Nat.le_of_ble_eq_true rfl) ⟨Nat.zero_le _, Nat.zero_le _⟩ dX1_tellFullestLine_35 ?_
        refine z_goto (tgt := 45) S dX1_tellFullestLine_38 (by decide) ?_
        have hw : CW g a (sA c 9 (onL c 400)) = CW g a (sA c 9 (onL c 400)) := by exact rfl
        rw [hw] at hP
        exact z_retw S hr hlk (by grind [lineT, kindL, numL]) hP hS dX1_tellFullestLine_45
    · refine z_iconst S dX1_tellFullestLine_27 ?_
      have hw : CW g a (sA c 9 (onL c 400)) = CW g a (sA c 9 (onL c 400)) := by exact rfl
      rw [hw] at hP
      exact z_retw S hr hlk (by grind [lineT, kindL, numL]) hP hS dX1_tellFullestLine_28
  · refine lv_aload_n S.1 S.2.1 dX1_tellFullestLine_13 rfl (lv_at hl 1 rfl) ?_
    refine z_get (v := .ref (a 14)) S inA1 hK hP 3 rfl rfl 2 (by decide) fl_X1_25 rfl dX1_tellFullestLine_14 ?_
    refine lv_iload_n S.1 S.2.1 dX1_tellFullestLine_17 rfl (lv_at hl 0 rfl) ?_
    refine z_iald (F := (onL c 400)) S hK hP 14 rfl (by decide) (by omega) dX1_tellFullestLine_18 ?_
    have hw : CW g a (sA c 9 (onL c 400)) = CW g a (sA c 9 (onL c 400)) := by exact rfl
    rw [hw] at hP
    exact z_retw S hr hlk (by grind [lineT, kindL, numL]) hP hS dX1_tellFullestLine_19
set_option maxHeartbeats 4000000 in
set_option maxRecDepth 100000 in
theorem m_X4_isDowser (l : Launch) (D : va_G) (g : ClassId × ClassId × ClassId) (a : Nat → Nat) {B : Int} (c : CS) (hI : IC B c) (d : Int) (h0 : I32 d) : RD l yX4_isDowser cX4_isDowser 2 (some .boolean) 1 22 D g (CW g a c) [.ref (a 0), .int (zI d)] (b01 (0 ≤ d ∧ d ≤ c.1 3 - 1)) := by
  refine z_enter RX4 (by decide) rfl (Nat.le_of_ble_eq_true rfl) ?_
  intro p e s m args below meth co S hr hlk hK hP ls hl
  have hl : lv_has ls 2 [(0, .ref (a 0)), (1, .int (zI d))] := hl
  have hs := hI.s
  refine lv_iload_n S.1 S.2.1 dX4_isDowser_0 rfl (lv_at hl 1 rfl) ?_
  refine z_iconst S dX4_isDowser_1 ?_
  refine lv_aload_n S.1 S.2.1 dX4_isDowser_2 rfl (lv_at hl 0 rfl) ?_
  refine z_get (v := .ref (a 2)) S inA4 hK hP 0 rfl rfl 1 (by decide) fl_X4_19 rfl dX4_isDowser_3 ?_
  refine z_get (v := .int (zI (c.1 3))) S inA0 hK hP 2 rfl rfl 0 (by decide) fl_X4_88 rfl dX4_isDowser_6 ?_
  refine z_iconst S dX4_isDowser_9 ?_
  refine z_isub S dX4_isDowser_10 ?_
  refine z_rS (As := [.int (zI d), .int (zI 0), .int (zI ((c.1 3) - 1))]) (rest := []) S (m_X4_within l D g d 0 ((c.1 3) - 1) (by omega)) ml_X4_64 sm_X4_within ini_X4 cd_X4_within ds_X4_within ⟨Nat.le_of_ble_eq_true rfl, Nat.le_of_ble_eq_true rfl⟩ hK va_P_nil rfl hl.1 rfl (Nat.le_of_ble_eq_true rfl) ⟨Nat.zero_le _, Nat.zero_le _⟩ dX4_isDowser_11 ?_
  exact z_retb S hr hlk (by have := b01_01 (0 ≤ d ∧ d ≤ ((c.1 3) - 1)); omega) (rfl) dX4_isDowser_14
set_option maxHeartbeats 4000000 in
set_option maxRecDepth 100000 in
theorem m_X4_isPit (l : Launch) (D : va_G) (g : ClassId × ClassId × ClassId) (a : Nat → Nat) {B : Int} (c : CS) (hI : IC B c) (q : Int) (h0 : I32 q) : RD l yX4_isPit cX4_isPit 2 (some .boolean) 1 22 D g (CW g a c) [.ref (a 0), .int (zI q)] (b01 (0 ≤ q ∧ q ≤ c.1 5 - 1)) := by
  refine z_enter RX4 (by decide) rfl (Nat.le_of_ble_eq_true rfl) ?_
  intro p e s m args below meth co S hr hlk hK hP ls hl
  have hl : lv_has ls 2 [(0, .ref (a 0)), (1, .int (zI q))] := hl
  have hs := hI.s
  refine lv_iload_n S.1 S.2.1 dX4_isPit_0 rfl (lv_at hl 1 rfl) ?_
  refine z_iconst S dX4_isPit_1 ?_
  refine lv_aload_n S.1 S.2.1 dX4_isPit_2 rfl (lv_at hl 0 rfl) ?_
  refine z_get (v := .ref (a 4)) S inA4 hK hP 0 rfl rfl 3 (by decide) fl_X4_33 rfl dX4_isPit_3 ?_
  refine z_get (v := .int (zI (c.1 5))) S inA2 hK hP 4 rfl rfl 0 (by decide) fl_X4_129 rfl dX4_isPit_6 ?_
  refine z_iconst S dX4_isPit_9 ?_
  refine z_isub S dX4_isPit_10 ?_
  refine z_rS (As := [.int (zI q), .int (zI 0), .int (zI ((c.1 5) - 1))]) (rest := []) S (m_X4_within l D g q 0 ((c.1 5) - 1) (by omega)) ml_X4_64 sm_X4_within ini_X4 cd_X4_within ds_X4_within ⟨Nat.le_of_ble_eq_true rfl, Nat.le_of_ble_eq_true rfl⟩ hK va_P_nil rfl hl.1 rfl (Nat.le_of_ble_eq_true rfl) ⟨Nat.zero_le _, Nat.zero_le _⟩ dX4_isPit_11 ?_
  exact z_retb S hr hlk (by have := b01_01 (0 ≤ q ∧ q ≤ ((c.1 5) - 1)); omega) (rfl) dX4_isPit_14
set_option maxHeartbeats 4000000 in
set_option maxRecDepth 100000 in
theorem m_X4_bend (l : Launch) (D : va_G) (g : ClassId × ClassId × ClassId) (a : Nat → Nat) {B : Int} (c : CS) (hI : IC B c) (d : Int) (sp : Int) (h0 : 0 ≤ d ∧ d < 5) (h1 : 0 ≤ sp ∧ sp < 400) : RD l yX4_bend cX4_bend 3 (some .int) 2 47 D g (CW g a c) [.ref (a 0), .int (zI d), .int (zI sp)] (bendC c d sp) := by
  refine z_enter RX4 (by decide) rfl (Nat.le_of_ble_eq_true rfl) ?_
  intro p e s m args below meth co S hr hlk hK hP ls hl
  have hl : lv_has ls 3 [(0, .ref (a 0)), (1, .int (zI d)), (2, .int (zI sp))] := hl
  have hs := hI.s
  have hb0 := vbend_b hI (hI.r5 d) sp (n := (c.1 2).toNat) (by omega)
  have hb00 := hI.r6 d
  refine z_iconst S dX4_bend_0 ?_
  refine lv_aload_n S.1 S.2.1 dX4_bend_1 rfl (lv_at hl 0 rfl) ?_
  refine z_get (v := .ref (a 1)) S inA4 hK hP 0 rfl rfl 0 (by decide) fl_X4_12 rfl dX4_bend_2 ?_
  refine lv_iload_n S.1 S.2.1 dX4_bend_5 rfl (lv_at hl 2 rfl) ?_
  refine lv_aload_n S.1 S.2.1 dX4_bend_6 rfl (lv_at hl 0 rfl) ?_
  refine z_get (v := .ref (a 2)) S inA4 hK hP 0 rfl rfl 1 (by decide) fl_X4_19 rfl dX4_bend_7 ?_
  refine z_get (v := .ref (a 10)) S inA0 hK hP 2 rfl rfl 1 (by decide) fl_X4_237 rfl dX4_bend_10 ?_
  refine lv_iload_n S.1 S.2.1 dX4_bend_13 rfl (lv_at hl 1 rfl) ?_
  refine z_iald S hK hP 10 rfl (by decide) (by omega) dX4_bend_14 ?_
  have hb_1 := hI.r5 d
  refine z_rV (As := [.int (zI sp), .int (zI (c.2 5 d))]) (rest := [.int (zI 0)]) S (m_X3_bend l D g a c hI sp (c.2 5 d) (by omega) (by omega)) ml_X4_240 im_X3_bend se_X3_bend ini_X3 cd_X3_bend ds_X3_bend ⟨Nat.le_of_ble_eq_true rfl, Nat.le_of_ble_eq_true rfl⟩ hK hP (va_recv hK.1 hP (ci := 3) (q0 := 1) rfl rfl) rfl hl.1 rfl (Nat.le_of_ble_eq_true rfl) ⟨Nat.zero_le _, Nat.zero_le _⟩ dX4_bend_15 ?_
  refine lv_aload_n S.1 S.2.1 dX4_bend_18 rfl (lv_at hl 0 rfl) ?_
  refine z_get (v := .ref (a 2)) S inA4 hK hP 0 rfl rfl 1 (by decide) fl_X4_19 rfl dX4_bend_19 ?_
  refine z_get (v := .ref (a 11)) S inA0 hK hP 2 rfl rfl 2 (by decide) fl_X4_241 rfl dX4_bend_22 ?_
  refine lv_iload_n S.1 S.2.1 dX4_bend_25 rfl (lv_at hl 1 rfl) ?_
  refine z_iald S hK hP 11 rfl (by decide) (by omega) dX4_bend_26 ?_
  have hb_2 := hI.r6 d
  refine z_iadd S dX4_bend_27 ?_
  refine z_max S ml_X4_244 hl.1 (Nat.le_of_ble_eq_true rfl) (Nat.le_of_ble_eq_true rfl) ⟨Nat.zero_le _, Nat.zero_le _⟩ (by omega) dX4_bend_28 ?_
  exact z_ret S hr hlk (by first | rfl | grind) dX4_bend_31
set_option maxHeartbeats 4000000 in
set_option maxRecDepth 100000 in
theorem m_X4_spotOfGreatestBend (l : Launch) (D : va_G) (g : ClassId × ClassId × ClassId) (a : Nat → Nat) {B : Int} (c : CS) (hI : IC B c) (d : Int) (h0 : 0 ≤ d ∧ d < 5) : RD l yX4_spotOfGreatestBend cX4_spotOfGreatestBend 6 (some .int) 3 69 D g (CW g a c) [.ref (a 0), .int (zI d)] (bestS c d) := by
  refine z_enter RX4 (by decide) rfl (Nat.le_of_ble_eq_true rfl) ?_
  intro p e s m args below meth co S hr hlk hK hP ls hl
  have hl : lv_has ls 6 [(0, .ref (a 0)), (1, .int (zI d))] := hl
  have hs := hI.s
  refine z_iconst S dX4_spotOfGreatestBend_0 ?_
  refine lv_istore_n (lv' := [(2, .int (zI 0)), (0, .ref (a 0)), (1, .int (zI d))]) S.1 S.2.1 dX4_spotOfGreatestBend_1 rfl hl (by decide) rfl (fun ls hl => ?_)
  refine lv_aload_n S.1 S.2.1 dX4_spotOfGreatestBend_2 rfl (lv_at hl 1 rfl) ?_
  refine lv_iload_n S.1 S.2.1 dX4_spotOfGreatestBend_3 rfl (lv_at hl 2 rfl) ?_
  refine z_iconst S dX4_spotOfGreatestBend_4 ?_
  refine z_rV (As := [.int (zI d), .int (zI 0)]) (rest := []) S (m_X4_bend l D g a c hI d 0 (by omega) (by omega)) ml_X4_184 im_X4_bend se_X4_bend ini_X4 cd_X4_bend ds_X4_bend ⟨Nat.le_of_ble_eq_true rfl, Nat.le_of_ble_eq_true rfl⟩ hK hP (va_recv hK.1 hP (ci := 4) (q0 := 0) rfl rfl) rfl hl.1 rfl (Nat.le_of_ble_eq_true rfl) ⟨Nat.zero_le _, Nat.zero_le _⟩ dX4_spotOfGreatestBend_5 ?_
  refine lv_istore_n (lv' := [(3, .int (zI (bendC c d 0))), (2, .int (zI 0)), (0, .ref (a 0)), (1, .int (zI d))]) S.1 S.2.1 dX4_spotOfGreatestBend_8 rfl hl (by decide) rfl (fun ls hl => ?_)
  refine z_iconst S dX4_spotOfGreatestBend_9 ?_
  refine lv_istore (lv' := [(4, .int (zI 1)), (3, .int (zI (bendC c d 0))), (2, .int (zI 0)), (0, .ref (a 0)), (1, .int (zI d))]) S.1 S.2.1 dX4_spotOfGreatestBend_10 hl (by decide) rfl (fun ls hl => ?_)
  have e_1 : bendC c d (fm (bendC c d) 1) = bendC c d 0 := by rw [fm_1]
  have e_2 : fm (bendC c d) 1 = 0 := by exact fm_1 _
  refine z_for (nL := 6) (400) (fun (k12 : Nat) => [(4, .int (zI (k12 : Int))), (3, .int (zI (bendC c d (fm (bendC c d) k12)))), (2, .int (zI (fm (bendC c d) k12))), (0, .ref (a 0)), (1, .int (zI d))]) (fun k12 => 1 ≤ k12) (fun k12 hk12 hJ12 ls hl ih12 => ?_) (fun hJ12 ls hl => ?_) 1 (by omega) (by omega) ls (lv_sub hl [0, 1, 2, 3, 4] (by show _ = ([(4, .int (zI ((1 : Nat) : Int))), (3, .int (zI (bendC c d (fm (bendC c d) 1)))), (2, .int (zI (fm (bendC c d) 1))), (0, .ref (a 0)), (1, .int (zI d))] : List (Nat × Value)); rw [e_1, e_2]; first | done | rfl))
  · have hl : lv_has ls 6 [(4, .int (zI (k12 : Int))), (3, .int (zI (bendC c d (fm (bendC c d) k12)))), (2, .int (zI (fm (bendC c d) k12))), (0, .ref (a 0)), (1, .int (zI d))] := hl
    have hJ12 : 1 ≤ k12 := hJ12
    have hb0 := fm_b (bendC c d) k12
    have hb1 := bendC_b hI d (k12 : Int)
    have hb2 := bendC_b hI d (fm (bendC c d) k12)
    refine lv_iload S.1 S.2.1 dX4_spotOfGreatestBend_12 (lv_at hl 0 rfl) ?_
    refine z_sipush S (by decide) dX4_spotOfGreatestBend_14 ?_
    refine z_icmp_ge (tgt := 47) S dX4_spotOfGreatestBend_17 (by decide) (by omega) (fun h_3 => ?_) (fun h_3 => ?_)
    · exact absurd h_3 (by omega)
    · refine lv_aload_n S.1 S.2.1 dX4_spotOfGreatestBend_20 rfl (lv_at hl 3 rfl) ?_
      refine lv_iload_n S.1 S.2.1 dX4_spotOfGreatestBend_21 rfl (lv_at hl 4 rfl) ?_
      refine lv_iload S.1 S.2.1 dX4_spotOfGreatestBend_22 (lv_at hl 0 rfl) ?_
      refine z_rV (As := [.int (zI d), .int (zI (k12 : Int))]) (rest := []) S (m_X4_bend l D g a c hI d (k12 : Int) (by omega) (by omega)) ml_X4_184 im_X4_bend se_X4_bend ini_X4 cd_X4_bend ds_X4_bend ⟨Nat.le_of_ble_eq_true rfl, Nat.le_of_ble_eq_true rfl⟩ hK hP (va_recv hK.1 hP (ci := 4) (q0 := 0) rfl rfl) rfl hl.1 rfl (Nat.le_of_ble_eq_true rfl) ⟨Nat.zero_le _, Nat.zero_le _⟩ dX4_spotOfGreatestBend_24 ?_
      refine lv_istore (lv' := [(5, .int (zI (bendC c d (k12 : Int)))), (4, .int (zI (k12 : Int))), (3, .int (zI (bendC c d (fm (bendC c d) k12)))), (2, .int (zI (fm (bendC c d) k12))), (0, .ref (a 0)), (1, .int (zI d))]) S.1 S.2.1 dX4_spotOfGreatestBend_27 hl (by decide) rfl (fun ls hl => ?_)
      refine lv_iload S.1 S.2.1 dX4_spotOfGreatestBend_29 (lv_at hl 0 rfl) ?_
      refine lv_iload_n S.1 S.2.1 dX4_spotOfGreatestBend_31 rfl (lv_at hl 2 rfl) ?_
      refine z_icmp_le (tgt := 41) S dX4_spotOfGreatestBend_32 (by decide) (by omega) (fun h_4 => ?_) (fun h_4 => ?_)
      · refine z_iinc (lv' := [(4, .int (zI ((k12 : Int) + 1))), (5, .int (zI (bendC c d (k12 : Int)))), (3, .int (zI (bendC c d (fm (bendC c d) k12)))), (2, .int (zI (fm (bendC c d) k12))), (0, .ref (a 0)), (1, .int (zI d))]) S dX4_spotOfGreatestBend_41 hl (k := 1) rfl (by decide) rfl (fun ls hl => ?_)
        refine z_goto (tgt := 12) S dX4_spotOfGreatestBend_44 (by decide) ?_
        have e_5 : bendC c d (fm (bendC c d) (k12 + 1)) = bendC c d (fm (bendC c d) k12) := by grind [fm]
        have e_6 : fm (bendC c d) (k12 + 1) = fm (bendC c d) k12 := by grind [fm]
        exact ih12 _ (lv_sub hl [0, 2, 3, 4, 5] (by show _ = ([(4, .int (zI ((k12 + 1 : Nat) : Int))), (3, .int (zI (bendC c d (fm (bendC c d) (k12 + 1))))), (2, .int (zI (fm (bendC c d) (k12 + 1)))), (0, .ref (a 0)), (1, .int (zI d))] : List (Nat × Value)); rw [e_5, e_6]; first | done | rfl)) (by omega)
      · refine lv_iload S.1 S.2.1 dX4_spotOfGreatestBend_35 (lv_at hl 1 rfl) ?_
        refine lv_istore_n (lv' := [(2, .int (zI (k12 : Int))), (5, .int (zI (bendC c d (k12 : Int)))), (4, .int (zI (k12 : Int))), (3, .int (zI (bendC c d (fm (bendC c d) k12)))), (0, .ref (a 0)), (1, .int (zI d))]) S.1 S.2.1 dX4_spotOfGreatestBend_37 rfl hl (by decide) rfl (fun ls hl => ?_)
        refine lv_iload S.1 S.2.1 dX4_spotOfGreatestBend_38 (lv_at hl 1 rfl) ?_
        refine lv_istore_n (lv' := [(3, .int (zI (bendC c d (k12 : Int)))), (2, .int (zI (k12 : Int))), (5, .int (zI (bendC c d (k12 : Int)))), (4, .int (zI (k12 : Int))), (0, .ref (a 0)), (1, .int (zI d))]) S.1 S.2.1 dX4_spotOfGreatestBend_40 rfl hl (by decide) rfl (fun ls hl => ?_)
        refine z_iinc (lv' := [(4, .int (zI ((k12 : Int) + 1))), (3, .int (zI (bendC c d (k12 : Int)))), (2, .int (zI (k12 : Int))), (5, .int (zI (bendC c d (k12 : Int)))), (0, .ref (a 0)), (1, .int (zI d))]) S dX4_spotOfGreatestBend_41 hl (k := 3) rfl (by decide) rfl (fun ls hl => ?_)
        refine z_goto (tgt := 12) S dX4_spotOfGreatestBend_44 (by decide) ?_
        have e_7 : bendC c d (fm (bendC c d) (k12 + 1)) = bendC c d (k12 : Int) := by grind [fm]
        have e_8 : fm (bendC c d) (k12 + 1) = (k12 : Int) := by grind [fm]
        exact ih12 _ (lv_sub hl [0, 1, 2, 4, 5] (by show _ = ([(4, .int (zI ((k12 + 1 : Nat) : Int))), (3, .int (zI (bendC c d (fm (bendC c d) (k12 + 1))))), (2, .int (zI (fm (bendC c d) (k12 + 1)))), (0, .ref (a 0)), (1, .int (zI d))] : List (Nat × Value)); rw [e_7, e_8]; first | done | rfl)) (by omega)
  · have hl : lv_has ls 6 [(4, .int (zI ((400 : Nat) : Int))), (3, .int (zI (bendC c d (fm (bendC c d) 400)))), (2, .int (zI (fm (bendC c d) 400))), (0, .ref (a 0)), (1, .int (zI d))] := hl
    have hJ12 : 1 ≤ 400 := hJ12
    refine lv_iload S.1 S.2.1 dX4_spotOfGreatestBend_12 (lv_at hl 0 rfl) ?_
    refine z_sipush S (by decide) dX4_spotOfGreatestBend_14 ?_
    refine z_icmp_ge (tgt := 47) S dX4_spotOfGreatestBend_17 (by decide) (by omega) (fun h_9 => ?_) (fun h_9 => ?_)
    · refine lv_iload_n S.1 S.2.1 dX4_spotOfGreatestBend_47 rfl (lv_at hl 2 rfl) ?_
      exact z_ret S hr hlk (by first | rfl | grind) dX4_spotOfGreatestBend_48
    · exact absurd h_9 (by omega)
set_option maxHeartbeats 4000000 in
set_option maxRecDepth 100000 in
theorem m_X4_markPeg (l : Launch) (D : va_G) (g : ClassId × ClassId × ClassId) (a : Nat → Nat) {B : Int} (c : CS) (hI : IC B c) (hda : CD 21 a) (d : Int) (sp : Int) (h0 : 0 ≤ d ∧ d < 5) (h1 : 0 ≤ sp ∧ sp < 400) : WRi l yX4_markPeg cX4_markPeg 3 (some .int) 3 69 D g (CA 21 a) (CW g a c) [.ref (a 0), .int (zI d), .int (zI sp)] (CW g a (mrkC c d sp)) (b01 (mrk c d sp)) := by
  refine z_enter RX4 (by decide) rfl (Nat.le_of_ble_eq_true rfl) ?_
  intro p e s m args below meth co S hr hlk hK hP ls hl
  have hl : lv_has ls 3 [(0, .ref (a 0)), (1, .int (zI d)), (2, .int (zI sp))] := hl
  have hs := hI.s
  have hS : va_S (CA 21 a) s.heap s.heap [] := va_S.rf
  refine lv_aload_n S.1 S.2.1 dX4_markPeg_0 rfl (lv_at hl 0 rfl) ?_
  refine z_get (v := .ref (a 3)) S inA4 hK hP 0 rfl rfl 2 (by decide) fl_X4_26 rfl dX4_markPeg_1 ?_
  refine z_get (v := .int (zI (c.1 4))) S inA1 hK hP 3 rfl rfl 0 (by decide) fl_X4_232 rfl dX4_markPeg_4 ?_
  refine z_bipush S (by decide) dX4_markPeg_7 ?_
  refine z_icmp_ge (tgt := 36) S dX4_markPeg_9 (by decide) (by omega) (fun h_1 => ?_) (fun h_1 => ?_)
  · refine z_iconst S dX4_markPeg_36 ?_
    have hw : CW g a c = CW g a (mrkC c d sp) := by first | rw [mrkC, if_pos (by omega)] | rw [mrkC, if_neg (by omega)]
    rw [hw] at hP
    exact z_retw S hr hlk (by first | rfl | exact (b01_t (by omega)).symm | exact (b01_f (by omega)).symm) hP hS dX4_markPeg_37
  · refine lv_aload_n S.1 S.2.1 dX4_markPeg_12 rfl (lv_at hl 0 rfl) ?_
    refine z_get (v := .ref (a 3)) S inA4 hK hP 0 rfl rfl 2 (by decide) fl_X4_26 rfl dX4_markPeg_13 ?_
    refine lv_iload_n S.1 S.2.1 dX4_markPeg_16 rfl (lv_at hl 2 rfl) ?_
    refine z_rV (As := [.int (zI sp)]) (rest := []) S (m_X1_standsAt l D g a c hI sp (by omega)) ml_X4_121 im_X1_standsAt se_X1_standsAt ini_X1 cd_X1_standsAt ds_X1_standsAt ⟨Nat.le_of_ble_eq_true rfl, Nat.le_of_ble_eq_true rfl⟩ hK hP (va_recv hK.1 hP (ci := 1) (q0 := 3) rfl rfl) rfl hl.1 rfl (Nat.le_of_ble_eq_true rfl) ⟨Nat.zero_le _, Nat.zero_le _⟩ dX4_markPeg_17 ?_
    refine z_ifb_ne (tgt := 36) S dX4_markPeg_20 (by decide) (fun h_2 => ?_) (fun h_2 => ?_)
    · refine z_iconst S dX4_markPeg_36 ?_
      have hw : CW g a c = CW g a (mrkC c d sp) := by first | rw [mrkC, if_pos (by omega)] | rw [mrkC, if_neg (by omega)]
      rw [hw] at hP
      exact z_retw S hr hlk (by first | rfl | exact (b01_t (by omega)).symm | exact (b01_f (by omega)).symm) hP hS dX4_markPeg_37
    · refine lv_aload_n S.1 S.2.1 dX4_markPeg_23 rfl (lv_at hl 0 rfl) ?_
      refine lv_iload_n S.1 S.2.1 dX4_markPeg_24 rfl (lv_at hl 1 rfl) ?_
      refine lv_iload_n S.1 S.2.1 dX4_markPeg_25 rfl (lv_at hl 2 rfl) ?_
      refine z_rV (As := [.int (zI d), .int (zI sp)]) (rest := []) S (m_X4_bend l D g a c hI d sp (by omega) (by omega)) ml_X4_184 im_X4_bend se_X4_bend ini_X4 cd_X4_bend ds_X4_bend ⟨Nat.le_of_ble_eq_true rfl, Nat.le_of_ble_eq_true rfl⟩ hK hP (va_recv hK.1 hP (ci := 4) (q0 := 0) rfl rfl) rfl hl.1 rfl (Nat.le_of_ble_eq_true rfl) ⟨Nat.zero_le _, Nat.zero_le _⟩ dX4_markPeg_26 ?_
      have hb0 := bendC_b hI d sp
      refine lv_aload_n S.1 S.2.1 dX4_markPeg_29 rfl (lv_at hl 0 rfl) ?_
      refine z_get (v := .int (zI (c.1 0))) S inA4 hK hP 0 rfl rfl 4 (by decide) fl_X4_37 rfl dX4_markPeg_30 ?_
      refine z_icmp_ge (tgt := 38) S dX4_markPeg_33 (by decide) (by omega) (fun h_3 => ?_) (fun h_3 => ?_)
      · refine lv_aload_n S.1 S.2.1 dX4_markPeg_38 rfl (lv_at hl 0 rfl) ?_
        refine z_get (v := .ref (a 3)) S inA4 hK hP 0 rfl rfl 2 (by decide) fl_X4_26 rfl dX4_markPeg_39 ?_
        refine lv_iload_n S.1 S.2.1 dX4_markPeg_42 rfl (lv_at hl 2 rfl) ?_
        refine lv_iload_n S.1 S.2.1 dX4_markPeg_43 rfl (lv_at hl 1 rfl) ?_
        refine z_wVv (As := [.int (zI sp), .int (zI d)]) (rest := []) S (m_X1_add l D g a c hI hda sp d (by omega)) ml_X4_247 im_X1_add se_X1_add ini_X1 cd_X1_add ds_X1_add ⟨Nat.le_of_ble_eq_true rfl, Nat.le_of_ble_eq_true rfl⟩ hK hP (va_recv hK.1 hP (ci := 1) (q0 := 3) rfl rfl) rfl hl.1 rfl (Nat.le_of_ble_eq_true rfl) ⟨Nat.zero_le _, Nat.zero_le _⟩ hS (fun _ h => h) dX4_markPeg_44 (fun H locs hP _ _ hS => ?_)
        refine z_iconst S dX4_markPeg_47 ?_
        have hw : CW g a (sS (sA c 8 (upZ (c.2 8) sp d)) 4 (c.1 4 + 1)) = CW g a (mrkC c d sp) := by first | rw [mrkC, if_pos (by omega)] | rw [mrkC, if_neg (by omega)]
        rw [hw] at hP
        exact z_retw S hr hlk (by first | rfl | exact (b01_t (by omega)).symm | exact (b01_f (by omega)).symm) hP hS dX4_markPeg_48
      · refine z_iconst S dX4_markPeg_36 ?_
        have hw : CW g a c = CW g a (mrkC c d sp) := by first | rw [mrkC, if_pos (by omega)] | rw [mrkC, if_neg (by omega)]
        rw [hw] at hP
        exact z_retw S hr hlk (by first | rfl | exact (b01_t (by omega)).symm | exact (b01_f (by omega)).symm) hP hS dX4_markPeg_37
set_option maxHeartbeats 4000000 in
set_option maxRecDepth 100000 in
theorem m_X4_isTruePeg (l : Launch) (D : va_G) (g : ClassId × ClassId × ClassId) (a : Nat → Nat) {B : Int} (c : CS) (hI : IC B c) (sp : Int) (h0 : 0 ≤ sp ∧ sp < 400) : RD l yX4_isTruePeg cX4_isTruePeg 2 (some .boolean) 1 21 D g (CW g a c) [.ref (a 0), .int (zI sp)] (b01 (truP c sp)) := by
  refine z_enter RX4 (by decide) rfl (Nat.le_of_ble_eq_true rfl) ?_
  intro p e s m args below meth co S hr hlk hK hP ls hl
  have hl : lv_has ls 2 [(0, .ref (a 0)), (1, .int (zI sp))] := hl
  have hs := hI.s
  refine lv_aload_n S.1 S.2.1 dX4_isTruePeg_0 rfl (lv_at hl 0 rfl) ?_
  refine z_get (v := .ref (a 3)) S inA4 hK hP 0 rfl rfl 2 (by decide) fl_X4_26 rfl dX4_isTruePeg_1 ?_
  refine lv_iload_n S.1 S.2.1 dX4_isTruePeg_4 rfl (lv_at hl 1 rfl) ?_
  refine z_rV (As := [.int (zI sp)]) (rest := []) S (m_X1_standsAt l D g a c hI sp (by omega)) ml_X4_121 im_X1_standsAt se_X1_standsAt ini_X1 cd_X1_standsAt ds_X1_standsAt ⟨Nat.le_of_ble_eq_true rfl, Nat.le_of_ble_eq_true rfl⟩ hK hP (va_recv hK.1 hP (ci := 1) (q0 := 3) rfl rfl) rfl hl.1 rfl (Nat.le_of_ble_eq_true rfl) ⟨Nat.zero_le _, Nat.zero_le _⟩ dX4_isTruePeg_5 ?_
  refine z_ifb_eq (tgt := 27) S dX4_isTruePeg_8 (by decide) (fun h_1 => ?_) (fun h_1 => ?_)
  · refine z_iconst S dX4_isTruePeg_27 ?_
    exact z_retb S hr hlk (Or.inl rfl) ((b01_f (by omega)).symm) dX4_isTruePeg_28
  · refine lv_aload_n S.1 S.2.1 dX4_isTruePeg_11 rfl (lv_at hl 0 rfl) ?_
    refine z_get (v := .ref (a 1)) S inA4 hK hP 0 rfl rfl 0 (by decide) fl_X4_12 rfl dX4_isTruePeg_12 ?_
    refine z_get (v := .ref (a 8)) S inA3 hK hP 1 rfl rfl 4 (by decide) fl_X4_229 rfl dX4_isTruePeg_15 ?_
    refine lv_iload_n S.1 S.2.1 dX4_isTruePeg_18 rfl (lv_at hl 1 rfl) ?_
    refine z_iald S hK hP 8 rfl (by decide) (by omega) dX4_isTruePeg_19 ?_
    have hb_2 := hI.r3 sp
    refine z_if_le (tgt := 27) S dX4_isTruePeg_20 (by decide) (by omega) (fun h_3 => ?_) (fun h_3 => ?_)
    · refine z_iconst S dX4_isTruePeg_27 ?_
      exact z_retb S hr hlk (Or.inl rfl) ((b01_f (by omega)).symm) dX4_isTruePeg_28
    · refine z_iconst S dX4_isTruePeg_23 ?_
      refine z_goto (tgt := 28) S dX4_isTruePeg_24 (by decide) ?_
      exact z_retb S hr hlk (Or.inr rfl) ((b01_t (by omega)).symm) dX4_isTruePeg_28
set_option maxHeartbeats 4000000 in
set_option maxRecDepth 100000 in
theorem m_X4_trueOf (l : Launch) (D : va_G) (g : ClassId × ClassId × ClassId) (a : Nat → Nat) {B : Int} (c : CS) (hI : IC B c) (d : Int) (h0 : I32 d) : RD l yX4_trueOf cX4_trueOf 4 (some .int) 2 42 D g (CW g a c) [.ref (a 0), .int (zI d)] (truOf c d) := by
  refine z_enter RX4 (by decide) rfl (Nat.le_of_ble_eq_true rfl) ?_
  intro p e s m args below meth co S hr hlk hK hP ls hl
  have hl : lv_has ls 4 [(0, .ref (a 0)), (1, .int (zI d))] := hl
  have hs := hI.s
  refine z_iconst S dX4_trueOf_0 ?_
  refine lv_istore_n (lv' := [(2, .int (zI 0)), (0, .ref (a 0)), (1, .int (zI d))]) S.1 S.2.1 dX4_trueOf_1 rfl hl (by decide) rfl (fun ls hl => ?_)
  refine z_iconst S dX4_trueOf_2 ?_
  refine lv_istore_n (lv' := [(3, .int (zI 0)), (2, .int (zI 0)), (0, .ref (a 0)), (1, .int (zI d))]) S.1 S.2.1 dX4_trueOf_3 rfl hl (by decide) rfl (fun ls hl => ?_)
  refine z_for (nL := 4) (400) (fun (k4 : Nat) => [(3, .int (zI (k4 : Int))), (2, .int (zI (sm (fun j => b01 (c.2 8 j = d ∧ truP c j)) k4))), (0, .ref (a 0)), (1, .int (zI d))]) (fun k4 => True) (fun k4 hk4 hJ4 ls hl ih4 => ?_) (fun hJ4 ls hl => ?_) 0 (by omega) trivial ls (lv_sub hl [0, 1, 2, 3] rfl)
  · have hl : lv_has ls 4 [(3, .int (zI (k4 : Int))), (2, .int (zI (sm (fun j => b01 (c.2 8 j = d ∧ truP c j)) k4))), (0, .ref (a 0)), (1, .int (zI d))] := hl
    refine lv_iload_n S.1 S.2.1 dX4_trueOf_4 rfl (lv_at hl 0 rfl) ?_
    refine z_sipush S (by decide) dX4_trueOf_5 ?_
    refine z_icmp_ge (tgt := 41) S dX4_trueOf_8 (by decide) (by omega) (fun h_1 => ?_) (fun h_1 => ?_)
    · exact absurd h_1 (by omega)
    · refine lv_aload_n S.1 S.2.1 dX4_trueOf_11 rfl (lv_at hl 2 rfl) ?_
      refine z_get (v := .ref (a 3)) S inA4 hK hP 0 rfl rfl 2 (by decide) fl_X4_26 rfl dX4_trueOf_12 ?_
      refine z_get (v := .ref (a 13)) S inA1 hK hP 3 rfl rfl 1 (by decide) fl_X4_249 rfl dX4_trueOf_15 ?_
      refine lv_iload_n S.1 S.2.1 dX4_trueOf_18 rfl (lv_at hl 0 rfl) ?_
      refine z_iald S hK hP 13 rfl (by decide) (by omega) dX4_trueOf_19 ?_
      have hb_2 := hI.r8 (k4 : Int)
      refine lv_iload_n S.1 S.2.1 dX4_trueOf_20 rfl (lv_at hl 3 rfl) ?_
      refine z_icmp_ne (tgt := 35) S dX4_trueOf_21 (by decide) (by omega) (fun h_3 => ?_) (fun h_3 => ?_)
      · refine z_iinc (lv' := [(3, .int (zI ((k4 : Int) + 1))), (2, .int (zI (sm (fun j => b01 (c.2 8 j = d ∧ truP c j)) k4))), (0, .ref (a 0)), (1, .int (zI d))]) S dX4_trueOf_35 hl (k := 0) rfl (by decide) rfl (fun ls hl => ?_)
        refine z_goto (tgt := 4) S dX4_trueOf_38 (by decide) ?_
        have e_4 : sm (fun j => b01 (c.2 8 j = d ∧ truP c j)) (k4 + 1) = sm (fun j => b01 (c.2 8 j = d ∧ truP c j)) k4 := by grind [sm, b01]
        exact ih4 _ (lv_sub hl [0, 1, 2, 3] (by show _ = ([(3, .int (zI ((k4 + 1 : Nat) : Int))), (2, .int (zI (sm (fun j => b01 (c.2 8 j = d ∧ truP c j)) (k4 + 1)))), (0, .ref (a 0)), (1, .int (zI d))] : List (Nat × Value)); rw [e_4]; first | done | rfl)) trivial
      · refine lv_aload_n S.1 S.2.1 dX4_trueOf_24 rfl (lv_at hl 2 rfl) ?_
        refine lv_iload_n S.1 S.2.1 dX4_trueOf_25 rfl (lv_at hl 0 rfl) ?_
        refine z_rV (As := [.int (zI (k4 : Int))]) (rest := []) S (m_X4_isTruePeg l D g a c hI (k4 : Int) (by omega)) ml_X4_252 im_X4_isTruePeg se_X4_isTruePeg ini_X4 cd_X4_isTruePeg ds_X4_isTruePeg ⟨Nat.le_of_ble_eq_true rfl, Nat.le_of_ble_eq_true rfl⟩ hK hP (va_recv hK.1 hP (ci := 4) (q0 := 0) rfl rfl) rfl hl.1 rfl (Nat.le_of_ble_eq_true rfl) ⟨Nat.zero_le _, Nat.zero_le _⟩ dX4_trueOf_26 ?_
        refine z_ifb_eq (tgt := 35) S dX4_trueOf_29 (by decide) (fun h_5 => ?_) (fun h_5 => ?_)
        · refine z_iinc (lv' := [(3, .int (zI ((k4 : Int) + 1))), (2, .int (zI (sm (fun j => b01 (c.2 8 j = d ∧ truP c j)) k4))), (0, .ref (a 0)), (1, .int (zI d))]) S dX4_trueOf_35 hl (k := 0) rfl (by decide) rfl (fun ls hl => ?_)
          refine z_goto (tgt := 4) S dX4_trueOf_38 (by decide) ?_
          have e_6 : sm (fun j => b01 (c.2 8 j = d ∧ truP c j)) (k4 + 1) = sm (fun j => b01 (c.2 8 j = d ∧ truP c j)) k4 := by grind [sm, b01]
          exact ih4 _ (lv_sub hl [0, 1, 2, 3] (by show _ = ([(3, .int (zI ((k4 + 1 : Nat) : Int))), (2, .int (zI (sm (fun j => b01 (c.2 8 j = d ∧ truP c j)) (k4 + 1)))), (0, .ref (a 0)), (1, .int (zI d))] : List (Nat × Value)); rw [e_6]; first | done | rfl)) trivial
        · refine z_iinc (lv' := [(2, .int (zI ((sm (fun j => b01 (c.2 8 j = d ∧ truP c j)) k4) + 1))), (3, .int (zI (k4 : Int))), (0, .ref (a 0)), (1, .int (zI d))]) S dX4_trueOf_32 hl (k := 1) rfl (by decide) rfl (fun ls hl => ?_)
          refine z_iinc (lv' := [(3, .int (zI ((k4 : Int) + 1))), (2, .int (zI ((sm (fun j => b01 (c.2 8 j = d ∧ truP c j)) k4) + 1))), (0, .ref (a 0)), (1, .int (zI d))]) S dX4_trueOf_35 hl (k := 1) rfl (by decide) rfl (fun ls hl => ?_)
          refine z_goto (tgt := 4) S dX4_trueOf_38 (by decide) ?_
          have e_7 : sm (fun j => b01 (c.2 8 j = d ∧ truP c j)) (k4 + 1) = (sm (fun j => b01 (c.2 8 j = d ∧ truP c j)) k4) + 1 := by grind [sm, b01]
          exact ih4 _ (lv_sub hl [0, 1, 2, 3] (by show _ = ([(3, .int (zI ((k4 + 1 : Nat) : Int))), (2, .int (zI (sm (fun j => b01 (c.2 8 j = d ∧ truP c j)) (k4 + 1)))), (0, .ref (a 0)), (1, .int (zI d))] : List (Nat × Value)); rw [e_7]; first | done | rfl)) trivial
  · have hl : lv_has ls 4 [(3, .int (zI ((400 : Nat) : Int))), (2, .int (zI (sm (fun j => b01 (c.2 8 j = d ∧ truP c j)) 400))), (0, .ref (a 0)), (1, .int (zI d))] := hl
    refine lv_iload_n S.1 S.2.1 dX4_trueOf_4 rfl (lv_at hl 0 rfl) ?_
    refine z_sipush S (by decide) dX4_trueOf_5 ?_
    refine z_icmp_ge (tgt := 41) S dX4_trueOf_8 (by decide) (by omega) (fun h_8 => ?_) (fun h_8 => ?_)
    · refine lv_iload_n S.1 S.2.1 dX4_trueOf_41 rfl (lv_at hl 1 rfl) ?_
      exact z_ret S hr hlk (by first | rfl | grind) dX4_trueOf_42
    · exact absurd h_8 (by omega)
set_option maxHeartbeats 4000000 in
set_option maxRecDepth 100000 in
theorem m_X4_truePegs (l : Launch) (D : va_G) (g : ClassId × ClassId × ClassId) (a : Nat → Nat) {B : Int} (c : CS) (hI : IC B c) : RD l yX4_truePegs cX4_truePegs 3 (some .int) 2 42 D g (CW g a c) [.ref (a 0)] (truAll c) := by
  refine z_enter RX4 (by decide) rfl (Nat.le_of_ble_eq_true rfl) ?_
  intro p e s m args below meth co S hr hlk hK hP ls hl
  have hl : lv_has ls 3 [(0, .ref (a 0))] := hl
  have hs := hI.s
  refine z_iconst S dX4_truePegs_0 ?_
  refine lv_istore_n (lv' := [(1, .int (zI 0)), (0, .ref (a 0))]) S.1 S.2.1 dX4_truePegs_1 rfl hl (by decide) rfl (fun ls hl => ?_)
  refine z_iconst S dX4_truePegs_2 ?_
  refine lv_istore_n (lv' := [(2, .int (zI 0)), (1, .int (zI 0)), (0, .ref (a 0))]) S.1 S.2.1 dX4_truePegs_3 rfl hl (by decide) rfl (fun ls hl => ?_)
  refine z_for (nL := 3) (400) (fun (k4 : Nat) => [(2, .int (zI (k4 : Int))), (1, .int (zI (sm (fun j => b01 (truP c j)) k4))), (0, .ref (a 0))]) (fun k4 => True) (fun k4 hk4 hJ4 ls hl ih4 => ?_) (fun hJ4 ls hl => ?_) 0 (by omega) trivial ls (lv_sub hl [0, 1, 2] rfl)
  · have hl : lv_has ls 3 [(2, .int (zI (k4 : Int))), (1, .int (zI (sm (fun j => b01 (truP c j)) k4))), (0, .ref (a 0))] := hl
    refine lv_iload_n S.1 S.2.1 dX4_truePegs_4 rfl (lv_at hl 0 rfl) ?_
    refine z_sipush S (by decide) dX4_truePegs_5 ?_
    refine z_icmp_ge (tgt := 28) S dX4_truePegs_8 (by decide) (by omega) (fun h_1 => ?_) (fun h_1 => ?_)
    · exact absurd h_1 (by omega)
    · refine lv_aload_n S.1 S.2.1 dX4_truePegs_11 rfl (lv_at hl 2 rfl) ?_
      refine lv_iload_n S.1 S.2.1 dX4_truePegs_12 rfl (lv_at hl 0 rfl) ?_
      refine z_rV (As := [.int (zI (k4 : Int))]) (rest := []) S (m_X4_isTruePeg l D g a c hI (k4 : Int) (by omega)) ml_X4_252 im_X4_isTruePeg se_X4_isTruePeg ini_X4 cd_X4_isTruePeg ds_X4_isTruePeg ⟨Nat.le_of_ble_eq_true rfl, Nat.le_of_ble_eq_true rfl⟩ hK hP (va_recv hK.1 hP (ci := 4) (q0 := 0) rfl rfl) rfl hl.1 rfl (Nat.le_of_ble_eq_true rfl) ⟨Nat.zero_le _, Nat.zero_le _⟩ dX4_truePegs_13 ?_
      refine z_ifb_eq (tgt := 22) S dX4_truePegs_16 (by decide) (fun h_2 => ?_) (fun h_2 => ?_)
      · refine z_iinc (lv' := [(2, .int (zI ((k4 : Int) + 1))), (1, .int (zI (sm (fun j => b01 (truP c j)) k4))), (0, .ref (a 0))]) S dX4_truePegs_22 hl (k := 0) rfl (by decide) rfl (fun ls hl => ?_)
        refine z_goto (tgt := 4) S dX4_truePegs_25 (by decide) ?_
        have e_3 : sm (fun j => b01 (truP c j)) (k4 + 1) = sm (fun j => b01 (truP c j)) k4 := by grind [sm, b01]
        exact ih4 _ (lv_sub hl [0, 1, 2] (by show _ = ([(2, .int (zI ((k4 + 1 : Nat) : Int))), (1, .int (zI (sm (fun j => b01 (truP c j)) (k4 + 1)))), (0, .ref (a 0))] : List (Nat × Value)); rw [e_3]; first | done | rfl)) trivial
      · refine z_iinc (lv' := [(1, .int (zI ((sm (fun j => b01 (truP c j)) k4) + 1))), (2, .int (zI (k4 : Int))), (0, .ref (a 0))]) S dX4_truePegs_19 hl (k := 1) rfl (by decide) rfl (fun ls hl => ?_)
        refine z_iinc (lv' := [(2, .int (zI ((k4 : Int) + 1))), (1, .int (zI ((sm (fun j => b01 (truP c j)) k4) + 1))), (0, .ref (a 0))]) S dX4_truePegs_22 hl (k := 1) rfl (by decide) rfl (fun ls hl => ?_)
        refine z_goto (tgt := 4) S dX4_truePegs_25 (by decide) ?_
        have e_4 : sm (fun j => b01 (truP c j)) (k4 + 1) = (sm (fun j => b01 (truP c j)) k4) + 1 := by grind [sm, b01]
        exact ih4 _ (lv_sub hl [0, 1, 2] (by show _ = ([(2, .int (zI ((k4 + 1 : Nat) : Int))), (1, .int (zI (sm (fun j => b01 (truP c j)) (k4 + 1)))), (0, .ref (a 0))] : List (Nat × Value)); rw [e_4]; first | done | rfl)) trivial
  · have hl : lv_has ls 3 [(2, .int (zI ((400 : Nat) : Int))), (1, .int (zI (sm (fun j => b01 (truP c j)) 400))), (0, .ref (a 0))] := hl
    refine lv_iload_n S.1 S.2.1 dX4_truePegs_4 rfl (lv_at hl 0 rfl) ?_
    refine z_sipush S (by decide) dX4_truePegs_5 ?_
    refine z_icmp_ge (tgt := 28) S dX4_truePegs_8 (by decide) (by omega) (fun h_5 => ?_) (fun h_5 => ?_)
    · refine lv_iload_n S.1 S.2.1 dX4_truePegs_28 rfl (lv_at hl 1 rfl) ?_
      exact z_ret S hr hlk (by first | rfl | grind) dX4_truePegs_29
    · exact absurd h_5 (by omega)
set_option maxHeartbeats 4000000 in
set_option maxRecDepth 100000 in
theorem m_X4_payBets (l : Launch) (D : va_G) (g : ClassId × ClassId × ClassId) (a : Nat → Nat) {B : Int} (c : CS) (hI : IC B c) (hda : CD 21 a) (q : Int) (h0 : 0 ≤ q ∧ q < 10) (h1 : B ≤ 900000000) : WRv l yX4_payBets cX4_payBets 6 none 5 113 D g (CA 21 a) (CW g a c) [.ref (a 0), .int (zI q)] (CW g a (payC c q)) := by
  refine z_enter RX4 (by decide) rfl (Nat.le_of_ble_eq_true rfl) ?_
  intro p e s m args below meth co S hr hlk hK hP ls hl
  have hl : lv_has ls 6 [(0, .ref (a 0)), (1, .int (zI q))] := hl
  have hs := hI.s
  have hS : va_S (CA 21 a) s.heap s.heap [] := va_S.rf
  have hb0 := b01_01 (fnd c q)
  refine lv_aload_n S.1 S.2.1 dX4_payBets_0 rfl (lv_at hl 0 rfl) ?_
  refine z_get (v := .ref (a 4)) S inA4 hK hP 0 rfl rfl 3 (by decide) fl_X4_33 rfl dX4_payBets_1 ?_
  refine lv_iload_n S.1 S.2.1 dX4_payBets_4 rfl (lv_at hl 1 rfl) ?_
  refine z_rV (As := [.int (zI q)]) (rest := []) S (m_X2_hasFound l D g a c hI q (by omega)) ml_X4_255 im_X2_hasFound se_X2_hasFound ini_X2 cd_X2_hasFound ds_X2_hasFound ⟨Nat.le_of_ble_eq_true rfl, Nat.le_of_ble_eq_true rfl⟩ hK hP (va_recv hK.1 hP (ci := 2) (q0 := 4) rfl rfl) rfl hl.1 rfl (Nat.le_of_ble_eq_true rfl) ⟨Nat.zero_le _, Nat.zero_le _⟩ dX4_payBets_5 ?_
  refine lv_istore_n (lv' := [(2, .int (zI (b01 (fnd c q)))), (0, .ref (a 0)), (1, .int (zI q))]) S.1 S.2.1 dX4_payBets_8 rfl hl (by decide) rfl (fun ls hl => ?_)
  refine lv_aload_n S.1 S.2.1 dX4_payBets_9 rfl (lv_at hl 1 rfl) ?_
  refine z_get (v := .ref (a 4)) S inA4 hK hP 0 rfl rfl 3 (by decide) fl_X4_33 rfl dX4_payBets_10 ?_
  refine lv_iload_n S.1 S.2.1 dX4_payBets_13 rfl (lv_at hl 2 rfl) ?_
  refine z_rV (As := [.int (zI q)]) (rest := []) S (m_X2_allStaked l D g a c hI q (by omega)) ml_X4_258 im_X2_allStaked se_X2_allStaked ini_X2 cd_X2_allStaked ds_X2_allStaked ⟨Nat.le_of_ble_eq_true rfl, Nat.le_of_ble_eq_true rfl⟩ hK hP (va_recv hK.1 hP (ci := 2) (q0 := 4) rfl rfl) rfl hl.1 rfl (Nat.le_of_ble_eq_true rfl) ⟨Nat.zero_le _, Nat.zero_le _⟩ dX4_payBets_14 ?_
  refine lv_istore_n (lv' := [(3, .int (zI (allS c q))), (2, .int (zI (b01 (fnd c q)))), (0, .ref (a 0)), (1, .int (zI q))]) S.1 S.2.1 dX4_payBets_17 rfl hl (by decide) rfl (fun ls hl => ?_)
  refine z_iconst S dX4_payBets_18 ?_
  refine lv_istore (lv' := [(4, .int (zI 0)), (3, .int (zI (allS c q))), (2, .int (zI (b01 (fnd c q)))), (0, .ref (a 0)), (1, .int (zI q))]) S.1 S.2.1 dX4_payBets_19 hl (by decide) rfl (fun ls hl => ?_)
  refine z_forW (D := D) (nL := 6) (A := (CA 21 a)) (H0 := s.heap) ((c.1 3).toNat) (fun (k21 : Nat) => [(4, .int (zI (k21 : Int))), (3, .int (zI (left c q (b01 (fnd c q)) k21))), (2, .int (zI (b01 (fnd c q)))), (0, .ref (a 0)), (1, .int (zI q))]) (fun (k21 : Nat) => CW g a (payD c q (b01 (fnd c q)) k21)) (fun k21 => True) (fun k21 hk21 hJ21 H locs hP hS ls hl ih21 => ?_) (fun hJ21 H locs hP hS ls hl => ?_) 0 (by omega) trivial _ _ hP hS ls (lv_sub hl [0, 1, 2, 3, 4] rfl)
  · have hl : lv_has ls 6 [(4, .int (zI (k21 : Int))), (3, .int (zI (left c q (b01 (fnd c q)) k21))), (2, .int (zI (b01 (fnd c q)))), (0, .ref (a 0)), (1, .int (zI q))] := hl
    have hP : va_P D vwCl (CW g a (payD c q (b01 (fnd c q)) k21)) H := hP
    have hb1 := (payD_c c q (b01 (fnd c q)) k21).1
    have hb2 : (payD c q (b01 (fnd c q)) k21).1 3 = c.1 3 := congrFun hb1 3
    refine lv_iload S.1 S.2.1 dX4_payBets_21 (lv_at hl 0 rfl) ?_
    refine lv_aload_n S.1 S.2.1 dX4_payBets_23 rfl (lv_at hl 3 rfl) ?_
    refine z_get (v := .ref (a 2)) S inA4 hK hP 0 rfl rfl 1 (by decide) fl_X4_19 rfl dX4_payBets_24 ?_
    refine z_get (v := .int (zI ((payD c q (b01 (fnd c q)) k21).1 3))) S inA0 hK hP 2 rfl rfl 0 (by decide) fl_X4_88 rfl dX4_payBets_27 ?_
    refine z_icmp_ge (tgt := 72) S dX4_payBets_30 (by decide) (by omega) (fun h_1 => ?_) (fun h_1 => ?_)
    · exact absurd h_1 (by omega)
    · refine lv_aload_n S.1 S.2.1 dX4_payBets_33 rfl (lv_at hl 3 rfl) ?_
      refine z_get (v := .ref (a 4)) S inA4 hK hP 0 rfl rfl 3 (by decide) fl_X4_33 rfl dX4_payBets_34 ?_
      refine lv_iload_n S.1 S.2.1 dX4_payBets_37 rfl (lv_at hl 4 rfl) ?_
      refine lv_iload S.1 S.2.1 dX4_payBets_38 (lv_at hl 0 rfl) ?_
      refine lv_iload_n S.1 S.2.1 dX4_payBets_40 rfl (lv_at hl 2 rfl) ?_
      have hb_2 := b01_01 (fnd c q)
      refine z_rV (As := [.int (zI q), .int (zI (k21 : Int)), .int (zI (b01 (fnd c q)))]) (rest := []) S (m_X2_share l D g a (payD c q (b01 (fnd c q)) k21) (payD_IC hI h1 q (b01 (fnd c q)) k21) q (k21 : Int) (b01 (fnd c q)) (by omega) (by omega) (by omega)) ml_X4_207 im_X2_share se_X2_share ini_X2 cd_X2_share ds_X2_share ⟨Nat.le_of_ble_eq_true rfl, Nat.le_of_ble_eq_true rfl⟩ hK hP (va_recv hK.1 hP (ci := 2) (q0 := 4) rfl rfl) rfl hl.1 rfl (Nat.le_of_ble_eq_true rfl) ⟨Nat.zero_le _, Nat.zero_le _⟩ dX4_payBets_41 ?_
      refine lv_istore (lv' := [(5, .int (zI (shr (payD c q (b01 (fnd c q)) k21) q (k21 : Int) (b01 (fnd c q))))), (4, .int (zI (k21 : Int))), (3, .int (zI (left c q (b01 (fnd c q)) k21))), (2, .int (zI (b01 (fnd c q)))), (0, .ref (a 0)), (1, .int (zI q))]) S.1 S.2.1 dX4_payBets_44 hl (by decide) rfl (fun ls hl => ?_)
      refine lv_aload_n S.1 S.2.1 dX4_payBets_46 rfl (lv_at hl 4 rfl) ?_
      refine z_get (v := .ref (a 2)) S inA4 hK hP 0 rfl rfl 1 (by decide) fl_X4_19 rfl dX4_payBets_47 ?_
      refine z_get (v := .ref (a 12)) S inA0 hK hP 2 rfl rfl 3 (by decide) fl_X4_153 rfl dX4_payBets_50 ?_
      refine lv_iload S.1 S.2.1 dX4_payBets_53 (lv_at hl 1 rfl) ?_
      refine lv_dup2_11 S.1 S.2.1 dX4_payBets_55 rfl rfl ?_
      refine z_iald S hK hP 12 rfl (by decide) (by omega) dX4_payBets_56 ?_
      have hb_3 := (payD_IC hI h1 q (b01 (fnd c q)) k21).r7 (k21 : Int)
      refine lv_iload S.1 S.2.1 dX4_payBets_57 (lv_at hl 0 rfl) ?_
      refine z_iadd S dX4_payBets_59 ?_
      refine z_iast S hK hP (CW_D hda _) hS 12 rfl (by decide) (by omega) dX4_payBets_60 (fun H locs hP hS => ?_)
      have hP : va_P D vwCl (CW g a (sA (payD c q (b01 (fnd c q)) k21) 7 (upZ ((payD c q (b01 (fnd c q)) k21).2 7) (k21 : Int) (((payD c q (b01 (fnd c q)) k21).2 7 (k21 : Int)) + (shr (payD c q (b01 (fnd c q)) k21) q (k21 : Int) (b01 (fnd c q))))))) H := hP
      refine lv_iload_n S.1 S.2.1 dX4_payBets_61 rfl (lv_at hl 2 rfl) ?_
      refine lv_iload S.1 S.2.1 dX4_payBets_62 (lv_at hl 0 rfl) ?_
      refine z_isub S dX4_payBets_64 ?_
      refine lv_istore_n (lv' := [(3, .int (zI ((left c q (b01 (fnd c q)) k21) - (shr (payD c q (b01 (fnd c q)) k21) q (k21 : Int) (b01 (fnd c q)))))), (5, .int (zI (shr (payD c q (b01 (fnd c q)) k21) q (k21 : Int) (b01 (fnd c q))))), (4, .int (zI (k21 : Int))), (2, .int (zI (b01 (fnd c q)))), (0, .ref (a 0)), (1, .int (zI q))]) S.1 S.2.1 dX4_payBets_65 rfl hl (by decide) rfl (fun ls hl => ?_)
      refine z_iinc (lv' := [(4, .int (zI ((k21 : Int) + 1))), (3, .int (zI ((left c q (b01 (fnd c q)) k21) - (shr (payD c q (b01 (fnd c q)) k21) q (k21 : Int) (b01 (fnd c q)))))), (5, .int (zI (shr (payD c q (b01 (fnd c q)) k21) q (k21 : Int) (b01 (fnd c q))))), (2, .int (zI (b01 (fnd c q)))), (0, .ref (a 0)), (1, .int (zI q))]) S dX4_payBets_66 hl (k := 2) rfl (by decide) rfl (fun ls hl => ?_)
      refine z_goto (tgt := 21) S dX4_payBets_69 (by decide) ?_
      have hw : CW g a (sA (payD c q (b01 (fnd c q)) k21) 7 (upZ ((payD c q (b01 (fnd c q)) k21).2 7) (k21 : Int) (((payD c q (b01 (fnd c q)) k21).2 7 (k21 : Int)) + (shr (payD c q (b01 (fnd c q)) k21) q (k21 : Int) (b01 (fnd c q)))))) = CW g a (payD c q (b01 (fnd c q)) (k21 + 1)) := by exact rfl
      rw [hw] at hP
      exact ih21 _ _ hP hS _ (lv_sub hl [0, 1, 3, 4, 5] rfl) trivial
  · have hl : lv_has ls 6 [(4, .int (zI (((c.1 3).toNat : Nat) : Int))), (3, .int (zI (left c q (b01 (fnd c q)) ((c.1 3).toNat)))), (2, .int (zI (b01 (fnd c q)))), (0, .ref (a 0)), (1, .int (zI q))] := hl
    have hP : va_P D vwCl (CW g a (payD c q (b01 (fnd c q)) ((c.1 3).toNat))) H := hP
    have hb1 := (payD_c c q (b01 (fnd c q)) ((c.1 3).toNat)).1
    have hb2 : (payD c q (b01 (fnd c q)) ((c.1 3).toNat)).1 3 = c.1 3 := congrFun hb1 3
    refine lv_iload S.1 S.2.1 dX4_payBets_21 (lv_at hl 0 rfl) ?_
    refine lv_aload_n S.1 S.2.1 dX4_payBets_23 rfl (lv_at hl 3 rfl) ?_
    refine z_get (v := .ref (a 2)) S inA4 hK hP 0 rfl rfl 1 (by decide) fl_X4_19 rfl dX4_payBets_24 ?_
    refine z_get (v := .int (zI ((payD c q (b01 (fnd c q)) ((c.1 3).toNat)).1 3))) S inA0 hK hP 2 rfl rfl 0 (by decide) fl_X4_88 rfl dX4_payBets_27 ?_
    refine z_icmp_ge (tgt := 72) S dX4_payBets_30 (by decide) (by omega) (fun h_4 => ?_) (fun h_4 => ?_)
    · refine lv_aload_n S.1 S.2.1 dX4_payBets_72 rfl (lv_at hl 3 rfl) ?_
      refine lv_dup S.1 S.2.1 dX4_payBets_73 rfl ?_
      refine z_get (v := .int (zI ((payD c q (b01 (fnd c q)) ((c.1 3).toNat)).1 1))) S inA4 hK hP 0 rfl rfl 5 (by decide) fl_X4_41 rfl dX4_payBets_74 ?_
      refine lv_iload_n S.1 S.2.1 dX4_payBets_77 rfl (lv_at hl 1 rfl) ?_
      refine z_iadd S dX4_payBets_78 ?_
      refine z_put S inA4 tyX4 tyX4_ok nmX4 hK hP (CW_D hda _) hS 0 rfl rfl 5 (by decide) fl_X4_41 rfl (by decide +kernel) (Nat.le_of_ble_eq_true rfl) dX4_payBets_79 (fun H locs hP hS => ?_)
      have hP : va_P D vwCl (CW g a (sS (payD c q (b01 (fnd c q)) ((c.1 3).toNat)) 1 (((payD c q (b01 (fnd c q)) ((c.1 3).toNat)).1 1) + (left c q (b01 (fnd c q)) ((c.1 3).toNat))))) H := hP
      have hw : CW g a (sS (payD c q (b01 (fnd c q)) ((c.1 3).toNat)) 1 (((payD c q (b01 (fnd c q)) ((c.1 3).toNat)).1 1) + (left c q (b01 (fnd c q)) ((c.1 3).toNat)))) = CW g a (payC c q) := by exact rfl
      rw [hw] at hP
      exact z_retv S hr hlk hP hS dX4_payBets_82
    · exact absurd h_4 (by omega)
set_option maxHeartbeats 4000000 in
set_option maxRecDepth 100000 in
theorem m_X4_tellSpot (l : Launch) (D : va_G) (g : ClassId × ClassId × ClassId) (a : Nat → Nat) {B : Int} (c : CS) (hI : IC B c) (sp : Int) (what : Int) (h0 : 0 ≤ sp ∧ sp < 400) (h1 : 0 ≤ what ∧ what ≤ 5) : RD l yX4_tellSpot cX4_tellSpot 3 (some .int) 4 88 D g (CW g a c) [.ref (a 0), .int (zI sp), .int (zI what)] (spotT c sp what) := by
  refine z_enter RX4 (by decide) rfl (Nat.le_of_ble_eq_true rfl) ?_
  intro p e s m args below meth co S hr hlk hK hP ls hl
  have hl : lv_has ls 3 [(0, .ref (a 0)), (1, .int (zI sp)), (2, .int (zI what))] := hl
  have hs := hI.s
  refine lv_iload_n S.1 S.2.1 dX4_tellSpot_0 rfl (lv_at hl 2 rfl) ?_
  rcases (show what = 0 ∨ what = 1 ∨ what = 2 ∨ what = 3 ∨ what = 4 ∨ (what < 0 ∨ 4 < what) by omega) with h_1 | h_1 | h_1 | h_1 | h_1 | h_1
  · refine z_tabIn (off := 35) (tgt := 36) S 0 h_1 (by decide) dX4_tellSpot_1 (by decide) (by decide) rfl (by decide) ?_
    refine lv_aload_n S.1 S.2.1 dX4_tellSpot_36 rfl (lv_at hl 0 rfl) ?_
    refine z_get (v := .ref (a 1)) S inA4 hK hP 0 rfl rfl 0 (by decide) fl_X4_12 rfl dX4_tellSpot_37 ?_
    refine z_get (v := .ref (a 8)) S inA3 hK hP 1 rfl rfl 4 (by decide) fl_X4_229 rfl dX4_tellSpot_40 ?_
    refine lv_iload_n S.1 S.2.1 dX4_tellSpot_43 rfl (lv_at hl 1 rfl) ?_
    refine z_iald S hK hP 8 rfl (by decide) (by omega) dX4_tellSpot_44 ?_
    have hb_2 := hI.r3 sp
    exact z_ret S hr hlk (by grind [spotT]) dX4_tellSpot_45
  · refine z_tabIn (off := 45) (tgt := 46) S 1 h_1 (by decide) dX4_tellSpot_1 (by decide) (by decide) rfl (by decide) ?_
    refine lv_aload_n S.1 S.2.1 dX4_tellSpot_46 rfl (lv_at hl 0 rfl) ?_
    refine z_get (v := .ref (a 1)) S inA4 hK hP 0 rfl rfl 0 (by decide) fl_X4_12 rfl dX4_tellSpot_47 ?_
    refine z_get (v := .ref (a 9)) S inA3 hK hP 1 rfl rfl 5 (by decide) fl_X4_136 rfl dX4_tellSpot_50 ?_
    refine lv_iload_n S.1 S.2.1 dX4_tellSpot_53 rfl (lv_at hl 1 rfl) ?_
    refine z_iald S hK hP 9 rfl (by decide) (by omega) dX4_tellSpot_54 ?_
    have hb_3 := hI.r4 sp
    exact z_ret S hr hlk (by grind [spotT]) dX4_tellSpot_55
  · refine z_tabIn (off := 55) (tgt := 56) S 2 h_1 (by decide) dX4_tellSpot_1 (by decide) (by decide) rfl (by decide) ?_
    refine lv_aload_n S.1 S.2.1 dX4_tellSpot_56 rfl (lv_at hl 0 rfl) ?_
    refine z_get (v := .ref (a 3)) S inA4 hK hP 0 rfl rfl 2 (by decide) fl_X4_26 rfl dX4_tellSpot_57 ?_
    refine z_get (v := .ref (a 13)) S inA1 hK hP 3 rfl rfl 1 (by decide) fl_X4_249 rfl dX4_tellSpot_60 ?_
    refine lv_iload_n S.1 S.2.1 dX4_tellSpot_63 rfl (lv_at hl 1 rfl) ?_
    refine z_iald S hK hP 13 rfl (by decide) (by omega) dX4_tellSpot_64 ?_
    have hb_4 := hI.r8 sp
    exact z_ret S hr hlk (by grind [spotT]) dX4_tellSpot_65
  · refine z_tabIn (off := 65) (tgt := 66) S 3 h_1 (by decide) dX4_tellSpot_1 (by decide) (by decide) rfl (by decide) ?_
    refine lv_aload_n S.1 S.2.1 dX4_tellSpot_66 rfl (lv_at hl 0 rfl) ?_
    refine z_get (v := .ref (a 4)) S inA4 hK hP 0 rfl rfl 3 (by decide) fl_X4_33 rfl dX4_tellSpot_67 ?_
    refine z_get (v := .ref (a 15)) S inA2 hK hP 4 rfl rfl 1 (by decide) fl_X4_130 rfl dX4_tellSpot_70 ?_
    refine lv_iload_n S.1 S.2.1 dX4_tellSpot_73 rfl (lv_at hl 1 rfl) ?_
    refine z_iald S hK hP 15 rfl (by decide) (by omega) dX4_tellSpot_74 ?_
    have hb_5 := hI.r10 sp
    exact z_ret S hr hlk (by grind [spotT]) dX4_tellSpot_75
  · refine z_tabIn (off := 75) (tgt := 76) S 4 h_1 (by decide) dX4_tellSpot_1 (by decide) (by decide) rfl (by decide) ?_
    refine lv_aload_n S.1 S.2.1 dX4_tellSpot_76 rfl (lv_at hl 0 rfl) ?_
    refine z_get (v := .ref (a 3)) S inA4 hK hP 0 rfl rfl 2 (by decide) fl_X4_26 rfl dX4_tellSpot_77 ?_
    refine lv_iload_n S.1 S.2.1 dX4_tellSpot_80 rfl (lv_at hl 1 rfl) ?_
    refine z_rV (As := [.int (zI sp)]) (rest := []) S (m_X1_besides l D g a c hI sp (by omega)) ml_X4_261 im_X1_besides se_X1_besides ini_X1 cd_X1_besides ds_X1_besides ⟨Nat.le_of_ble_eq_true rfl, Nat.le_of_ble_eq_true rfl⟩ hK hP (va_recv hK.1 hP (ci := 1) (q0 := 3) rfl rfl) rfl hl.1 rfl (Nat.le_of_ble_eq_true rfl) ⟨Nat.zero_le _, Nat.zero_le _⟩ dX4_tellSpot_81 ?_
    exact z_ret S hr hlk (by grind [spotT]) dX4_tellSpot_84
  · refine z_tabOut (tgt := 85) S (by omega) dX4_tellSpot_1 h_1 (by decide) ?_
    refine lv_aload_n S.1 S.2.1 dX4_tellSpot_85 rfl (lv_at hl 0 rfl) ?_
    refine z_get (v := .ref (a 3)) S inA4 hK hP 0 rfl rfl 2 (by decide) fl_X4_26 rfl dX4_tellSpot_86 ?_
    refine lv_iload_n S.1 S.2.1 dX4_tellSpot_89 rfl (lv_at hl 1 rfl) ?_
    refine z_rV (As := [.int (zI sp)]) (rest := []) S (m_X1_nearest l D g a c hI sp (by omega)) ml_X4_264 im_X1_nearest se_X1_nearest ini_X1 cd_X1_nearest ds_X1_nearest ⟨Nat.le_of_ble_eq_true rfl, Nat.le_of_ble_eq_true rfl⟩ hK hP (va_recv hK.1 hP (ci := 1) (q0 := 3) rfl rfl) rfl hl.1 rfl (Nat.le_of_ble_eq_true rfl) ⟨Nat.zero_le _, Nat.zero_le _⟩ dX4_tellSpot_90 ?_
    exact z_ret S hr hlk (by grind [spotT]) dX4_tellSpot_93
set_option maxHeartbeats 4000000 in
set_option maxRecDepth 100000 in
theorem m_X4_tellDowser (l : Launch) (D : va_G) (g : ClassId × ClassId × ClassId) (a : Nat → Nat) {B : Int} (c : CS) (hI : IC B c) (d : Int) (what : Int) (h0 : 0 ≤ d ∧ d < 5) (h1 : 0 ≤ what ∧ what ≤ 7) : RD l yX4_tellDowser cX4_tellDowser 3 (some .int) 3 68 D g (CW g a c) [.ref (a 0), .int (zI d), .int (zI what)] (dowT c d what) := by
  refine z_enter RX4 (by decide) rfl (Nat.le_of_ble_eq_true rfl) ?_
  intro p e s m args below meth co S hr hlk hK hP ls hl
  have hl : lv_has ls 3 [(0, .ref (a 0)), (1, .int (zI d)), (2, .int (zI what))] := hl
  have hs := hI.s
  refine lv_iload_n S.1 S.2.1 dX4_tellDowser_0 rfl (lv_at hl 2 rfl) ?_
  rcases (show what = 0 ∨ what = 1 ∨ what = 2 ∨ what = 3 ∨ what = 4 ∨ what = 5 ∨ what = 6 ∨ (what < 0 ∨ 6 < what) by omega) with h_1 | h_1 | h_1 | h_1 | h_1 | h_1 | h_1 | h_1
  · refine z_tabIn (off := 43) (tgt := 44) S 0 h_1 (by decide) dX4_tellDowser_1 (by decide) (by decide) rfl (by decide) ?_
    refine lv_aload_n S.1 S.2.1 dX4_tellDowser_44 rfl (lv_at hl 0 rfl) ?_
    refine z_get (v := .ref (a 2)) S inA4 hK hP 0 rfl rfl 1 (by decide) fl_X4_19 rfl dX4_tellDowser_45 ?_
    refine z_get (v := .ref (a 10)) S inA0 hK hP 2 rfl rfl 1 (by decide) fl_X4_237 rfl dX4_tellDowser_48 ?_
    refine lv_iload_n S.1 S.2.1 dX4_tellDowser_51 rfl (lv_at hl 1 rfl) ?_
    refine z_iald S hK hP 10 rfl (by decide) (by omega) dX4_tellDowser_52 ?_
    have hb_2 := hI.r5 d
    exact z_ret S hr hlk (by grind [dowT]) dX4_tellDowser_53
  · refine z_tabIn (off := 53) (tgt := 54) S 1 h_1 (by decide) dX4_tellDowser_1 (by decide) (by decide) rfl (by decide) ?_
    refine lv_aload_n S.1 S.2.1 dX4_tellDowser_54 rfl (lv_at hl 0 rfl) ?_
    refine z_get (v := .ref (a 2)) S inA4 hK hP 0 rfl rfl 1 (by decide) fl_X4_19 rfl dX4_tellDowser_55 ?_
    refine z_get (v := .ref (a 11)) S inA0 hK hP 2 rfl rfl 2 (by decide) fl_X4_241 rfl dX4_tellDowser_58 ?_
    refine lv_iload_n S.1 S.2.1 dX4_tellDowser_61 rfl (lv_at hl 1 rfl) ?_
    refine z_iald S hK hP 11 rfl (by decide) (by omega) dX4_tellDowser_62 ?_
    have hb_3 := hI.r6 d
    exact z_ret S hr hlk (by grind [dowT]) dX4_tellDowser_63
  · refine z_tabIn (off := 63) (tgt := 64) S 2 h_1 (by decide) dX4_tellDowser_1 (by decide) (by decide) rfl (by decide) ?_
    refine lv_aload_n S.1 S.2.1 dX4_tellDowser_64 rfl (lv_at hl 0 rfl) ?_
    refine z_get (v := .ref (a 2)) S inA4 hK hP 0 rfl rfl 1 (by decide) fl_X4_19 rfl dX4_tellDowser_65 ?_
    refine z_get (v := .ref (a 12)) S inA0 hK hP 2 rfl rfl 3 (by decide) fl_X4_153 rfl dX4_tellDowser_68 ?_
    refine lv_iload_n S.1 S.2.1 dX4_tellDowser_71 rfl (lv_at hl 1 rfl) ?_
    refine z_iald S hK hP 12 rfl (by decide) (by omega) dX4_tellDowser_72 ?_
    have hb_4 := hI.r7 d
    exact z_ret S hr hlk (by grind [dowT]) dX4_tellDowser_73
  · refine z_tabIn (off := 73) (tgt := 74) S 3 h_1 (by decide) dX4_tellDowser_1 (by decide) (by decide) rfl (by decide) ?_
    refine lv_aload_n S.1 S.2.1 dX4_tellDowser_74 rfl (lv_at hl 0 rfl) ?_
    refine z_get (v := .ref (a 3)) S inA4 hK hP 0 rfl rfl 2 (by decide) fl_X4_26 rfl dX4_tellDowser_75 ?_
    refine lv_iload_n S.1 S.2.1 dX4_tellDowser_78 rfl (lv_at hl 1 rfl) ?_
    refine z_rV (As := [.int (zI d)]) (rest := []) S (m_X1_standingOf l D g a c hI d (by omega)) ml_X4_220 im_X1_standingOf se_X1_standingOf ini_X1 cd_X1_standingOf ds_X1_standingOf ⟨Nat.le_of_ble_eq_true rfl, Nat.le_of_ble_eq_true rfl⟩ hK hP (va_recv hK.1 hP (ci := 1) (q0 := 3) rfl rfl) rfl hl.1 rfl (Nat.le_of_ble_eq_true rfl) ⟨Nat.zero_le _, Nat.zero_le _⟩ dX4_tellDowser_79 ?_
    exact z_ret S hr hlk (by grind [dowT]) dX4_tellDowser_82
  · refine z_tabIn (off := 82) (tgt := 83) S 4 h_1 (by decide) dX4_tellDowser_1 (by decide) (by decide) rfl (by decide) ?_
    refine lv_aload_n S.1 S.2.1 dX4_tellDowser_83 rfl (lv_at hl 0 rfl) ?_
    refine lv_iload_n S.1 S.2.1 dX4_tellDowser_84 rfl (lv_at hl 1 rfl) ?_
    refine z_rV (As := [.int (zI d)]) (rest := []) S (m_X4_trueOf l D g a c hI d (by omega)) ml_X4_223 im_X4_trueOf se_X4_trueOf ini_X4 cd_X4_trueOf ds_X4_trueOf ⟨Nat.le_of_ble_eq_true rfl, Nat.le_of_ble_eq_true rfl⟩ hK hP (va_recv hK.1 hP (ci := 4) (q0 := 0) rfl rfl) rfl hl.1 rfl (Nat.le_of_ble_eq_true rfl) ⟨Nat.zero_le _, Nat.zero_le _⟩ dX4_tellDowser_85 ?_
    exact z_ret S hr hlk (by grind [dowT]) dX4_tellDowser_88
  · refine z_tabIn (off := 88) (tgt := 89) S 5 h_1 (by decide) dX4_tellDowser_1 (by decide) (by decide) rfl (by decide) ?_
    refine lv_aload_n S.1 S.2.1 dX4_tellDowser_89 rfl (lv_at hl 0 rfl) ?_
    refine z_get (v := .ref (a 4)) S inA4 hK hP 0 rfl rfl 3 (by decide) fl_X4_33 rfl dX4_tellDowser_90 ?_
    refine lv_iload_n S.1 S.2.1 dX4_tellDowser_93 rfl (lv_at hl 1 rfl) ?_
    refine z_rV (As := [.int (zI d)]) (rest := []) S (m_X2_unpaidOf l D g a c hI d (by omega)) ml_X4_267 im_X2_unpaidOf se_X2_unpaidOf ini_X2 cd_X2_unpaidOf ds_X2_unpaidOf ⟨Nat.le_of_ble_eq_true rfl, Nat.le_of_ble_eq_true rfl⟩ hK hP (va_recv hK.1 hP (ci := 2) (q0 := 4) rfl rfl) rfl hl.1 rfl (Nat.le_of_ble_eq_true rfl) ⟨Nat.zero_le _, Nat.zero_le _⟩ dX4_tellDowser_94 ?_
    exact z_ret S hr hlk (by grind [dowT]) dX4_tellDowser_97
  · refine z_tabIn (off := 97) (tgt := 98) S 6 h_1 (by decide) dX4_tellDowser_1 (by decide) (by decide) rfl (by decide) ?_
    refine lv_aload_n S.1 S.2.1 dX4_tellDowser_98 rfl (lv_at hl 0 rfl) ?_
    refine z_get (v := .ref (a 4)) S inA4 hK hP 0 rfl rfl 3 (by decide) fl_X4_33 rfl dX4_tellDowser_99 ?_
    refine lv_iload_n S.1 S.2.1 dX4_tellDowser_102 rfl (lv_at hl 1 rfl) ?_
    refine z_iconst S dX4_tellDowser_103 ?_
    refine z_rV (As := [.int (zI d), .int (zI 1)]) (rest := []) S (m_X2_paidBetsOf l D g a c hI d 1 (by omega) (by omega)) ml_X4_270 im_X2_paidBetsOf se_X2_paidBetsOf ini_X2 cd_X2_paidBetsOf ds_X2_paidBetsOf ⟨Nat.le_of_ble_eq_true rfl, Nat.le_of_ble_eq_true rfl⟩ hK hP (va_recv hK.1 hP (ci := 2) (q0 := 4) rfl rfl) rfl hl.1 rfl (Nat.le_of_ble_eq_true rfl) ⟨Nat.zero_le _, Nat.zero_le _⟩ dX4_tellDowser_104 ?_
    exact z_ret S hr hlk (by grind [dowT]) dX4_tellDowser_107
  · refine z_tabOut (tgt := 108) S (by omega) dX4_tellDowser_1 h_1 (by decide) ?_
    refine lv_aload_n S.1 S.2.1 dX4_tellDowser_108 rfl (lv_at hl 0 rfl) ?_
    refine z_get (v := .ref (a 4)) S inA4 hK hP 0 rfl rfl 3 (by decide) fl_X4_33 rfl dX4_tellDowser_109 ?_
    refine lv_iload_n S.1 S.2.1 dX4_tellDowser_112 rfl (lv_at hl 1 rfl) ?_
    refine z_iconst S dX4_tellDowser_113 ?_
    refine z_rV (As := [.int (zI d), .int (zI 0)]) (rest := []) S (m_X2_paidBetsOf l D g a c hI d 0 (by omega) (by omega)) ml_X4_270 im_X2_paidBetsOf se_X2_paidBetsOf ini_X2 cd_X2_paidBetsOf ds_X2_paidBetsOf ⟨Nat.le_of_ble_eq_true rfl, Nat.le_of_ble_eq_true rfl⟩ hK hP (va_recv hK.1 hP (ci := 2) (q0 := 4) rfl rfl) rfl hl.1 rfl (Nat.le_of_ble_eq_true rfl) ⟨Nat.zero_le _, Nat.zero_le _⟩ dX4_tellDowser_114 ?_
    exact z_ret S hr hlk (by grind [dowT]) dX4_tellDowser_117
set_option maxHeartbeats 4000000 in
set_option maxRecDepth 100000 in
theorem m_X4_tellCount (l : Launch) (D : va_G) (g : ClassId × ClassId × ClassId) (a : Nat → Nat) {B : Int} (c : CS) (hI : IC B c) (what : Int) (h1 : 0 ≤ what ∧ what ≤ 8) : RD l yX4_tellCount cX4_tellCount 2 (some .int) 3 64 D g (CW g a c) [.ref (a 0), .int (zI what)] (cntT c what) := by
  refine z_enter RX4 (by decide) rfl (Nat.le_of_ble_eq_true rfl) ?_
  intro p e s m args below meth co S hr hlk hK hP ls hl
  have hl : lv_has ls 2 [(0, .ref (a 0)), (1, .int (zI what))] := hl
  have hs := hI.s
  refine lv_iload_n S.1 S.2.1 dX4_tellCount_0 rfl (lv_at hl 1 rfl) ?_
  rcases (show what = 0 ∨ what = 1 ∨ what = 2 ∨ what = 3 ∨ what = 4 ∨ what = 5 ∨ what = 6 ∨ what = 7 ∨ (what < 0 ∨ 7 < what) by omega) with h_1 | h_1 | h_1 | h_1 | h_1 | h_1 | h_1 | h_1 | h_1
  · refine z_tabIn (off := 47) (tgt := 48) S 0 h_1 (by decide) dX4_tellCount_1 (by decide) (by decide) rfl (by decide) ?_
    refine lv_aload_n S.1 S.2.1 dX4_tellCount_48 rfl (lv_at hl 0 rfl) ?_
    refine z_get (v := .ref (a 1)) S inA4 hK hP 0 rfl rfl 0 (by decide) fl_X4_12 rfl dX4_tellCount_49 ?_
    refine z_get (v := .int (zI (c.1 2))) S inA3 hK hP 1 rfl rfl 0 (by decide) fl_X4_70 rfl dX4_tellCount_52 ?_
    exact z_ret S hr hlk (by grind [cntT]) dX4_tellCount_55
  · refine z_tabIn (off := 55) (tgt := 56) S 1 h_1 (by decide) dX4_tellCount_1 (by decide) (by decide) rfl (by decide) ?_
    refine lv_aload_n S.1 S.2.1 dX4_tellCount_56 rfl (lv_at hl 0 rfl) ?_
    refine z_get (v := .ref (a 2)) S inA4 hK hP 0 rfl rfl 1 (by decide) fl_X4_19 rfl dX4_tellCount_57 ?_
    refine z_get (v := .int (zI (c.1 3))) S inA0 hK hP 2 rfl rfl 0 (by decide) fl_X4_88 rfl dX4_tellCount_60 ?_
    exact z_ret S hr hlk (by grind [cntT]) dX4_tellCount_63
  · refine z_tabIn (off := 63) (tgt := 64) S 2 h_1 (by decide) dX4_tellCount_1 (by decide) (by decide) rfl (by decide) ?_
    refine lv_aload_n S.1 S.2.1 dX4_tellCount_64 rfl (lv_at hl 0 rfl) ?_
    refine z_get (v := .ref (a 3)) S inA4 hK hP 0 rfl rfl 2 (by decide) fl_X4_26 rfl dX4_tellCount_65 ?_
    refine z_get (v := .int (zI (c.1 4))) S inA1 hK hP 3 rfl rfl 0 (by decide) fl_X4_232 rfl dX4_tellCount_68 ?_
    exact z_ret S hr hlk (by grind [cntT]) dX4_tellCount_71
  · refine z_tabIn (off := 71) (tgt := 72) S 3 h_1 (by decide) dX4_tellCount_1 (by decide) (by decide) rfl (by decide) ?_
    refine lv_aload_n S.1 S.2.1 dX4_tellCount_72 rfl (lv_at hl 0 rfl) ?_
    refine z_get (v := .ref (a 4)) S inA4 hK hP 0 rfl rfl 3 (by decide) fl_X4_33 rfl dX4_tellCount_73 ?_
    refine z_get (v := .int (zI (c.1 5))) S inA2 hK hP 4 rfl rfl 0 (by decide) fl_X4_129 rfl dX4_tellCount_76 ?_
    exact z_ret S hr hlk (by grind [cntT]) dX4_tellCount_79
  · refine z_tabIn (off := 79) (tgt := 80) S 4 h_1 (by decide) dX4_tellCount_1 (by decide) (by decide) rfl (by decide) ?_
    refine lv_aload_n S.1 S.2.1 dX4_tellCount_80 rfl (lv_at hl 0 rfl) ?_
    refine z_get (v := .int (zI (c.1 0))) S inA4 hK hP 0 rfl rfl 4 (by decide) fl_X4_37 rfl dX4_tellCount_81 ?_
    exact z_ret S hr hlk (by grind [cntT]) dX4_tellCount_84
  · refine z_tabIn (off := 84) (tgt := 85) S 5 h_1 (by decide) dX4_tellCount_1 (by decide) (by decide) rfl (by decide) ?_
    refine lv_aload_n S.1 S.2.1 dX4_tellCount_85 rfl (lv_at hl 0 rfl) ?_
    refine z_get (v := .ref (a 1)) S inA4 hK hP 0 rfl rfl 0 (by decide) fl_X4_12 rfl dX4_tellCount_86 ?_
    refine z_rV (As := []) (rest := []) S (m_X3_wetSpots l D g a c hI) ml_X4_274 im_X3_wetSpots se_X3_wetSpots ini_X3 cd_X3_wetSpots ds_X3_wetSpots ⟨Nat.le_of_ble_eq_true rfl, Nat.le_of_ble_eq_true rfl⟩ hK hP (va_recv hK.1 hP (ci := 3) (q0 := 1) rfl rfl) rfl hl.1 rfl (Nat.le_of_ble_eq_true rfl) ⟨Nat.zero_le _, Nat.zero_le _⟩ dX4_tellCount_89 ?_
    exact z_ret S hr hlk (by grind [cntT]) dX4_tellCount_92
  · refine z_tabIn (off := 92) (tgt := 93) S 6 h_1 (by decide) dX4_tellCount_1 (by decide) (by decide) rfl (by decide) ?_
    refine lv_aload_n S.1 S.2.1 dX4_tellCount_93 rfl (lv_at hl 0 rfl) ?_
    refine z_rV (As := []) (rest := []) S (m_X4_truePegs l D g a c hI) ml_X4_278 im_X4_truePegs se_X4_truePegs ini_X4 cd_X4_truePegs ds_X4_truePegs ⟨Nat.le_of_ble_eq_true rfl, Nat.le_of_ble_eq_true rfl⟩ hK hP (va_recv hK.1 hP (ci := 4) (q0 := 0) rfl rfl) rfl hl.1 rfl (Nat.le_of_ble_eq_true rfl) ⟨Nat.zero_le _, Nat.zero_le _⟩ dX4_tellCount_94 ?_
    exact z_ret S hr hlk (by grind [cntT]) dX4_tellCount_97
  · refine z_tabIn (off := 97) (tgt := 98) S 7 h_1 (by decide) dX4_tellCount_1 (by decide) (by decide) rfl (by decide) ?_
    refine lv_aload_n S.1 S.2.1 dX4_tellCount_98 rfl (lv_at hl 0 rfl) ?_
    refine z_get (v := .int (zI (c.1 1))) S inA4 hK hP 0 rfl rfl 5 (by decide) fl_X4_41 rfl dX4_tellCount_99 ?_
    exact z_ret S hr hlk (by grind [cntT]) dX4_tellCount_102
  · refine z_tabOut (tgt := 103) S (by omega) dX4_tellCount_1 h_1 (by decide) ?_
    refine lv_aload_n S.1 S.2.1 dX4_tellCount_103 rfl (lv_at hl 0 rfl) ?_
    refine z_get (v := .ref (a 2)) S inA4 hK hP 0 rfl rfl 1 (by decide) fl_X4_19 rfl dX4_tellCount_104 ?_
    refine z_rV (As := []) (rest := []) S (m_X0_allCoins l D g a c hI) ml_X4_281 im_X0_allCoins se_X0_allCoins ini_X0 cd_X0_allCoins ds_X0_allCoins ⟨Nat.le_of_ble_eq_true rfl, Nat.le_of_ble_eq_true rfl⟩ hK hP (va_recv hK.1 hP (ci := 0) (q0 := 2) rfl rfl) rfl hl.1 rfl (Nat.le_of_ble_eq_true rfl) ⟨Nat.zero_le _, Nat.zero_le _⟩ dX4_tellCount_107 ?_
    exact z_ret S hr hlk (by grind [cntT]) dX4_tellCount_110
set_option maxHeartbeats 4000000 in
set_option maxRecDepth 100000 in
theorem m_X4_digest (l : Launch) (D : va_G) (g : ClassId × ClassId × ClassId) (a : Nat → Nat) {B : Int} (c : CS) (hI : IC B c) : RDl l yX4_digest cX4_digest 5 (some .long) 5 110 D g (CW g a c) [.ref (a 0)] (digC c) := by
  refine z_enter RX4 (by decide) rfl (Nat.le_of_ble_eq_true rfl) ?_
  intro p e s m args below meth co S hr hlk hK hP ls hl
  have hl : lv_has ls 5 [(0, .ref (a 0))] := hl
  have hs := hI.s
  refine lv_ldc2 S.1 S.2.1 S.2.2.2.1 (S.2.2.2.2 _ kl_X4_233) dX4_digest_0 ?_
  refine lv_lstore_n (lv' := [(1, .long (1801 : Int64)), (0, .ref (a 0))]) S.1 S.2.1 dX4_digest_3 rfl hl (by decide) rfl (fun ls hl => ?_)
  refine z_iconst S dX4_digest_4 ?_
  refine lv_istore_n (lv' := [(3, .int (zI 0)), (1, .long (1801 : Int64)), (0, .ref (a 0))]) S.1 S.2.1 dX4_digest_5 rfl hl (by decide) rfl (fun ls hl => ?_)
  refine z_for (nL := 5) (9) (fun (k6 : Nat) => [(3, .int (zI (k6 : Int))), (1, .long (dg (cntT c) 1801 k6)), (0, .ref (a 0))]) (fun k6 => True) (fun k6 hk6 hJ6 ls hl ih6 => ?_) (fun hJ6 ls hl => ?_) 0 (by omega) trivial ls (lv_sub hl [0, 1, 2] rfl)
  · have hl : lv_has ls 5 [(3, .int (zI (k6 : Int))), (1, .long (dg (cntT c) 1801 k6)), (0, .ref (a 0))] := hl
    refine lv_iload_n S.1 S.2.1 dX4_digest_6 rfl (lv_at hl 0 rfl) ?_
    refine z_bipush S (by decide) dX4_digest_7 ?_
    refine z_icmp_ge (tgt := 31) S dX4_digest_9 (by decide) (by omega) (fun h_1 => ?_) (fun h_1 => ?_)
    · exact absurd h_1 (by omega)
    · refine lv_lload_n S.1 S.2.1 dX4_digest_12 rfl (lv_at hl 1 rfl) ?_
      refine lv_ldc2 S.1 S.2.1 S.2.2.2.1 (S.2.2.2.2 _ kl_X4_235) dX4_digest_13 ?_
      refine lv_lmul S.1 S.2.1 dX4_digest_16 ?_
      refine lv_aload_n S.1 S.2.1 dX4_digest_17 rfl (lv_at hl 2 rfl) ?_
      refine lv_iload_n S.1 S.2.1 dX4_digest_18 rfl (lv_at hl 0 rfl) ?_
      refine z_rV (As := [.int (zI (k6 : Int))]) (rest := [.long ((dg (cntT c) 1801 k6) * (31 : Int64))]) S (m_X4_tellCount l D g a c hI (k6 : Int) (by omega)) ml_X4_199 im_X4_tellCount se_X4_tellCount ini_X4 cd_X4_tellCount ds_X4_tellCount ⟨Nat.le_of_ble_eq_true rfl, Nat.le_of_ble_eq_true rfl⟩ hK hP (va_recv hK.1 hP (ci := 4) (q0 := 0) rfl rfl) rfl hl.1 rfl (Nat.le_of_ble_eq_true rfl) ⟨Nat.zero_le _, Nat.zero_le _⟩ dX4_digest_19 ?_
      refine lv_i2l (v := (zI (cntT c (k6 : Int))).toInt64) S.1 S.2.1 dX4_digest_22 rfl ?_
      refine lv_ladd S.1 S.2.1 dX4_digest_23 ?_
      refine lv_lstore_n (lv' := [(1, .long (((dg (cntT c) 1801 k6) * (31 : Int64)) + ((zI (cntT c (k6 : Int))).toInt64))), (3, .int (zI (k6 : Int))), (0, .ref (a 0))]) S.1 S.2.1 dX4_digest_24 rfl hl (by decide) rfl (fun ls hl => ?_)
      refine z_iinc (lv' := [(3, .int (zI ((k6 : Int) + 1))), (1, .long (((dg (cntT c) 1801 k6) * (31 : Int64)) + ((zI (cntT c (k6 : Int))).toInt64))), (0, .ref (a 0))]) S dX4_digest_25 hl (k := 1) rfl (by decide) rfl (fun ls hl => ?_)
      refine z_goto (tgt := 6) S dX4_digest_28 (by decide) ?_
      exact ih6 _ (lv_sub hl [0, 1, 2] rfl) trivial
  · have hl : lv_has ls 5 [(3, .int (zI ((9 : Nat) : Int))), (1, .long (dg (cntT c) 1801 9)), (0, .ref (a 0))] := hl
    refine lv_iload_n S.1 S.2.1 dX4_digest_6 rfl (lv_at hl 0 rfl) ?_
    refine z_bipush S (by decide) dX4_digest_7 ?_
    refine z_icmp_ge (tgt := 31) S dX4_digest_9 (by decide) (by omega) (fun h_2 => ?_) (fun h_2 => ?_)
    · refine z_iconst S dX4_digest_31 ?_
      refine lv_istore_n (lv' := [(3, .int (zI 0)), (1, .long (dg (cntT c) 1801 9)), (0, .ref (a 0))]) S.1 S.2.1 dX4_digest_32 rfl hl (by decide) rfl (fun ls hl => ?_)
      refine z_for (nL := 5) ((c.1 3).toNat) (fun (k33 : Nat) => [(3, .int (zI (k33 : Int))), (1, .long (dgO (dowT c) 8 (dg (cntT c) 1801 9) k33)), (0, .ref (a 0))]) (fun k33 => True) (fun k33 hk33 hJ33 ls hl ih33 => ?_) (fun hJ33 ls hl => ?_) 0 (by omega) trivial ls (lv_sub hl [0, 1, 2] rfl)
      · have hl : lv_has ls 5 [(3, .int (zI (k33 : Int))), (1, .long (dgO (dowT c) 8 (dg (cntT c) 1801 9) k33)), (0, .ref (a 0))] := hl
        refine lv_iload_n S.1 S.2.1 dX4_digest_33 rfl (lv_at hl 0 rfl) ?_
        refine lv_aload_n S.1 S.2.1 dX4_digest_34 rfl (lv_at hl 2 rfl) ?_
        refine z_get (v := .ref (a 2)) S inA4 hK hP 0 rfl rfl 1 (by decide) fl_X4_19 rfl dX4_digest_35 ?_
        refine z_get (v := .int (zI (c.1 3))) S inA0 hK hP 2 rfl rfl 0 (by decide) fl_X4_88 rfl dX4_digest_38 ?_
        refine z_icmp_ge (tgt := 81) S dX4_digest_41 (by decide) (by omega) (fun h_3 => ?_) (fun h_3 => ?_)
        · exact absurd h_3 (by omega)
        · refine z_iconst S dX4_digest_44 ?_
          refine lv_istore (lv' := [(4, .int (zI 0)), (3, .int (zI (k33 : Int))), (1, .long (dgO (dowT c) 8 (dg (cntT c) 1801 9) k33)), (0, .ref (a 0))]) S.1 S.2.1 dX4_digest_45 hl (by decide) rfl (fun ls hl => ?_)
          refine z_for (nL := 5) (8) (fun (k47 : Nat) => [(4, .int (zI (k47 : Int))), (3, .int (zI (k33 : Int))), (1, .long (dg (dowT c (k33 : Int)) (dgO (dowT c) 8 (dg (cntT c) 1801 9) k33) k47)), (0, .ref (a 0))]) (fun k47 => True) (fun k47 hk47 hJ47 ls hl ih47 => ?_) (fun hJ47 ls hl => ?_) 0 (by omega) trivial ls (lv_sub hl [0, 1, 2, 3] rfl)
          · have hl : lv_has ls 5 [(4, .int (zI (k47 : Int))), (3, .int (zI (k33 : Int))), (1, .long (dg (dowT c (k33 : Int)) (dgO (dowT c) 8 (dg (cntT c) 1801 9) k33) k47)), (0, .ref (a 0))] := hl
            refine lv_iload S.1 S.2.1 dX4_digest_47 (lv_at hl 0 rfl) ?_
            refine z_bipush S (by decide) dX4_digest_49 ?_
            refine z_icmp_ge (tgt := 75) S dX4_digest_51 (by decide) (by omega) (fun h_4 => ?_) (fun h_4 => ?_)
            · exact absurd h_4 (by omega)
            · refine lv_lload_n S.1 S.2.1 dX4_digest_54 rfl (lv_at hl 2 rfl) ?_
              refine lv_ldc2 S.1 S.2.1 S.2.2.2.1 (S.2.2.2.2 _ kl_X4_235) dX4_digest_55 ?_
              refine lv_lmul S.1 S.2.1 dX4_digest_58 ?_
              refine lv_aload_n S.1 S.2.1 dX4_digest_59 rfl (lv_at hl 3 rfl) ?_
              refine lv_iload_n S.1 S.2.1 dX4_digest_60 rfl (lv_at hl 1 rfl) ?_
              refine lv_iload S.1 S.2.1 dX4_digest_61 (lv_at hl 0 rfl) ?_
              refine z_rV (As := [.int (zI (k33 : Int)), .int (zI (k47 : Int))]) (rest := [.long ((dg (dowT c (k33 : Int)) (dgO (dowT c) 8 (dg (cntT c) 1801 9) k33) k47) * (31 : Int64))]) S (m_X4_tellDowser l D g a c hI (k33 : Int) (k47 : Int) (by omega) (by omega)) ml_X4_189 im_X4_tellDowser se_X4_tellDowser ini_X4 cd_X4_tellDowser ds_X4_tellDowser ⟨Nat.le_of_ble_eq_true rfl, Nat.le_of_ble_eq_true rfl⟩ hK hP (va_recv hK.1 hP (ci := 4) (q0 := 0) rfl rfl) rfl hl.1 rfl (Nat.le_of_ble_eq_true rfl) ⟨Nat.zero_le _, Nat.zero_le _⟩ dX4_digest_63 ?_
              refine lv_i2l (v := (zI (dowT c (k33 : Int) (k47 : Int))).toInt64) S.1 S.2.1 dX4_digest_66 rfl ?_
              refine lv_ladd S.1 S.2.1 dX4_digest_67 ?_
              refine lv_lstore_n (lv' := [(1, .long (((dg (dowT c (k33 : Int)) (dgO (dowT c) 8 (dg (cntT c) 1801 9) k33) k47) * (31 : Int64)) + ((zI (dowT c (k33 : Int) (k47 : Int))).toInt64))), (4, .int (zI (k47 : Int))), (3, .int (zI (k33 : Int))), (0, .ref (a 0))]) S.1 S.2.1 dX4_digest_68 rfl hl (by decide) rfl (fun ls hl => ?_)
              refine z_iinc (lv' := [(4, .int (zI ((k47 : Int) + 1))), (1, .long (((dg (dowT c (k33 : Int)) (dgO (dowT c) 8 (dg (cntT c) 1801 9) k33) k47) * (31 : Int64)) + ((zI (dowT c (k33 : Int) (k47 : Int))).toInt64))), (3, .int (zI (k33 : Int))), (0, .ref (a 0))]) S dX4_digest_69 hl (k := 1) rfl (by decide) rfl (fun ls hl => ?_)
              refine z_goto (tgt := 47) S dX4_digest_72 (by decide) ?_
              exact ih47 _ (lv_sub hl [0, 2, 1, 3] rfl) trivial
          · have hl : lv_has ls 5 [(4, .int (zI ((8 : Nat) : Int))), (3, .int (zI (k33 : Int))), (1, .long (dg (dowT c (k33 : Int)) (dgO (dowT c) 8 (dg (cntT c) 1801 9) k33) 8)), (0, .ref (a 0))] := hl
            refine lv_iload S.1 S.2.1 dX4_digest_47 (lv_at hl 0 rfl) ?_
            refine z_bipush S (by decide) dX4_digest_49 ?_
            refine z_icmp_ge (tgt := 75) S dX4_digest_51 (by decide) (by omega) (fun h_5 => ?_) (fun h_5 => ?_)
            · refine z_iinc (lv' := [(3, .int (zI ((k33 : Int) + 1))), (4, .int (zI ((8 : Nat) : Int))), (1, .long (dg (dowT c (k33 : Int)) (dgO (dowT c) 8 (dg (cntT c) 1801 9) k33) 8)), (0, .ref (a 0))]) S dX4_digest_75 hl (k := 1) rfl (by decide) rfl (fun ls hl => ?_)
              refine z_goto (tgt := 33) S dX4_digest_78 (by decide) ?_
              exact ih33 _ (lv_sub hl [0, 2, 3] rfl) trivial
            · exact absurd h_5 (by omega)
      · have hl : lv_has ls 5 [(3, .int (zI (((c.1 3).toNat : Nat) : Int))), (1, .long (dgO (dowT c) 8 (dg (cntT c) 1801 9) ((c.1 3).toNat))), (0, .ref (a 0))] := hl
        refine lv_iload_n S.1 S.2.1 dX4_digest_33 rfl (lv_at hl 0 rfl) ?_
        refine lv_aload_n S.1 S.2.1 dX4_digest_34 rfl (lv_at hl 2 rfl) ?_
        refine z_get (v := .ref (a 2)) S inA4 hK hP 0 rfl rfl 1 (by decide) fl_X4_19 rfl dX4_digest_35 ?_
        refine z_get (v := .int (zI (c.1 3))) S inA0 hK hP 2 rfl rfl 0 (by decide) fl_X4_88 rfl dX4_digest_38 ?_
        refine z_icmp_ge (tgt := 81) S dX4_digest_41 (by decide) (by omega) (fun h_6 => ?_) (fun h_6 => ?_)
        · refine z_iconst S dX4_digest_81 ?_
          refine lv_istore_n (lv' := [(3, .int (zI 0)), (1, .long (dgO (dowT c) 8 (dg (cntT c) 1801 9) ((c.1 3).toNat))), (0, .ref (a 0))]) S.1 S.2.1 dX4_digest_82 rfl hl (by decide) rfl (fun ls hl => ?_)
          refine z_for (nL := 5) ((c.1 5).toNat) (fun (k83 : Nat) => [(3, .int (zI (k83 : Int))), (1, .long (dgO (pitT c) 7 (dgO (dowT c) 8 (dg (cntT c) 1801 9) (c.1 3).toNat) k83)), (0, .ref (a 0))]) (fun k83 => True) (fun k83 hk83 hJ83 ls hl ih83 => ?_) (fun hJ83 ls hl => ?_) 0 (by omega) trivial ls (lv_sub hl [0, 1, 2] rfl)
          · have hl : lv_has ls 5 [(3, .int (zI (k83 : Int))), (1, .long (dgO (pitT c) 7 (dgO (dowT c) 8 (dg (cntT c) 1801 9) (c.1 3).toNat) k83)), (0, .ref (a 0))] := hl
            refine lv_iload_n S.1 S.2.1 dX4_digest_83 rfl (lv_at hl 0 rfl) ?_
            refine lv_aload_n S.1 S.2.1 dX4_digest_84 rfl (lv_at hl 2 rfl) ?_
            refine z_get (v := .ref (a 4)) S inA4 hK hP 0 rfl rfl 3 (by decide) fl_X4_33 rfl dX4_digest_85 ?_
            refine z_get (v := .int (zI (c.1 5))) S inA2 hK hP 4 rfl rfl 0 (by decide) fl_X4_129 rfl dX4_digest_88 ?_
            refine z_icmp_ge (tgt := 134) S dX4_digest_91 (by decide) (by omega) (fun h_7 => ?_) (fun h_7 => ?_)
            · exact absurd h_7 (by omega)
            · refine z_iconst S dX4_digest_94 ?_
              refine lv_istore (lv' := [(4, .int (zI 0)), (3, .int (zI (k83 : Int))), (1, .long (dgO (pitT c) 7 (dgO (dowT c) 8 (dg (cntT c) 1801 9) (c.1 3).toNat) k83)), (0, .ref (a 0))]) S.1 S.2.1 dX4_digest_95 hl (by decide) rfl (fun ls hl => ?_)
              refine z_for (nL := 5) (7) (fun (k97 : Nat) => [(4, .int (zI (k97 : Int))), (3, .int (zI (k83 : Int))), (1, .long (dg (pitT c (k83 : Int)) (dgO (pitT c) 7 (dgO (dowT c) 8 (dg (cntT c) 1801 9) (c.1 3).toNat) k83) k97)), (0, .ref (a 0))]) (fun k97 => True) (fun k97 hk97 hJ97 ls hl ih97 => ?_) (fun hJ97 ls hl => ?_) 0 (by omega) trivial ls (lv_sub hl [0, 1, 2, 3] rfl)
              · have hl : lv_has ls 5 [(4, .int (zI (k97 : Int))), (3, .int (zI (k83 : Int))), (1, .long (dg (pitT c (k83 : Int)) (dgO (pitT c) 7 (dgO (dowT c) 8 (dg (cntT c) 1801 9) (c.1 3).toNat) k83) k97)), (0, .ref (a 0))] := hl
                refine lv_iload S.1 S.2.1 dX4_digest_97 (lv_at hl 0 rfl) ?_
                refine z_bipush S (by decide) dX4_digest_99 ?_
                refine z_icmp_ge (tgt := 128) S dX4_digest_101 (by decide) (by omega) (fun h_8 => ?_) (fun h_8 => ?_)
                · exact absurd h_8 (by omega)
                · refine lv_lload_n S.1 S.2.1 dX4_digest_104 rfl (lv_at hl 2 rfl) ?_
                  refine lv_ldc2 S.1 S.2.1 S.2.2.2.1 (S.2.2.2.2 _ kl_X4_235) dX4_digest_105 ?_
                  refine lv_lmul S.1 S.2.1 dX4_digest_108 ?_
                  refine lv_aload_n S.1 S.2.1 dX4_digest_109 rfl (lv_at hl 3 rfl) ?_
                  refine z_get (v := .ref (a 4)) S inA4 hK hP 0 rfl rfl 3 (by decide) fl_X4_33 rfl dX4_digest_110 ?_
                  refine lv_iload_n S.1 S.2.1 dX4_digest_113 rfl (lv_at hl 1 rfl) ?_
                  refine lv_iload S.1 S.2.1 dX4_digest_114 (lv_at hl 0 rfl) ?_
                  refine z_rV (As := [.int (zI (k83 : Int)), .int (zI (k97 : Int))]) (rest := [.long ((dg (pitT c (k83 : Int)) (dgO (pitT c) 7 (dgO (dowT c) 8 (dg (cntT c) 1801 9) (c.1 3).toNat) k83) k97) * (31 : Int64))]) S (m_X2_tell l D g a c hI (k83 : Int) (k97 : Int) (by omega) (by omega)) ml_X4_194 im_X2_tell se_X2_tell ini_X2 cd_X2_tell ds_X2_tell ⟨Nat.le_of_ble_eq_true rfl, Nat.le_of_ble_eq_true rfl⟩ hK hP (va_recv hK.1 hP (ci := 2) (q0 := 4) rfl rfl) rfl hl.1 rfl (Nat.le_of_ble_eq_true rfl) ⟨Nat.zero_le _, Nat.zero_le _⟩ dX4_digest_116 ?_
                  refine lv_i2l (v := (zI (pitT c (k83 : Int) (k97 : Int))).toInt64) S.1 S.2.1 dX4_digest_119 rfl ?_
                  refine lv_ladd S.1 S.2.1 dX4_digest_120 ?_
                  refine lv_lstore_n (lv' := [(1, .long (((dg (pitT c (k83 : Int)) (dgO (pitT c) 7 (dgO (dowT c) 8 (dg (cntT c) 1801 9) (c.1 3).toNat) k83) k97) * (31 : Int64)) + ((zI (pitT c (k83 : Int) (k97 : Int))).toInt64))), (4, .int (zI (k97 : Int))), (3, .int (zI (k83 : Int))), (0, .ref (a 0))]) S.1 S.2.1 dX4_digest_121 rfl hl (by decide) rfl (fun ls hl => ?_)
                  refine z_iinc (lv' := [(4, .int (zI ((k97 : Int) + 1))), (1, .long (((dg (pitT c (k83 : Int)) (dgO (pitT c) 7 (dgO (dowT c) 8 (dg (cntT c) 1801 9) (c.1 3).toNat) k83) k97) * (31 : Int64)) + ((zI (pitT c (k83 : Int) (k97 : Int))).toInt64))), (3, .int (zI (k83 : Int))), (0, .ref (a 0))]) S dX4_digest_122 hl (k := 1) rfl (by decide) rfl (fun ls hl => ?_)
                  refine z_goto (tgt := 97) S dX4_digest_125 (by decide) ?_
                  exact ih97 _ (lv_sub hl [0, 2, 1, 3] rfl) trivial
              · have hl : lv_has ls 5 [(4, .int (zI ((7 : Nat) : Int))), (3, .int (zI (k83 : Int))), (1, .long (dg (pitT c (k83 : Int)) (dgO (pitT c) 7 (dgO (dowT c) 8 (dg (cntT c) 1801 9) (c.1 3).toNat) k83) 7)), (0, .ref (a 0))] := hl
                refine lv_iload S.1 S.2.1 dX4_digest_97 (lv_at hl 0 rfl) ?_
                refine z_bipush S (by decide) dX4_digest_99 ?_
                refine z_icmp_ge (tgt := 128) S dX4_digest_101 (by decide) (by omega) (fun h_9 => ?_) (fun h_9 => ?_)
                · refine z_iinc (lv' := [(3, .int (zI ((k83 : Int) + 1))), (4, .int (zI ((7 : Nat) : Int))), (1, .long (dg (pitT c (k83 : Int)) (dgO (pitT c) 7 (dgO (dowT c) 8 (dg (cntT c) 1801 9) (c.1 3).toNat) k83) 7)), (0, .ref (a 0))]) S dX4_digest_128 hl (k := 1) rfl (by decide) rfl (fun ls hl => ?_)
                  refine z_goto (tgt := 83) S dX4_digest_131 (by decide) ?_
                  exact ih83 _ (lv_sub hl [0, 2, 3] rfl) trivial
                · exact absurd h_9 (by omega)
          · have hl : lv_has ls 5 [(3, .int (zI (((c.1 5).toNat : Nat) : Int))), (1, .long (dgO (pitT c) 7 (dgO (dowT c) 8 (dg (cntT c) 1801 9) (c.1 3).toNat) ((c.1 5).toNat))), (0, .ref (a 0))] := hl
            refine lv_iload_n S.1 S.2.1 dX4_digest_83 rfl (lv_at hl 0 rfl) ?_
            refine lv_aload_n S.1 S.2.1 dX4_digest_84 rfl (lv_at hl 2 rfl) ?_
            refine z_get (v := .ref (a 4)) S inA4 hK hP 0 rfl rfl 3 (by decide) fl_X4_33 rfl dX4_digest_85 ?_
            refine z_get (v := .int (zI (c.1 5))) S inA2 hK hP 4 rfl rfl 0 (by decide) fl_X4_129 rfl dX4_digest_88 ?_
            refine z_icmp_ge (tgt := 134) S dX4_digest_91 (by decide) (by omega) (fun h_10 => ?_) (fun h_10 => ?_)
            · refine z_iconst S dX4_digest_134 ?_
              refine lv_istore_n (lv' := [(3, .int (zI 0)), (1, .long (dgO (pitT c) 7 (dgO (dowT c) 8 (dg (cntT c) 1801 9) (c.1 3).toNat) ((c.1 5).toNat))), (0, .ref (a 0))]) S.1 S.2.1 dX4_digest_135 rfl hl (by decide) rfl (fun ls hl => ?_)
              refine z_for (nL := 5) (400) (fun (k136 : Nat) => [(3, .int (zI (k136 : Int))), (1, .long (dgO (spotT c) 4 (dgO (pitT c) 7 (dgO (dowT c) 8 (dg (cntT c) 1801 9) (c.1 3).toNat) (c.1 5).toNat) k136)), (0, .ref (a 0))]) (fun k136 => True) (fun k136 hk136 hJ136 ls hl ih136 => ?_) (fun hJ136 ls hl => ?_) 0 (by omega) trivial ls (lv_sub hl [0, 1, 2] rfl)
              · have hl : lv_has ls 5 [(3, .int (zI (k136 : Int))), (1, .long (dgO (spotT c) 4 (dgO (pitT c) 7 (dgO (dowT c) 8 (dg (cntT c) 1801 9) (c.1 3).toNat) (c.1 5).toNat) k136)), (0, .ref (a 0))] := hl
                refine lv_iload_n S.1 S.2.1 dX4_digest_136 rfl (lv_at hl 0 rfl) ?_
                refine z_sipush S (by decide) dX4_digest_137 ?_
                refine z_icmp_ge (tgt := 179) S dX4_digest_140 (by decide) (by omega) (fun h_11 => ?_) (fun h_11 => ?_)
                · exact absurd h_11 (by omega)
                · refine z_iconst S dX4_digest_143 ?_
                  refine lv_istore (lv' := [(4, .int (zI 0)), (3, .int (zI (k136 : Int))), (1, .long (dgO (spotT c) 4 (dgO (pitT c) 7 (dgO (dowT c) 8 (dg (cntT c) 1801 9) (c.1 3).toNat) (c.1 5).toNat) k136)), (0, .ref (a 0))]) S.1 S.2.1 dX4_digest_144 hl (by decide) rfl (fun ls hl => ?_)
                  refine z_for (nL := 5) (4) (fun (k146 : Nat) => [(4, .int (zI (k146 : Int))), (3, .int (zI (k136 : Int))), (1, .long (dg (spotT c (k136 : Int)) (dgO (spotT c) 4 (dgO (pitT c) 7 (dgO (dowT c) 8 (dg (cntT c) 1801 9) (c.1 3).toNat) (c.1 5).toNat) k136) k146)), (0, .ref (a 0))]) (fun k146 => True) (fun k146 hk146 hJ146 ls hl ih146 => ?_) (fun hJ146 ls hl => ?_) 0 (by omega) trivial ls (lv_sub hl [0, 1, 2, 3] rfl)
                  · have hl : lv_has ls 5 [(4, .int (zI (k146 : Int))), (3, .int (zI (k136 : Int))), (1, .long (dg (spotT c (k136 : Int)) (dgO (spotT c) 4 (dgO (pitT c) 7 (dgO (dowT c) 8 (dg (cntT c) 1801 9) (c.1 3).toNat) (c.1 5).toNat) k136) k146)), (0, .ref (a 0))] := hl
                    refine lv_iload S.1 S.2.1 dX4_digest_146 (lv_at hl 0 rfl) ?_
                    refine z_iconst S dX4_digest_148 ?_
                    refine z_icmp_ge (tgt := 173) S dX4_digest_149 (by decide) (by omega) (fun h_12 => ?_) (fun h_12 => ?_)
                    · exact absurd h_12 (by omega)
                    · refine lv_lload_n S.1 S.2.1 dX4_digest_152 rfl (lv_at hl 2 rfl) ?_
                      refine lv_ldc2 S.1 S.2.1 S.2.2.2.1 (S.2.2.2.2 _ kl_X4_235) dX4_digest_153 ?_
                      refine lv_lmul S.1 S.2.1 dX4_digest_156 ?_
                      refine lv_aload_n S.1 S.2.1 dX4_digest_157 rfl (lv_at hl 3 rfl) ?_
                      refine lv_iload_n S.1 S.2.1 dX4_digest_158 rfl (lv_at hl 1 rfl) ?_
                      refine lv_iload S.1 S.2.1 dX4_digest_159 (lv_at hl 0 rfl) ?_
                      refine z_rV (As := [.int (zI (k136 : Int)), .int (zI (k146 : Int))]) (rest := [.long ((dg (spotT c (k136 : Int)) (dgO (spotT c) 4 (dgO (pitT c) 7 (dgO (dowT c) 8 (dg (cntT c) 1801 9) (c.1 3).toNat) (c.1 5).toNat) k136) k146) * (31 : Int64))]) S (m_X4_tellSpot l D g a c hI (k136 : Int) (k146 : Int) (by omega) (by omega)) ml_X4_181 im_X4_tellSpot se_X4_tellSpot ini_X4 cd_X4_tellSpot ds_X4_tellSpot ⟨Nat.le_of_ble_eq_true rfl, Nat.le_of_ble_eq_true rfl⟩ hK hP (va_recv hK.1 hP (ci := 4) (q0 := 0) rfl rfl) rfl hl.1 rfl (Nat.le_of_ble_eq_true rfl) ⟨Nat.zero_le _, Nat.zero_le _⟩ dX4_digest_161 ?_
                      refine lv_i2l (v := (zI (spotT c (k136 : Int) (k146 : Int))).toInt64) S.1 S.2.1 dX4_digest_164 rfl ?_
                      refine lv_ladd S.1 S.2.1 dX4_digest_165 ?_
                      refine lv_lstore_n (lv' := [(1, .long (((dg (spotT c (k136 : Int)) (dgO (spotT c) 4 (dgO (pitT c) 7 (dgO (dowT c) 8 (dg (cntT c) 1801 9) (c.1 3).toNat) (c.1 5).toNat) k136) k146) * (31 : Int64)) + ((zI (spotT c (k136 : Int) (k146 : Int))).toInt64))), (4, .int (zI (k146 : Int))), (3, .int (zI (k136 : Int))), (0, .ref (a 0))]) S.1 S.2.1 dX4_digest_166 rfl hl (by decide) rfl (fun ls hl => ?_)
                      refine z_iinc (lv' := [(4, .int (zI ((k146 : Int) + 1))), (1, .long (((dg (spotT c (k136 : Int)) (dgO (spotT c) 4 (dgO (pitT c) 7 (dgO (dowT c) 8 (dg (cntT c) 1801 9) (c.1 3).toNat) (c.1 5).toNat) k136) k146) * (31 : Int64)) + ((zI (spotT c (k136 : Int) (k146 : Int))).toInt64))), (3, .int (zI (k136 : Int))), (0, .ref (a 0))]) S dX4_digest_167 hl (k := 1) rfl (by decide) rfl (fun ls hl => ?_)
                      refine z_goto (tgt := 146) S dX4_digest_170 (by decide) ?_
                      exact ih146 _ (lv_sub hl [0, 2, 1, 3] rfl) trivial
                  · have hl : lv_has ls 5 [(4, .int (zI ((4 : Nat) : Int))), (3, .int (zI (k136 : Int))), (1, .long (dg (spotT c (k136 : Int)) (dgO (spotT c) 4 (dgO (pitT c) 7 (dgO (dowT c) 8 (dg (cntT c) 1801 9) (c.1 3).toNat) (c.1 5).toNat) k136) 4)), (0, .ref (a 0))] := hl
                    refine lv_iload S.1 S.2.1 dX4_digest_146 (lv_at hl 0 rfl) ?_
                    refine z_iconst S dX4_digest_148 ?_
                    refine z_icmp_ge (tgt := 173) S dX4_digest_149 (by decide) (by omega) (fun h_13 => ?_) (fun h_13 => ?_)
                    · refine z_iinc (lv' := [(3, .int (zI ((k136 : Int) + 1))), (4, .int (zI ((4 : Nat) : Int))), (1, .long (dg (spotT c (k136 : Int)) (dgO (spotT c) 4 (dgO (pitT c) 7 (dgO (dowT c) 8 (dg (cntT c) 1801 9) (c.1 3).toNat) (c.1 5).toNat) k136) 4)), (0, .ref (a 0))]) S dX4_digest_173 hl (k := 1) rfl (by decide) rfl (fun ls hl => ?_)
                      refine z_goto (tgt := 136) S dX4_digest_176 (by decide) ?_
                      exact ih136 _ (lv_sub hl [0, 2, 3] rfl) trivial
                    · exact absurd h_13 (by omega)
              · have hl : lv_has ls 5 [(3, .int (zI ((400 : Nat) : Int))), (1, .long (dgO (spotT c) 4 (dgO (pitT c) 7 (dgO (dowT c) 8 (dg (cntT c) 1801 9) (c.1 3).toNat) (c.1 5).toNat) 400)), (0, .ref (a 0))] := hl
                refine lv_iload_n S.1 S.2.1 dX4_digest_136 rfl (lv_at hl 0 rfl) ?_
                refine z_sipush S (by decide) dX4_digest_137 ?_
                refine z_icmp_ge (tgt := 179) S dX4_digest_140 (by decide) (by omega) (fun h_14 => ?_) (fun h_14 => ?_)
                · refine lv_lload_n S.1 S.2.1 dX4_digest_179 rfl (lv_at hl 1 rfl) ?_
                  exact z_retl S hr hlk (by first | rfl | grind) dX4_digest_180
                · exact absurd h_14 (by omega)
            · exact absurd h_10 (by omega)
        · exact absurd h_6 (by omega)
    · exact absurd h_2 (by omega)
