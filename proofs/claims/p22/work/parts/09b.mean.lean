set_option maxHeartbeats 4000000 in
set_option maxRecDepth 100000 in
theorem m_X4_mean (l : Launch) (D : va_G) (g : ClassId × ClassId × ClassId) (a : Nat → Nat) {B : Int} (c : CS) (hI : IC B c) (hda : CD 21 a) : MDd l yX4_mean cX4_mean 3 (some .double) 1 21 D g (CA 21 a) (CW g a c) [.ref (a 0)] (CW g a (c)) (fun v => if 0 < c.1 4 then alike64 v (FP.ddiv (FP.i2d (zI (meanW c))) (FP.i2d (zI (c.1 4)))) = true else v = FP.dconst0) := by
  refine d_enter RX4 (by decide) rfl (Nat.le_of_ble_eq_true rfl) ?_
  intro p e s0 s d0 m args below meth co hs9 hd0 S hr hlk hK hP ls hl
  have hl : lv_has ls 3 [(0, .ref (a 0))] := hl
  have hs := hI.s
  have hS : va_S (CA 21 a) s.heap s.heap [] := va_S.rf
  refine z_iconst S dX4_mean_0 ?_
  refine lv_istore_n (lv' := [(1, .int (zI 0)), (0, .ref (a 0))]) S.1 S.2.1 dX4_mean_1 rfl hl (by decide) rfl (fun ls hl => ?_)
  refine z_iconst S dX4_mean_2 ?_
  refine lv_istore_n (lv' := [(2, .int (zI 0)), (1, .int (zI 0)), (0, .ref (a 0))]) S.1 S.2.1 dX4_mean_3 rfl hl (by decide) rfl (fun ls hl => ?_)
  refine z_for (nL := 3) (400) (fun (k4 : Nat) => [(2, .int (zI (k4 : Int))), (1, .int (zI (sm (fun j => if c.2 8 j ≠ -1 then c.2 3 j else 0) k4))), (0, .ref (a 0))]) (fun k4 => True) (fun k4 hk4 hJ4 ls hl ih4 => ?_) (fun hJ4 ls hl => ?_) 0 (by omega) trivial ls (lv_sub hl [0, 1, 2] rfl)
  · have hl : lv_has ls 3 [(2, .int (zI (k4 : Int))), (1, .int (zI (sm (fun j => if c.2 8 j ≠ -1 then c.2 3 j else 0) k4))), (0, .ref (a 0))] := hl
    refine lv_iload_n S.1 S.2.1 dX4_mean_4 rfl (lv_at hl 0 rfl) ?_
    refine z_sipush S (by decide) dX4_mean_5 ?_
    refine z_icmp_ge (tgt := 40) S dX4_mean_8 (by decide) (by omega) (fun h_1 => ?_) (fun h_1 => ?_)
    · exact absurd h_1 (by omega)
    · refine lv_aload_n S.1 S.2.1 dX4_mean_11 rfl (lv_at hl 2 rfl) ?_
      refine z_get (v := .ref (a 3)) S inA4 hK hP 0 rfl rfl 2 (by decide) fl_X4_26 rfl dX4_mean_12 ?_
      refine lv_iload_n S.1 S.2.1 dX4_mean_15 rfl (lv_at hl 0 rfl) ?_
      refine z_rV (As := [.int (zI (k4 : Int))]) (rest := []) S (m_X1_standsAt l D g a c hI (k4 : Int) (by omega)) ml_X4_121 im_X1_standsAt se_X1_standsAt ini_X1 cd_X1_standsAt ds_X1_standsAt ⟨Nat.le_of_ble_eq_true rfl, Nat.le_of_ble_eq_true rfl⟩ hK hP (va_recv hK.1 hP (ci := 1) (q0 := 3) rfl rfl) rfl hl.1 rfl (Nat.le_of_ble_eq_true rfl) ⟨Nat.zero_le _, Nat.zero_le _⟩ dX4_mean_16 ?_
      refine z_ifb_eq (tgt := 34) S dX4_mean_19 (by decide) (fun h_2 => ?_) (fun h_2 => ?_)
      · refine z_iinc (lv' := [(2, .int (zI ((k4 : Int) + 1))), (1, .int (zI (sm (fun j => if c.2 8 j ≠ -1 then c.2 3 j else 0) k4))), (0, .ref (a 0))]) S dX4_mean_34 hl (k := 0) rfl (by decide) rfl (fun ls hl => ?_)
        refine z_goto (tgt := 4) S dX4_mean_37 (by decide) ?_
        have e_3 : sm (fun j => if c.2 8 j ≠ -1 then c.2 3 j else 0) (k4 + 1) = sm (fun j => if c.2 8 j ≠ -1 then c.2 3 j else 0) k4 := by first | (show _ + (if _ then _ else _ : Int) = _; rw [if_pos (by omega)]; first | done | rfl) | (show _ + (if _ then _ else _ : Int) = _; rw [if_neg (by omega)]; first | done | exact Int.add_zero _)
        exact ih4 _ (lv_sub hl [0, 1, 2] (by show _ = ([(2, .int (zI ((k4 + 1 : Nat) : Int))), (1, .int (zI (sm (fun j => if c.2 8 j ≠ -1 then c.2 3 j else 0) (k4 + 1)))), (0, .ref (a 0))] : List (Nat × Value)); rw [e_3]; first | done | rfl)) trivial
      · refine lv_iload_n S.1 S.2.1 dX4_mean_22 rfl (lv_at hl 1 rfl) ?_
        refine lv_aload_n S.1 S.2.1 dX4_mean_23 rfl (lv_at hl 2 rfl) ?_
        refine z_get (v := .ref (a 1)) S inA4 hK hP 0 rfl rfl 0 (by decide) fl_X4_12 rfl dX4_mean_24 ?_
        refine z_get (v := .ref (a 8)) S inA3 hK hP 1 rfl rfl 4 (by decide) fl_X4_229 rfl dX4_mean_27 ?_
        refine lv_iload_n S.1 S.2.1 dX4_mean_30 rfl (lv_at hl 0 rfl) ?_
        refine z_iald S hK hP 8 rfl (by decide) (by omega) dX4_mean_31 ?_
        have hb_4 := hI.r3 (k4 : Int)
        refine z_iadd S dX4_mean_32 ?_
        refine lv_istore_n (lv' := [(1, .int (zI ((sm (fun j => if c.2 8 j ≠ -1 then c.2 3 j else 0) k4) + (c.2 3 (k4 : Int))))), (2, .int (zI (k4 : Int))), (0, .ref (a 0))]) S.1 S.2.1 dX4_mean_33 rfl hl (by decide) rfl (fun ls hl => ?_)
        refine z_iinc (lv' := [(2, .int (zI ((k4 : Int) + 1))), (1, .int (zI ((sm (fun j => if c.2 8 j ≠ -1 then c.2 3 j else 0) k4) + (c.2 3 (k4 : Int))))), (0, .ref (a 0))]) S dX4_mean_34 hl (k := 1) rfl (by decide) rfl (fun ls hl => ?_)
        refine z_goto (tgt := 4) S dX4_mean_37 (by decide) ?_
        have e_5 : sm (fun j => if c.2 8 j ≠ -1 then c.2 3 j else 0) (k4 + 1) = (sm (fun j => if c.2 8 j ≠ -1 then c.2 3 j else 0) k4) + (c.2 3 (k4 : Int)) := by first | (show _ + (if _ then _ else _ : Int) = _; rw [if_pos (by omega)]; first | done | rfl) | (show _ + (if _ then _ else _ : Int) = _; rw [if_neg (by omega)]; first | done | exact Int.add_zero _)
        exact ih4 _ (lv_sub hl [0, 1, 2] (by show _ = ([(2, .int (zI ((k4 + 1 : Nat) : Int))), (1, .int (zI (sm (fun j => if c.2 8 j ≠ -1 then c.2 3 j else 0) (k4 + 1)))), (0, .ref (a 0))] : List (Nat × Value)); rw [e_5]; first | done | rfl)) trivial
  · have hl : lv_has ls 3 [(2, .int (zI ((400 : Nat) : Int))), (1, .int (zI (sm (fun j => if c.2 8 j ≠ -1 then c.2 3 j else 0) 400))), (0, .ref (a 0))] := hl
    refine lv_iload_n S.1 S.2.1 dX4_mean_4 rfl (lv_at hl 0 rfl) ?_
    refine z_sipush S (by decide) dX4_mean_5 ?_
    refine z_icmp_ge (tgt := 40) S dX4_mean_8 (by decide) (by omega) (fun h_6 => ?_) (fun h_6 => ?_)
    · refine lv_aload_n S.1 S.2.1 dX4_mean_40 rfl (lv_at hl 2 rfl) ?_
      refine z_get (v := .ref (a 3)) S inA4 hK hP 0 rfl rfl 2 (by decide) fl_X4_26 rfl dX4_mean_41 ?_
      refine z_get (v := .int (zI (c.1 4))) S inA1 hK hP 3 rfl rfl 0 (by decide) fl_X4_232 rfl dX4_mean_44 ?_
      refine z_if_le (tgt := 64) S dX4_mean_47 (by decide) (by omega) (fun h_7 => ?_) (fun h_7 => ?_)
      · refine lv_dconst0 S.1 S.2.1 dX4_mean_64 ?_
        have hP9 := hP
        subst hs9
        exact d_ret hd0 S hr hlk (by rw [if_neg (by omega)]) hP9 hS dX4_mean_65
      · refine lv_iload_n S.1 S.2.1 dX4_mean_50 rfl (lv_at hl 1 rfl) ?_
        refine lv_i2d S.1 S.2.1 dX4_mean_51 ?_
        refine lv_aload_n S.1 S.2.1 dX4_mean_52 rfl (lv_at hl 2 rfl) ?_
        refine z_get (v := .ref (a 3)) S inA4 hK hP 0 rfl rfl 2 (by decide) fl_X4_26 rfl dX4_mean_53 ?_
        refine z_get (v := .int (zI (c.1 4))) S inA1 hK hP 3 rfl rfl 0 (by decide) fl_X4_232 rfl dX4_mean_56 ?_
        refine lv_i2d S.1 S.2.1 dX4_mean_59 ?_
        have hP9 := hP
        subst hs9
        refine lv_ddiv_any hd0 lw_bits S.1 S.2.1 dX4_mean_60 (fun r9 d9 hal hd9 => ?_)
        have S := z_S9 S d9
        refine z_goto (tgt := 65) S dX4_mean_61 (by decide) ?_
        exact d_ret hd9 S hr hlk (by rw [if_pos (by omega)]; exact hal) hP9 hS dX4_mean_65
    · exact absurd h_6 (by omega)
