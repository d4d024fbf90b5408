theorem va_P_at {D : va_G} {cl : List vw_C} {ws : va_W} {H : Heap} (h : va_P D cl ws H) (q0 : Nat) {x : Nat × va_E} (hw : ws[q0]? = some x) : va_P D cl [x] H := fun k q hk => by
  cases k with
  | zero => cases hk; exact h q0 _ hw
  | succ k => simp at hk
theorem mul1_b {k n w : Int} (hk : 0 ≤ k ∧ k ≤ n) (hw : -1 ≤ w ∧ w ≤ 1) : -n ≤ k * w ∧ k * w ≤ n := by
  rcases (show w = -1 ∨ w = 0 ∨ w = 1 by omega) with e | e | e <;> subst e <;> omega
theorem farS_b {x y tx ty : Int} (h : (-1000 ≤ x ∧ x ≤ 1000) ∧ (-1000 ≤ y ∧ y ≤ 1000) ∧ (-1000 ≤ tx ∧ tx ≤ 1000) ∧ -1000 ≤ ty ∧ ty ≤ 1000) : 0 ≤ farS x y tx ty ∧ farS x y tx ty ≤ 4000 := by
  have h1 := ab_le (x := x - tx) (n := 2000) (by omega)
  have h2 := ab_le (x := y - ty) (n := 2000) (by omega)
  unfold farS
  omega
set_option maxHeartbeats 4000000 in
set_option maxRecDepth 100000 in
theorem m_X5_far (l : Launch) (D : va_G) (g : ClassId × ClassId × ClassId) (x : Int) (y : Int) (tx : Int) (ty : Int) (h0 : (-1000 ≤ x ∧ x ≤ 1000) ∧ (-1000 ≤ y ∧ y ≤ 1000) ∧ (-1000 ≤ tx ∧ tx ≤ 1000) ∧ -1000 ≤ ty ∧ ty ≤ 1000) : RD l yX5_far cX5_far 4 (some .int) 1 21 D g [] [.int (zI x), .int (zI y), .int (zI tx), .int (zI ty)] (farS x y tx ty) := by
  refine z_enter RX5 (by decide) rfl (Nat.le_of_ble_eq_true rfl) ?_
  intro p e s m args below meth co S hr hlk hK hP ls hl
  have hl : lv_has ls 4 [(0, .int (zI x)), (1, .int (zI y)), (2, .int (zI tx)), (3, .int (zI ty))] := hl
  refine lv_iload_n S.1 S.2.1 dX5_far_0 rfl (lv_at hl 0 rfl) ?_
  refine lv_iload_n S.1 S.2.1 dX5_far_1 rfl (lv_at hl 2 rfl) ?_
  refine z_isub S dX5_far_2 ?_
  refine z_abs S ml_X5_28 hl.1 (Nat.le_of_ble_eq_true rfl) (Nat.le_of_ble_eq_true rfl) ⟨Nat.zero_le _, Nat.zero_le _⟩ (by omega) dX5_far_3 ?_
  refine lv_iload_n S.1 S.2.1 dX5_far_6 rfl (lv_at hl 1 rfl) ?_
  refine lv_iload_n S.1 S.2.1 dX5_far_7 rfl (lv_at hl 3 rfl) ?_
  refine z_isub S dX5_far_8 ?_
  refine z_abs S ml_X5_28 hl.1 (Nat.le_of_ble_eq_true rfl) (Nat.le_of_ble_eq_true rfl) ⟨Nat.zero_le _, Nat.zero_le _⟩ (by omega) dX5_far_9 ?_
  refine z_iadd S dX5_far_12 ?_
  exact z_ret S hr hlk (rfl) dX5_far_13
set_option maxHeartbeats 4000000 in
set_option maxRecDepth 100000 in
theorem m_X5_far_ (l : Launch) (D : va_G) (g : ClassId × ClassId × ClassId) (r : Nat) (F : Int → Int) (hF : VB F) (x : Int) (y : Int) (h0 : (0 ≤ x ∧ x ≤ 19) ∧ 0 ≤ y ∧ y ≤ 19) : RD l yX5_far_ cX5_far_ 5 (some .int) 2 44 D g [(r, .inl (g.1, 7, .inl (zA F)))] [.ref r, .int (zI x), .int (zI y)] (vfar F x y) := by
  refine z_enter RX5 (by decide) rfl (Nat.le_of_ble_eq_true rfl) ?_
  intro p e s m args below meth co S hr hlk hK hP ls hl
  have hl : lv_has ls 5 [(0, .ref r), (1, .int (zI x)), (2, .int (zI y))] := hl
  refine z_bipush S (by decide) dX5_far__0 ?_
  refine lv_istore_n (lv' := [(3, .int (zI 99)), (0, .ref r), (1, .int (zI x)), (2, .int (zI y))]) S.1 S.2.1 dX5_far__2 rfl hl (by decide) rfl (fun ls hl => ?_)
  refine z_iconst S dX5_far__3 ?_
  refine lv_istore (lv' := [(4, .int (zI 0)), (3, .int (zI 99)), (0, .ref r), (1, .int (zI x)), (2, .int (zI y))]) S.1 S.2.1 dX5_far__4 hl (by decide) rfl (fun ls hl => ?_)
  refine z_for (nL := 5) ((F 4 + 1).toNat) (fun (k6 : Nat) => [(4, .int (zI (k6 : Int))), (3, .int (zI (vf F x y k6))), (0, .ref r), (1, .int (zI x)), (2, .int (zI y))]) (fun k6 => True) (fun k6 hk6 hJ6 ls hl ih6 => ?_) (fun hJ6 ls hl => ?_) 0 (by omega) trivial ls (lv_sub hl [0, 1, 2, 3, 4] rfl)
  · have hl : lv_has ls 5 [(4, .int (zI (k6 : Int))), (3, .int (zI (vf F x y k6))), (0, .ref r), (1, .int (zI x)), (2, .int (zI y))] := hl
    have hb0 := vf_b F x y k6
    have hm2 := mul1_b (k := (k6 : Int)) (n := 19) (w := F 2) (by omega) (by omega)
    have hm3 := mul1_b (k := (k6 : Int)) (n := 19) (w := F 3) (by omega) (by omega)
    have hz0 := farS_b (x := F 0 + (k6 : Int) * F 2) (y := F 1 + (k6 : Int) * F 3) (tx := x) (ty := y) (by omega)
    refine lv_iload S.1 S.2.1 dX5_far__6 (lv_at hl 0 rfl) ?_
    refine lv_aload_n S.1 S.2.1 dX5_far__8 rfl (lv_at hl 2 rfl) ?_
    refine z_iconst S dX5_far__9 ?_
    refine z_iald S hK hP 0 rfl (by decide) (by omega) dX5_far__10 ?_
    refine z_icmp_gt (tgt := 50) S dX5_far__11 (by decide) (by omega) (fun h_1 => ?_) (fun h_1 => ?_)
    · exact absurd h_1 (by omega)
    · refine lv_iload_n S.1 S.2.1 dX5_far__14 rfl (lv_at hl 1 rfl) ?_
      refine lv_aload_n S.1 S.2.1 dX5_far__15 rfl (lv_at hl 2 rfl) ?_
      refine z_iconst S dX5_far__16 ?_
      refine z_iald S hK hP 0 rfl (by decide) (by omega) dX5_far__17 ?_
      refine lv_iload S.1 S.2.1 dX5_far__18 (lv_at hl 0 rfl) ?_
      refine lv_aload_n S.1 S.2.1 dX5_far__20 rfl (lv_at hl 2 rfl) ?_
      refine z_iconst S dX5_far__21 ?_
      refine z_iald S hK hP 0 rfl (by decide) (by omega) dX5_far__22 ?_
      refine z_imul S dX5_far__23 ?_
      refine z_iadd S dX5_far__24 ?_
      refine lv_aload_n S.1 S.2.1 dX5_far__25 rfl (lv_at hl 2 rfl) ?_
      refine z_iconst S dX5_far__26 ?_
      refine z_iald S hK hP 0 rfl (by decide) (by omega) dX5_far__27 ?_
      refine lv_iload S.1 S.2.1 dX5_far__28 (lv_at hl 0 rfl) ?_
      refine lv_aload_n S.1 S.2.1 dX5_far__30 rfl (lv_at hl 2 rfl) ?_
      refine z_iconst S dX5_far__31 ?_
      refine z_iald S hK hP 0 rfl (by decide) (by omega) dX5_far__32 ?_
      refine z_imul S dX5_far__33 ?_
      refine z_iadd S dX5_far__34 ?_
      refine lv_iload_n S.1 S.2.1 dX5_far__35 rfl (lv_at hl 3 rfl) ?_
      refine lv_iload_n S.1 S.2.1 dX5_far__36 rfl (lv_at hl 4 rfl) ?_
      refine z_rS (As := [.int (zI ((F 0) + ((k6 : Int) * (F 2)))), .int (zI ((F 1) + ((k6 : Int) * (F 3)))), .int (zI x), .int (zI y)]) (rest := [.int (zI (vf F x y k6))]) S (m_X5_far l D g ((F 0) + ((k6 : Int) * (F 2))) ((F 1) + ((k6 : Int) * (F 3))) x y (by omega)) ml_X5_34 sm_X5_far ini_X5 cd_X5_far ds_X5_far ⟨Nat.le_of_ble_eq_true rfl, Nat.le_of_ble_eq_true rfl⟩ hK va_P_nil rfl hl.1 rfl (Nat.le_of_ble_eq_true rfl) ⟨Nat.zero_le _, Nat.zero_le _⟩ dX5_far__37 ?_
      refine z_min S ml_X5_38 hl.1 (Nat.le_of_ble_eq_true rfl) (Nat.le_of_ble_eq_true rfl) ⟨Nat.zero_le _, Nat.zero_le _⟩ (by omega) dX5_far__40 ?_
      refine lv_istore_n (lv' := [(3, .int (zI (min (vf F x y k6) (farS ((F 0) + ((k6 : Int) * (F 2))) ((F 1) + ((k6 : Int) * (F 3))) x y)))), (4, .int (zI (k6 : Int))), (0, .ref r), (1, .int (zI x)), (2, .int (zI y))]) S.1 S.2.1 dX5_far__43 rfl hl (by decide) rfl (fun ls hl => ?_)
      refine z_iinc (lv' := [(4, .int (zI ((k6 : Int) + 1))), (3, .int (zI (min (vf F x y k6) (farS ((F 0) + ((k6 : Int) * (F 2))) ((F 1) + ((k6 : Int) * (F 3))) x y)))), (0, .ref r), (1, .int (zI x)), (2, .int (zI y))]) S dX5_far__44 hl (k := 1) rfl (by decide) rfl (fun ls hl => ?_)
      refine z_goto (tgt := 6) S dX5_far__47 (by decide) ?_
      exact ih6 _ (lv_sub hl [0, 1, 2, 3, 4] rfl) trivial
  · have hl : lv_has ls 5 [(4, .int (zI (((F 4 + 1).toNat : Nat) : Int))), (3, .int (zI (vf F x y ((F 4 + 1).toNat)))), (0, .ref r), (1, .int (zI x)), (2, .int (zI y))] := hl
    refine lv_iload S.1 S.2.1 dX5_far__6 (lv_at hl 0 rfl) ?_
    refine lv_aload_n S.1 S.2.1 dX5_far__8 rfl (lv_at hl 2 rfl) ?_
    refine z_iconst S dX5_far__9 ?_
    refine z_iald S hK hP 0 rfl (by decide) (by omega) dX5_far__10 ?_
    refine z_icmp_gt (tgt := 50) S dX5_far__11 (by decide) (by omega) (fun h_2 => ?_) (fun h_2 => ?_)
    · refine lv_iload_n S.1 S.2.1 dX5_far__50 rfl (lv_at hl 1 rfl) ?_
      exact z_ret S hr hlk (by first | rfl | grind) dX5_far__51
    · exact absurd h_2 (by omega)
set_option maxHeartbeats 4000000 in
set_option maxRecDepth 100000 in
theorem m_X5_water (l : Launch) (D : va_G) (g : ClassId × ClassId × ClassId) (b : Nat → Nat) (t : SS) (hT : IT t) (x : Int) (y : Int) (h0 : (0 ≤ x ∧ x ≤ 19) ∧ 0 ≤ y ∧ y ≤ 19) : RD l yX5_water cX5_water 8 (some .int) 3 68 D g (SW g b t) [.ref (b 0), .int (zI x), .int (zI y)] (sWat t x y) := by
  refine z_enter RX5 (by decide) rfl (Nat.le_of_ble_eq_true rfl) ?_
  intro p e s m args below meth co S hr hlk hK hP ls hl
  have hl : lv_has ls 8 [(0, .ref (b 0)), (1, .int (zI x)), (2, .int (zI y))] := hl
  have hs := hT.s
  refine z_iconst S dX5_water_0 ?_
  refine lv_istore_n (lv' := [(3, .int (zI 0)), (0, .ref (b 0)), (1, .int (zI x)), (2, .int (zI y))]) S.1 S.2.1 dX5_water_1 rfl hl (by decide) rfl (fun ls hl => ?_)
  refine lv_aload_n S.1 S.2.1 dX5_water_2 rfl (lv_at hl 1 rfl) ?_
  refine z_get (v := .ref (b 1)) S inA5 hK hP 0 rfl rfl 2 (by decide) fl_X5_15 rfl dX5_water_3 ?_
  refine lv_astore (lv' := [(4, .ref (b 1)), (3, .int (zI 0)), (0, .ref (b 0)), (1, .int (zI x)), (2, .int (zI y))]) S.1 S.2.1 dX5_water_6 hl (by decide) rfl (fun ls hl => ?_)
  refine lv_aload S.1 S.2.1 dX5_water_8 (lv_at hl 0 rfl) ?_
  refine y_alen S hK hP 1 rfl (v := t.1 2) (by show (((t.1 2).toNat : Nat) : Int) = _; omega) dX5_water_10 ?_
  refine lv_istore (lv' := [(5, .int (zI (t.1 2))), (4, .ref (b 1)), (3, .int (zI 0)), (0, .ref (b 0)), (1, .int (zI x)), (2, .int (zI y))]) S.1 S.2.1 dX5_water_11 hl (by decide) rfl (fun ls hl => ?_)
  refine z_iconst S dX5_water_13 ?_
  refine lv_istore (lv' := [(6, .int (zI 0)), (5, .int (zI (t.1 2))), (4, .ref (b 1)), (3, .int (zI 0)), (0, .ref (b 0)), (1, .int (zI x)), (2, .int (zI y))]) S.1 S.2.1 dX5_water_14 hl (by decide) rfl (fun ls hl => ?_)
  refine z_for (nL := 8) ((t.1 2).toNat) (fun (k16 : Nat) => [(6, .int (zI (k16 : Int))), (5, .int (zI (t.1 2))), (4, .ref (b 1)), (3, .int (zI (sm (sWt t x y) k16))), (0, .ref (b 0)), (1, .int (zI x)), (2, .int (zI y))]) (fun k16 => True) (fun k16 hk16 hJ16 ls hl ih16 => ?_) (fun hJ16 ls hl => ?_) 0 (by omega) trivial ls (lv_sub hl [0, 1, 2, 3, 4, 5, 6] rfl)
  · have hl : lv_has ls 8 [(6, .int (zI (k16 : Int))), (5, .int (zI (t.1 2))), (4, .ref (b 1)), (3, .int (zI (sm (sWt t x y) k16))), (0, .ref (b 0)), (1, .int (zI x)), (2, .int (zI y))] := hl
    have hb0 := sWat_b hT x y k16 (by omega)
    have hb1 := vfar_b (t.2 0 (k16 : Int)) x y
    refine lv_iload S.1 S.2.1 dX5_water_16 (lv_at hl 0 rfl) ?_
    refine lv_iload S.1 S.2.1 dX5_water_18 (lv_at hl 1 rfl) ?_
    refine z_icmp_ge (tgt := 58) S dX5_water_20 (by decide) (by omega) (fun h_1 => ?_) (fun h_1 => ?_)
    · exact absurd h_1 (by omega)
    · refine lv_aload S.1 S.2.1 dX5_water_23 (lv_at hl 2 rfl) ?_
      refine lv_iload S.1 S.2.1 dX5_water_25 (lv_at hl 0 rfl) ?_
      refine y_ald2 S hK hP 1 rfl (Nat.le_refl _) (by show (t.1 2).toNat < _; omega) (by show _ ∧ _ < (((t.1 2).toNat : Nat) : Int); omega) dX5_water_27 ?_
      have hb_2 := hT.v (i := (k16 : Int)) (by omega)
      refine lv_astore (lv' := [(7, .ref (rd b 0 ((k16 : Int)).toNat)), (6, .int (zI (k16 : Int))), (5, .int (zI (t.1 2))), (4, .ref (b 1)), (3, .int (zI (sm (sWt t x y) k16))), (0, .ref (b 0)), (1, .int (zI x)), (2, .int (zI y))]) S.1 S.2.1 dX5_water_28 hl (by decide) rfl (fun ls hl => ?_)
      refine lv_iload_n S.1 S.2.1 dX5_water_30 rfl (lv_at hl 4 rfl) ?_
      refine lv_aload S.1 S.2.1 dX5_water_31 (lv_at hl 0 rfl) ?_
      refine lv_iload_n S.1 S.2.1 dX5_water_33 rfl (lv_at hl 6 rfl) ?_
      refine lv_iload_n S.1 S.2.1 dX5_water_34 rfl (lv_at hl 7 rfl) ?_
      refine z_rS (As := [.ref (rd b 0 ((k16 : Int)).toNat), .int (zI x), .int (zI y)]) (rest := [.int (zI (sm (sWt t x y) k16))]) S (m_X5_far_ l D g (rd b 0 ((k16 : Int)).toNat) (t.2 0 (k16 : Int)) (hT.v (i := (k16 : Int)) (by omega)) x y (by omega)) ml_X5_54 sm_X5_far_ ini_X5 cd_X5_far_ ds_X5_far_ ⟨Nat.le_of_ble_eq_true rfl, Nat.le_of_ble_eq_true rfl⟩ hK (va_P_at hP (5 + ((k16 : Int)).toNat) (SW_r0 (by omega))) rfl hl.1 rfl (Nat.le_of_ble_eq_true rfl) ⟨Nat.zero_le _, Nat.zero_le _⟩ dX5_water_35 ?_
      refine z_if_ne (tgt := 49) S dX5_water_38 (by decide) (by omega) (fun h_3 => ?_) (fun h_3 => ?_)
      · refine z_iconst S dX5_water_49 ?_
        refine z_iadd S dX5_water_50 ?_
        refine lv_istore_n (lv' := [(3, .int (zI ((sm (sWt t x y) k16) + 0))), (7, .ref (rd b 0 ((k16 : Int)).toNat)), (6, .int (zI (k16 : Int))), (5, .int (zI (t.1 2))), (4, .ref (b 1)), (0, .ref (b 0)), (1, .int (zI x)), (2, .int (zI y))]) S.1 S.2.1 dX5_water_51 rfl hl (by decide) rfl (fun ls hl => ?_)
        refine z_iinc (lv' := [(6, .int (zI ((k16 : Int) + 1))), (3, .int (zI ((sm (sWt t x y) k16) + 0))), (7, .ref (rd b 0 ((k16 : Int)).toNat)), (5, .int (zI (t.1 2))), (4, .ref (b 1)), (0, .ref (b 0)), (1, .int (zI x)), (2, .int (zI y))]) S dX5_water_52 hl (k := 2) rfl (by decide) rfl (fun ls hl => ?_)
        refine z_goto (tgt := 16) S dX5_water_55 (by decide) ?_
        have e_4 : sm (sWt t x y) (k16 + 1) = (sm (sWt t x y) k16) + 0 := by grind [sm, sWt]
        exact ih16 _ (lv_sub hl [0, 3, 4, 1, 5, 6, 7] (by show _ = ([(6, .int (zI ((k16 + 1 : Nat) : Int))), (5, .int (zI (t.1 2))), (4, .ref (b 1)), (3, .int (zI (sm (sWt t x y) (k16 + 1)))), (0, .ref (b 0)), (1, .int (zI x)), (2, .int (zI y))] : List (Nat × Value)); rw [e_4]; first | done | rfl)) trivial
      · refine lv_aload S.1 S.2.1 dX5_water_41 (lv_at hl 0 rfl) ?_
        refine z_bipush S (by decide) dX5_water_43 ?_
        refine z_iald (F := t.2 0 (k16 : Int)) S hK hP (5 + ((k16 : Int)).toNat) (SW_r0 (t := t) (by omega)) (by decide) (by omega) dX5_water_45 ?_
        refine z_goto (tgt := 50) S dX5_water_46 (by decide) ?_
        refine z_iadd S dX5_water_50 ?_
        refine lv_istore_n (lv' := [(3, .int (zI ((sm (sWt t x y) k16) + (t.2 0 (k16 : Int) 6)))), (7, .ref (rd b 0 ((k16 : Int)).toNat)), (6, .int (zI (k16 : Int))), (5, .int (zI (t.1 2))), (4, .ref (b 1)), (0, .ref (b 0)), (1, .int (zI x)), (2, .int (zI y))]) S.1 S.2.1 dX5_water_51 rfl hl (by decide) rfl (fun ls hl => ?_)
        refine z_iinc (lv' := [(6, .int (zI ((k16 : Int) + 1))), (3, .int (zI ((sm (sWt t x y) k16) + (t.2 0 (k16 : Int) 6)))), (7, .ref (rd b 0 ((k16 : Int)).toNat)), (5, .int (zI (t.1 2))), (4, .ref (b 1)), (0, .ref (b 0)), (1, .int (zI x)), (2, .int (zI y))]) S dX5_water_52 hl (k := 2) rfl (by decide) rfl (fun ls hl => ?_)
        refine z_goto (tgt := 16) S dX5_water_55 (by decide) ?_
        have e_5 : sm (sWt t x y) (k16 + 1) = (sm (sWt t x y) k16) + (t.2 0 (k16 : Int) 6) := by grind [sm, sWt]
        exact ih16 _ (lv_sub hl [0, 3, 4, 1, 5, 6, 7] (by show _ = ([(6, .int (zI ((k16 + 1 : Nat) : Int))), (5, .int (zI (t.1 2))), (4, .ref (b 1)), (3, .int (zI (sm (sWt t x y) (k16 + 1)))), (0, .ref (b 0)), (1, .int (zI x)), (2, .int (zI y))] : List (Nat × Value)); rw [e_5]; first | done | rfl)) trivial
  · have hl : lv_has ls 8 [(6, .int (zI (((t.1 2).toNat : Nat) : Int))), (5, .int (zI (t.1 2))), (4, .ref (b 1)), (3, .int (zI (sm (sWt t x y) ((t.1 2).toNat)))), (0, .ref (b 0)), (1, .int (zI x)), (2, .int (zI y))] := hl
    refine lv_iload S.1 S.2.1 dX5_water_16 (lv_at hl 0 rfl) ?_
    refine lv_iload S.1 S.2.1 dX5_water_18 (lv_at hl 1 rfl) ?_
    refine z_icmp_ge (tgt := 58) S dX5_water_20 (by decide) (by omega) (fun h_6 => ?_) (fun h_6 => ?_)
    · refine lv_iload_n S.1 S.2.1 dX5_water_58 rfl (lv_at hl 3 rfl) ?_
      exact z_ret S hr hlk (by first | rfl | grind) dX5_water_59
    · exact absurd h_6 (by omega)
set_option maxHeartbeats 4000000 in
set_option maxRecDepth 100000 in
theorem m_X5_depth (l : Launch) (D : va_G) (g : ClassId × ClassId × ClassId) (b : Nat → Nat) (t : SS) (hT : IT t) (x : Int) (y : Int) (h0 : (0 ≤ x ∧ x ≤ 19) ∧ 0 ≤ y ∧ y ≤ 19) : RD l yX5_depth cX5_depth 8 (some .int) 3 68 D g (SW g b t) [.ref (b 0), .int (zI x), .int (zI y)] (sDep t x y) := by
  refine z_enter RX5 (by decide) rfl (Nat.le_of_ble_eq_true rfl) ?_
  intro p e s m args below meth co S hr hlk hK hP ls hl
  have hl : lv_has ls 8 [(0, .ref (b 0)), (1, .int (zI x)), (2, .int (zI y))] := hl
  have hs := hT.s
  refine z_bipush S (by decide) dX5_depth_0 ?_
  refine lv_istore_n (lv' := [(3, .int (zI 99)), (0, .ref (b 0)), (1, .int (zI x)), (2, .int (zI y))]) S.1 S.2.1 dX5_depth_2 rfl hl (by decide) rfl (fun ls hl => ?_)
  refine lv_aload_n S.1 S.2.1 dX5_depth_3 rfl (lv_at hl 1 rfl) ?_
  refine z_get (v := .ref (b 1)) S inA5 hK hP 0 rfl rfl 2 (by decide) fl_X5_15 rfl dX5_depth_4 ?_
  refine lv_astore (lv' := [(4, .ref (b 1)), (3, .int (zI 99)), (0, .ref (b 0)), (1, .int (zI x)), (2, .int (zI y))]) S.1 S.2.1 dX5_depth_7 hl (by decide) rfl (fun ls hl => ?_)
  refine lv_aload S.1 S.2.1 dX5_depth_9 (lv_at hl 0 rfl) ?_
  refine y_alen S hK hP 1 rfl (v := t.1 2) (by show (((t.1 2).toNat : Nat) : Int) = _; omega) dX5_depth_11 ?_
  refine lv_istore (lv' := [(5, .int (zI (t.1 2))), (4, .ref (b 1)), (3, .int (zI 99)), (0, .ref (b 0)), (1, .int (zI x)), (2, .int (zI y))]) S.1 S.2.1 dX5_depth_12 hl (by decide) rfl (fun ls hl => ?_)
  refine z_iconst S dX5_depth_14 ?_
  refine lv_istore (lv' := [(6, .int (zI 0)), (5, .int (zI (t.1 2))), (4, .ref (b 1)), (3, .int (zI 99)), (0, .ref (b 0)), (1, .int (zI x)), (2, .int (zI y))]) S.1 S.2.1 dX5_depth_15 hl (by decide) rfl (fun ls hl => ?_)
  refine z_for (nL := 8) ((t.1 2).toNat) (fun (k17 : Nat) => [(6, .int (zI (k17 : Int))), (5, .int (zI (t.1 2))), (4, .ref (b 1)), (3, .int (zI (sDp t x y k17))), (0, .ref (b 0)), (1, .int (zI x)), (2, .int (zI y))]) (fun k17 => True) (fun k17 hk17 hJ17 ls hl ih17 => ?_) (fun hJ17 ls hl => ?_) 0 (by omega) trivial ls (lv_sub hl [0, 1, 2, 3, 4, 5, 6] rfl)
  · have hl : lv_has ls 8 [(6, .int (zI (k17 : Int))), (5, .int (zI (t.1 2))), (4, .ref (b 1)), (3, .int (zI (sDp t x y k17))), (0, .ref (b 0)), (1, .int (zI x)), (2, .int (zI y))] := hl
    have hb0 := sDp_b hT x y k17 (by omega)
    have hb1 := vfar_b (t.2 0 (k17 : Int)) x y
    refine lv_iload S.1 S.2.1 dX5_depth_17 (lv_at hl 0 rfl) ?_
    refine lv_iload S.1 S.2.1 dX5_depth_19 (lv_at hl 1 rfl) ?_
    refine z_icmp_ge (tgt := 56) S dX5_depth_21 (by decide) (by omega) (fun h_1 => ?_) (fun h_1 => ?_)
    · exact absurd h_1 (by omega)
    · refine lv_aload S.1 S.2.1 dX5_depth_24 (lv_at hl 2 rfl) ?_
      refine lv_iload S.1 S.2.1 dX5_depth_26 (lv_at hl 0 rfl) ?_
      refine y_ald2 S hK hP 1 rfl (Nat.le_refl _) (by show (t.1 2).toNat < _; omega) (by show _ ∧ _ < (((t.1 2).toNat : Nat) : Int); omega) dX5_depth_28 ?_
      have hb_2 := hT.v (i := (k17 : Int)) (by omega)
      refine lv_astore (lv' := [(7, .ref (rd b 0 ((k17 : Int)).toNat)), (6, .int (zI (k17 : Int))), (5, .int (zI (t.1 2))), (4, .ref (b 1)), (3, .int (zI (sDp t x y k17))), (0, .ref (b 0)), (1, .int (zI x)), (2, .int (zI y))]) S.1 S.2.1 dX5_depth_29 hl (by decide) rfl (fun ls hl => ?_)
      refine lv_aload S.1 S.2.1 dX5_depth_31 (lv_at hl 0 rfl) ?_
      refine lv_iload_n S.1 S.2.1 dX5_depth_33 rfl (lv_at hl 6 rfl) ?_
      refine lv_iload_n S.1 S.2.1 dX5_depth_34 rfl (lv_at hl 7 rfl) ?_
      refine z_rS (As := [.ref (rd b 0 ((k17 : Int)).toNat), .int (zI x), .int (zI y)]) (rest := []) S (m_X5_far_ l D g (rd b 0 ((k17 : Int)).toNat) (t.2 0 (k17 : Int)) (hT.v (i := (k17 : Int)) (by omega)) x y (by omega)) ml_X5_54 sm_X5_far_ ini_X5 cd_X5_far_ ds_X5_far_ ⟨Nat.le_of_ble_eq_true rfl, Nat.le_of_ble_eq_true rfl⟩ hK (va_P_at hP (5 + ((k17 : Int)).toNat) (SW_r0 (by omega))) rfl hl.1 rfl (Nat.le_of_ble_eq_true rfl) ⟨Nat.zero_le _, Nat.zero_le _⟩ dX5_depth_35 ?_
      refine z_if_ne (tgt := 50) S dX5_depth_38 (by decide) (by omega) (fun h_3 => ?_) (fun h_3 => ?_)
      · refine z_iinc (lv' := [(6, .int (zI ((k17 : Int) + 1))), (7, .ref (rd b 0 ((k17 : Int)).toNat)), (5, .int (zI (t.1 2))), (4, .ref (b 1)), (3, .int (zI (sDp t x y k17))), (0, .ref (b 0)), (1, .int (zI x)), (2, .int (zI y))]) S dX5_depth_50 hl (k := 1) rfl (by decide) rfl (fun ls hl => ?_)
        refine z_goto (tgt := 17) S dX5_depth_53 (by decide) ?_
        have e_4 : sDp t x y (k17 + 1) = sDp t x y k17 := by grind [sDp]
        exact ih17 _ (lv_sub hl [0, 2, 3, 4, 5, 6, 7] (by show _ = ([(6, .int (zI ((k17 + 1 : Nat) : Int))), (5, .int (zI (t.1 2))), (4, .ref (b 1)), (3, .int (zI (sDp t x y (k17 + 1)))), (0, .ref (b 0)), (1, .int (zI x)), (2, .int (zI y))] : List (Nat × Value)); rw [e_4]; first | done | rfl)) trivial
      · refine lv_iload_n S.1 S.2.1 dX5_depth_41 rfl (lv_at hl 4 rfl) ?_
        refine lv_aload S.1 S.2.1 dX5_depth_42 (lv_at hl 0 rfl) ?_
        refine z_iconst S dX5_depth_44 ?_
        refine z_iald (F := t.2 0 (k17 : Int)) S hK hP (5 + ((k17 : Int)).toNat) (SW_r0 (t := t) (by omega)) (by decide) (by omega) dX5_depth_45 ?_
        refine z_min S ml_X5_38 hl.1 (Nat.le_of_ble_eq_true rfl) (Nat.le_of_ble_eq_true rfl) ⟨Nat.zero_le _, Nat.zero_le _⟩ (by omega) dX5_depth_46 ?_
        refine lv_istore_n (lv' := [(3, .int (zI (min (sDp t x y k17) (t.2 0 (k17 : Int) 5)))), (7, .ref (rd b 0 ((k17 : Int)).toNat)), (6, .int (zI (k17 : Int))), (5, .int (zI (t.1 2))), (4, .ref (b 1)), (0, .ref (b 0)), (1, .int (zI x)), (2, .int (zI y))]) S.1 S.2.1 dX5_depth_49 rfl hl (by decide) rfl (fun ls hl => ?_)
        refine z_iinc (lv' := [(6, .int (zI ((k17 : Int) + 1))), (3, .int (zI (min (sDp t x y k17) (t.2 0 (k17 : Int) 5)))), (7, .ref (rd b 0 ((k17 : Int)).toNat)), (5, .int (zI (t.1 2))), (4, .ref (b 1)), (0, .ref (b 0)), (1, .int (zI x)), (2, .int (zI y))]) S dX5_depth_50 hl (k := 2) rfl (by decide) rfl (fun ls hl => ?_)
        refine z_goto (tgt := 17) S dX5_depth_53 (by decide) ?_
        have e_5 : sDp t x y (k17 + 1) = min (sDp t x y k17) (t.2 0 (k17 : Int) 5) := by grind [sDp]
        exact ih17 _ (lv_sub hl [0, 3, 4, 1, 5, 6, 7] (by show _ = ([(6, .int (zI ((k17 + 1 : Nat) : Int))), (5, .int (zI (t.1 2))), (4, .ref (b 1)), (3, .int (zI (sDp t x y (k17 + 1)))), (0, .ref (b 0)), (1, .int (zI x)), (2, .int (zI y))] : List (Nat × Value)); rw [e_5]; first | done | rfl)) trivial
  · have hl : lv_has ls 8 [(6, .int (zI (((t.1 2).toNat : Nat) : Int))), (5, .int (zI (t.1 2))), (4, .ref (b 1)), (3, .int (zI (sDp t x y ((t.1 2).toNat)))), (0, .ref (b 0)), (1, .int (zI x)), (2, .int (zI y))] := hl
    have hb0 := sDp_b hT x y (t.1 2).toNat (by omega)
    refine lv_iload S.1 S.2.1 dX5_depth_17 (lv_at hl 0 rfl) ?_
    refine lv_iload S.1 S.2.1 dX5_depth_19 (lv_at hl 1 rfl) ?_
    refine z_icmp_ge (tgt := 56) S dX5_depth_21 (by decide) (by omega) (fun h_6 => ?_) (fun h_6 => ?_)
    · refine lv_iload_n S.1 S.2.1 dX5_depth_56 rfl (lv_at hl 3 rfl) ?_
      refine z_bipush S (by decide) dX5_depth_57 ?_
      refine z_icmp_ne (tgt := 66) S dX5_depth_59 (by decide) (by omega) (fun h_7 => ?_) (fun h_7 => ?_)
      · refine lv_iload_n S.1 S.2.1 dX5_depth_66 rfl (lv_at hl 3 rfl) ?_
        exact z_ret S hr hlk (by grind [sDep]) dX5_depth_67
      · refine z_iconst S dX5_depth_62 ?_
        refine z_goto (tgt := 67) S dX5_depth_63 (by decide) ?_
        exact z_ret S hr hlk (by grind [sDep]) dX5_depth_67
    · exact absurd h_6 (by omega)
set_option maxHeartbeats 4000000 in
set_option maxRecDepth 100000 in
theorem m_X5_rod (l : Launch) (D : va_G) (g : ClassId × ClassId × ClassId) (b : Nat → Nat) (t : SS) (hT : IT t) (d : Int) (x : Int) (y : Int) (h0 : 0 ≤ d ∧ d < t.1 3) (h1 : (0 ≤ x ∧ x ≤ 19) ∧ 0 ≤ y ∧ y ≤ 19) : RD l yX5_rod cX5_rod 10 (some .int) 3 68 D g (SW g b t) [.ref (b 0), .int (zI d), .int (zI x), .int (zI y)] (sRod t d x y) := by
  refine z_enter RX5 (by decide) rfl (Nat.le_of_ble_eq_true rfl) ?_
  intro p e s m args below meth co S hr hlk hK hP ls hl
  have hl : lv_has ls 10 [(0, .ref (b 0)), (1, .int (zI d)), (2, .int (zI x)), (3, .int (zI y))] := hl
  have hs := hT.s
  refine z_iconst S dX5_rod_0 ?_
  refine lv_istore (lv' := [(4, .int (zI 0)), (0, .ref (b 0)), (1, .int (zI d)), (2, .int (zI x)), (3, .int (zI y))]) S.1 S.2.1 dX5_rod_1 hl (by decide) rfl (fun ls hl => ?_)
  refine lv_aload_n S.1 S.2.1 dX5_rod_3 rfl (lv_at hl 1 rfl) ?_
  refine z_get (v := .ref (b 1)) S inA5 hK hP 0 rfl rfl 2 (by decide) fl_X5_15 rfl dX5_rod_4 ?_
  refine lv_astore (lv' := [(5, .ref (b 1)), (4, .int (zI 0)), (0, .ref (b 0)), (1, .int (zI d)), (2, .int (zI x)), (3, .int (zI y))]) S.1 S.2.1 dX5_rod_7 hl (by decide) rfl (fun ls hl => ?_)
  refine lv_aload S.1 S.2.1 dX5_rod_9 (lv_at hl 0 rfl) ?_
  refine y_alen S hK hP 1 rfl (v := t.1 2) (by show (((t.1 2).toNat : Nat) : Int) = _; omega) dX5_rod_11 ?_
  refine lv_istore (lv' := [(6, .int (zI (t.1 2))), (5, .ref (b 1)), (4, .int (zI 0)), (0, .ref (b 0)), (1, .int (zI d)), (2, .int (zI x)), (3, .int (zI y))]) S.1 S.2.1 dX5_rod_12 hl (by decide) rfl (fun ls hl => ?_)
  refine z_iconst S dX5_rod_14 ?_
  refine lv_istore (lv' := [(7, .int (zI 0)), (6, .int (zI (t.1 2))), (5, .ref (b 1)), (4, .int (zI 0)), (0, .ref (b 0)), (1, .int (zI d)), (2, .int (zI x)), (3, .int (zI y))]) S.1 S.2.1 dX5_rod_15 hl (by decide) rfl (fun ls hl => ?_)
  refine z_for (nL := 10) ((t.1 2).toNat) (fun (k17 : Nat) => [(7, .int (zI (k17 : Int))), (6, .int (zI (t.1 2))), (5, .ref (b 1)), (4, .int (zI (sm (sRt t d x y) k17))), (0, .ref (b 0)), (1, .int (zI d)), (2, .int (zI x)), (3, .int (zI y))]) (fun k17 => True) (fun k17 hk17 hJ17 ls hl ih17 => ?_) (fun hJ17 ls hl => ?_) 0 (by omega) trivial ls (lv_sub hl [0, 1, 2, 3, 4, 5, 6, 7] rfl)
  · have hl : lv_has ls 10 [(7, .int (zI (k17 : Int))), (6, .int (zI (t.1 2))), (5, .ref (b 1)), (4, .int (zI (sm (sRt t d x y) k17))), (0, .ref (b 0)), (1, .int (zI d)), (2, .int (zI x)), (3, .int (zI y))] := hl
    have hb0 := sRm_b hT h0 x y k17 (by omega)
    have hb1 := vfar_b (t.2 0 (k17 : Int)) x y
    have hb2 := sw_b hT (d := d) (i := (k17 : Int)) h0 (by omega)
    refine lv_iload S.1 S.2.1 dX5_rod_17 (lv_at hl 0 rfl) ?_
    refine lv_iload S.1 S.2.1 dX5_rod_19 (lv_at hl 1 rfl) ?_
    refine z_icmp_ge (tgt := 81) S dX5_rod_21 (by decide) (by omega) (fun h_1 => ?_) (fun h_1 => ?_)
    · exact absurd h_1 (by omega)
    · refine lv_aload S.1 S.2.1 dX5_rod_24 (lv_at hl 2 rfl) ?_
      refine lv_iload S.1 S.2.1 dX5_rod_26 (lv_at hl 0 rfl) ?_
      refine y_ald2 S hK hP 1 rfl (Nat.le_refl _) (by show (t.1 2).toNat < _; omega) (by show _ ∧ _ < (((t.1 2).toNat : Nat) : Int); omega) dX5_rod_28 ?_
      have hb_2 := hT.v (i := (k17 : Int)) (by omega)
      refine lv_astore (lv' := [(8, .ref (rd b 0 ((k17 : Int)).toNat)), (7, .int (zI (k17 : Int))), (6, .int (zI (t.1 2))), (5, .ref (b 1)), (4, .int (zI (sm (sRt t d x y) k17))), (0, .ref (b 0)), (1, .int (zI d)), (2, .int (zI x)), (3, .int (zI y))]) S.1 S.2.1 dX5_rod_29 hl (by decide) rfl (fun ls hl => ?_)
      refine lv_aload S.1 S.2.1 dX5_rod_31 (lv_at hl 0 rfl) ?_
      refine lv_iload_n S.1 S.2.1 dX5_rod_33 rfl (lv_at hl 7 rfl) ?_
      refine lv_iload_n S.1 S.2.1 dX5_rod_34 rfl (lv_at hl 8 rfl) ?_
      refine z_rS (As := [.ref (rd b 0 ((k17 : Int)).toNat), .int (zI x), .int (zI y)]) (rest := []) S (m_X5_far_ l D g (rd b 0 ((k17 : Int)).toNat) (t.2 0 (k17 : Int)) (hT.v (i := (k17 : Int)) (by omega)) x y (by omega)) ml_X5_54 sm_X5_far_ ini_X5 cd_X5_far_ ds_X5_far_ ⟨Nat.le_of_ble_eq_true rfl, Nat.le_of_ble_eq_true rfl⟩ hK (va_P_at hP (5 + ((k17 : Int)).toNat) (SW_r0 (by omega))) rfl hl.1 rfl (Nat.le_of_ble_eq_true rfl) ⟨Nat.zero_le _, Nat.zero_le _⟩ dX5_rod_35 ?_
      refine lv_istore (lv' := [(9, .int (zI (vfar (t.2 0 (k17 : Int)) x y))), (8, .ref (rd b 0 ((k17 : Int)).toNat)), (7, .int (zI (k17 : Int))), (6, .int (zI (t.1 2))), (5, .ref (b 1)), (4, .int (zI (sm (sRt t d x y) k17))), (0, .ref (b 0)), (1, .int (zI d)), (2, .int (zI x)), (3, .int (zI y))]) S.1 S.2.1 dX5_rod_38 hl (by decide) rfl (fun ls hl => ?_)
      refine lv_iload S.1 S.2.1 dX5_rod_40 (lv_at hl 0 rfl) ?_
      refine z_iconst S dX5_rod_42 ?_
      refine z_icmp_ge (tgt := 75) S dX5_rod_43 (by decide) (by omega) (fun h_3 => ?_) (fun h_3 => ?_)
      · refine z_iinc (lv' := [(7, .int (zI ((k17 : Int) + 1))), (9, .int (zI (vfar (t.2 0 (k17 : Int)) x y))), (8, .ref (rd b 0 ((k17 : Int)).toNat)), (6, .int (zI (t.1 2))), (5, .ref (b 1)), (4, .int (zI (sm (sRt t d x y) k17))), (0, .ref (b 0)), (1, .int (zI d)), (2, .int (zI x)), (3, .int (zI y))]) S dX5_rod_75 hl (k := 2) rfl (by decide) rfl (fun ls hl => ?_)
        refine z_goto (tgt := 17) S dX5_rod_78 (by decide) ?_
        have e_4 : sm (sRt t d x y) (k17 + 1) = sm (sRt t d x y) k17 := by grind [sm, sRt]
        exact ih17 _ (lv_sub hl [0, 3, 4, 5, 6, 7, 8, 9] (by show _ = ([(7, .int (zI ((k17 + 1 : Nat) : Int))), (6, .int (zI (t.1 2))), (5, .ref (b 1)), (4, .int (zI (sm (sRt t d x y) (k17 + 1)))), (0, .ref (b 0)), (1, .int (zI d)), (2, .int (zI x)), (3, .int (zI y))] : List (Nat × Value)); rw [e_4]; first | done | rfl)) trivial
      · refine lv_iload S.1 S.2.1 dX5_rod_46 (lv_at hl 5 rfl) ?_
        refine lv_aload S.1 S.2.1 dX5_rod_48 (lv_at hl 1 rfl) ?_
        refine z_bipush S (by decide) dX5_rod_50 ?_
        refine z_iald (F := t.2 0 (k17 : Int)) S hK hP (5 + ((k17 : Int)).toNat) (SW_r0 (t := t) (by omega)) (by decide) (by omega) dX5_rod_52 ?_
        refine lv_aload_n S.1 S.2.1 dX5_rod_53 rfl (lv_at hl 6 rfl) ?_
        refine z_get (v := .ref (b 2)) S inA5 hK hP 0 rfl rfl 3 (by decide) fl_X5_19 rfl dX5_rod_54 ?_
        refine lv_iload_n S.1 S.2.1 dX5_rod_57 rfl (lv_at hl 7 rfl) ?_
        refine y_ald2 S hK hP 2 rfl (Nat.le_refl _) (by show (t.1 3).toNat < _; omega) (by show _ ∧ _ < (((t.1 3).toNat : Nat) : Int); omega) dX5_rod_58 ?_
        have hb_5 := hT.d (i := d) (by omega)
        refine z_iconst S dX5_rod_59 ?_
        refine z_iald (F := t.2 1 d) S hK hP (5 + (sn t 0 + (d).toNat)) (SW_r1 (t := t) (by omega)) (by decide) (by omega) dX5_rod_60 ?_
        refine z_imul S dX5_rod_61 ?_
        refine lv_aload S.1 S.2.1 dX5_rod_62 (lv_at hl 1 rfl) ?_
        refine z_iconst S dX5_rod_64 ?_
        refine z_iald (F := t.2 0 (k17 : Int)) S hK hP (5 + ((k17 : Int)).toNat) (SW_r0 (t := t) (by omega)) (by decide) (by omega) dX5_rod_65 ?_
        refine z_idivn S (by omega) dX5_rod_66 ?_
        refine lv_iload S.1 S.2.1 dX5_rod_67 (lv_at hl 0 rfl) ?_
        refine z_iconst S dX5_rod_69 ?_
        refine z_iadd S dX5_rod_70 ?_
        refine z_idivn S (by omega) dX5_rod_71 ?_
        refine z_iadd S dX5_rod_72 ?_
        refine lv_istore (lv' := [(4, .int (zI ((sm (sRt t d x y) k17) + ((((t.2 0 (k17 : Int) 6) * (t.2 1 d 0)) / (t.2 0 (k17 : Int) 5)) / ((vfar (t.2 0 (k17 : Int)) x y) + 1))))), (9, .int (zI (vfar (t.2 0 (k17 : Int)) x y))), (8, .ref (rd b 0 ((k17 : Int)).toNat)), (7, .int (zI (k17 : Int))), (6, .int (zI (t.1 2))), (5, .ref (b 1)), (0, .ref (b 0)), (1, .int (zI d)), (2, .int (zI x)), (3, .int (zI y))]) S.1 S.2.1 dX5_rod_73 hl (by decide) rfl (fun ls hl => ?_)
        refine z_iinc (lv' := [(7, .int (zI ((k17 : Int) + 1))), (4, .int (zI ((sm (sRt t d x y) k17) + ((((t.2 0 (k17 : Int) 6) * (t.2 1 d 0)) / (t.2 0 (k17 : Int) 5)) / ((vfar (t.2 0 (k17 : Int)) x y) + 1))))), (9, .int (zI (vfar (t.2 0 (k17 : Int)) x y))), (8, .ref (rd b 0 ((k17 : Int)).toNat)), (6, .int (zI (t.1 2))), (5, .ref (b 1)), (0, .ref (b 0)), (1, .int (zI d)), (2, .int (zI x)), (3, .int (zI y))]) S dX5_rod_75 hl (k := 3) rfl (by decide) rfl (fun ls hl => ?_)
        refine z_goto (tgt := 17) S dX5_rod_78 (by decide) ?_
        have e_6 : sm (sRt t d x y) (k17 + 1) = (sm (sRt t d x y) k17) + ((((t.2 0 (k17 : Int) 6) * (t.2 1 d 0)) / (t.2 0 (k17 : Int) 5)) / ((vfar (t.2 0 (k17 : Int)) x y) + 1)) := by grind [sm, sRt]
        exact ih17 _ (lv_sub hl [0, 4, 5, 1, 6, 7, 8, 9] (by show _ = ([(7, .int (zI ((k17 + 1 : Nat) : Int))), (6, .int (zI (t.1 2))), (5, .ref (b 1)), (4, .int (zI (sm (sRt t d x y) (k17 + 1)))), (0, .ref (b 0)), (1, .int (zI d)), (2, .int (zI x)), (3, .int (zI y))] : List (Nat × Value)); rw [e_6]; first | done | rfl)) trivial
  · have hl : lv_has ls 10 [(7, .int (zI (((t.1 2).toNat : Nat) : Int))), (6, .int (zI (t.1 2))), (5, .ref (b 1)), (4, .int (zI (sm (sRt t d x y) ((t.1 2).toNat)))), (0, .ref (b 0)), (1, .int (zI d)), (2, .int (zI x)), (3, .int (zI y))] := hl
    have hb0 := sRm_b hT h0 x y (t.1 2).toNat (by omega)
    have hb3 := sRs_b hT h0 x y
    have hb4 : sm (sRt t d x y) (t.1 2).toNat + t.2 1 d 1 = sRs t d x y := rfl
    refine lv_iload S.1 S.2.1 dX5_rod_17 (lv_at hl 0 rfl) ?_
    refine lv_iload S.1 S.2.1 dX5_rod_19 (lv_at hl 1 rfl) ?_
    refine z_icmp_ge (tgt := 81) S dX5_rod_21 (by decide) (by omega) (fun h_7 => ?_) (fun h_7 => ?_)
    · refine lv_iload S.1 S.2.1 dX5_rod_81 (lv_at hl 3 rfl) ?_
      refine lv_aload_n S.1 S.2.1 dX5_rod_83 rfl (lv_at hl 4 rfl) ?_
      refine z_get (v := .ref (b 2)) S inA5 hK hP 0 rfl rfl 3 (by decide) fl_X5_19 rfl dX5_rod_84 ?_
      refine lv_iload_n S.1 S.2.1 dX5_rod_87 rfl (lv_at hl 5 rfl) ?_
      refine y_ald2 S hK hP 2 rfl (Nat.le_refl _) (by show (t.1 3).toNat < _; omega) (by show _ ∧ _ < (((t.1 3).toNat : Nat) : Int); omega) dX5_rod_88 ?_
      have hb_8 := hT.d (i := d) (by omega)
      refine z_iconst S dX5_rod_89 ?_
      refine z_iald (F := t.2 1 d) S hK hP (5 + (sn t 0 + (d).toNat)) (SW_r1 (t := t) (by omega)) (by decide) (by omega) dX5_rod_90 ?_
      refine z_iadd S dX5_rod_91 ?_
      refine lv_istore (lv' := [(4, .int (zI ((sm (sRt t d x y) ((t.1 2).toNat)) + (t.2 1 d 1)))), (7, .int (zI (((t.1 2).toNat : Nat) : Int))), (6, .int (zI (t.1 2))), (5, .ref (b 1)), (0, .ref (b 0)), (1, .int (zI d)), (2, .int (zI x)), (3, .int (zI y))]) S.1 S.2.1 dX5_rod_92 hl (by decide) rfl (fun ls hl => ?_)
      refine lv_iload S.1 S.2.1 dX5_rod_94 (lv_at hl 0 rfl) ?_
      refine z_if_ge (tgt := 103) S dX5_rod_96 (by decide) (by omega) (fun h_9 => ?_) (fun h_9 => ?_)
      · refine lv_iload S.1 S.2.1 dX5_rod_103 (lv_at hl 0 rfl) ?_
        exact z_ret S hr hlk (by grind [sRod, sRs]) dX5_rod_105
      · refine z_iconst S dX5_rod_99 ?_
        refine z_goto (tgt := 105) S dX5_rod_100 (by decide) ?_
        exact z_ret S hr hlk (by grind [sRod, sRs]) dX5_rod_105
    · exact absurd h_7 (by omega)
set_option maxHeartbeats 4000000 in
set_option maxRecDepth 100000 in
theorem m_X5_pegAt (l : Launch) (D : va_G) (g : ClassId × ClassId × ClassId) (b : Nat → Nat) (t : SS) (hT : IT t) (x : Int) (y : Int) (h0 : (0 ≤ x ∧ x ≤ 19) ∧ 0 ≤ y ∧ y ≤ 19) : RD l yX5_pegAt cX5_pegAt 4 (some .int) 0 0 D g (SW g b t) [.ref (b 0), .int (zI x), .int (zI y)] (sPA t x y) := by
  refine z_enter RX5 (by decide) rfl (Nat.le_of_ble_eq_true rfl) ?_
  intro p e s m args below meth co S hr hlk hK hP ls hl
  have hl : lv_has ls 4 [(0, .ref (b 0)), (1, .int (zI x)), (2, .int (zI y))] := hl
  have hs := hT.s
  refine z_iconst S dX5_pegAt_0 ?_
  refine lv_istore_n (lv' := [(3, .int (zI 0)), (0, .ref (b 0)), (1, .int (zI x)), (2, .int (zI y))]) S.1 S.2.1 dX5_pegAt_1 rfl hl (by decide) rfl (fun ls hl => ?_)
  refine z_for (nL := 4) ((t.1 4).toNat) (fun (k2 : Nat) => [(3, .int (zI (k2 : Int))), (0, .ref (b 0)), (1, .int (zI x)), (2, .int (zI y))]) (fun k2 => ff (atP t 2 x y) k2 = -1) (fun k2 hk2 hJ2 ls hl ih2 => ?_) (fun hJ2 ls hl => ?_) 0 (by omega) rfl ls (lv_sub hl [0, 1, 2, 3] rfl)
  · have hl : lv_has ls 4 [(3, .int (zI (k2 : Int))), (0, .ref (b 0)), (1, .int (zI x)), (2, .int (zI y))] := hl
    have hJ2 : ff (atP t 2 x y) k2 = -1 := hJ2
    refine lv_iload_n S.1 S.2.1 dX5_pegAt_2 rfl (lv_at hl 0 rfl) ?_
    refine lv_aload_n S.1 S.2.1 dX5_pegAt_3 rfl (lv_at hl 1 rfl) ?_
    refine z_get (v := .ref (b 3)) S inA5 hK hP 0 rfl rfl 4 (by decide) fl_X5_22 rfl dX5_pegAt_4 ?_
    refine y_alen S hK hP 3 rfl (v := t.1 4) (by show (((t.1 4).toNat : Nat) : Int) = _; omega) dX5_pegAt_7 ?_
    refine z_icmp_ge (tgt := 43) S dX5_pegAt_8 (by decide) (by omega) (fun h_1 => ?_) (fun h_1 => ?_)
    · exact absurd h_1 (by omega)
    · refine lv_aload_n S.1 S.2.1 dX5_pegAt_11 rfl (lv_at hl 1 rfl) ?_
      refine z_get (v := .ref (b 3)) S inA5 hK hP 0 rfl rfl 4 (by decide) fl_X5_22 rfl dX5_pegAt_12 ?_
      refine lv_iload_n S.1 S.2.1 dX5_pegAt_15 rfl (lv_at hl 0 rfl) ?_
      refine y_ald2 S hK hP 3 rfl (Nat.le_refl _) (by show (t.1 4).toNat < _; omega) (by show _ ∧ _ < (((t.1 4).toNat : Nat) : Int); omega) dX5_pegAt_16 ?_
      have hb_2 := hT.p (i := (k2 : Int)) (by omega)
      refine z_iconst S dX5_pegAt_17 ?_
      refine z_iald (F := t.2 2 (k2 : Int)) S hK hP (5 + (sn t 0 + (sn t 1 + ((k2 : Int)).toNat))) (SW_r2 (t := t) (by omega)) (by decide) (by omega) dX5_pegAt_18 ?_
      refine lv_iload_n S.1 S.2.1 dX5_pegAt_19 rfl (lv_at hl 2 rfl) ?_
      refine z_icmp_ne (tgt := 37) S dX5_pegAt_20 (by decide) (by omega) (fun h_3 => ?_) (fun h_3 => ?_)
      · refine z_iinc (lv' := [(3, .int (zI ((k2 : Int) + 1))), (0, .ref (b 0)), (1, .int (zI x)), (2, .int (zI y))]) S dX5_pegAt_37 hl (k := 0) rfl (by decide) rfl (fun ls hl => ?_)
        refine z_goto (tgt := 2) S dX5_pegAt_40 (by decide) ?_
        exact ih2 _ (lv_sub hl [0, 1, 2, 3] rfl) (ff_no hJ2 (by show ¬ (t.2 2 (k2 : Int) 0 = x ∧ t.2 2 (k2 : Int) 1 = y); omega))
      · refine lv_aload_n S.1 S.2.1 dX5_pegAt_23 rfl (lv_at hl 1 rfl) ?_
        refine z_get (v := .ref (b 3)) S inA5 hK hP 0 rfl rfl 4 (by decide) fl_X5_22 rfl dX5_pegAt_24 ?_
        refine lv_iload_n S.1 S.2.1 dX5_pegAt_27 rfl (lv_at hl 0 rfl) ?_
        refine y_ald2 S hK hP 3 rfl (Nat.le_refl _) (by show (t.1 4).toNat < _; omega) (by show _ ∧ _ < (((t.1 4).toNat : Nat) : Int); omega) dX5_pegAt_28 ?_
        have hb_4 := hT.p (i := (k2 : Int)) (by omega)
        refine z_iconst S dX5_pegAt_29 ?_
        refine z_iald (F := t.2 2 (k2 : Int)) S hK hP (5 + (sn t 0 + (sn t 1 + ((k2 : Int)).toNat))) (SW_r2 (t := t) (by omega)) (by decide) (by omega) dX5_pegAt_30 ?_
        refine lv_iload_n S.1 S.2.1 dX5_pegAt_31 rfl (lv_at hl 3 rfl) ?_
        refine z_icmp_ne (tgt := 37) S dX5_pegAt_32 (by decide) (by omega) (fun h_5 => ?_) (fun h_5 => ?_)
        · refine z_iinc (lv' := [(3, .int (zI ((k2 : Int) + 1))), (0, .ref (b 0)), (1, .int (zI x)), (2, .int (zI y))]) S dX5_pegAt_37 hl (k := 0) rfl (by decide) rfl (fun ls hl => ?_)
          refine z_goto (tgt := 2) S dX5_pegAt_40 (by decide) ?_
          exact ih2 _ (lv_sub hl [0, 1, 2, 3] rfl) (ff_no hJ2 (by show ¬ (t.2 2 (k2 : Int) 0 = x ∧ t.2 2 (k2 : Int) 1 = y); omega))
        · refine lv_iload_n S.1 S.2.1 dX5_pegAt_35 rfl (lv_at hl 0 rfl) ?_
          exact z_ret S hr hlk ((ff_hit hJ2 (by show t.2 2 (k2 : Int) 0 = x ∧ t.2 2 (k2 : Int) 1 = y; omega) _ (by omega)).symm) dX5_pegAt_36
  · have hl : lv_has ls 4 [(3, .int (zI (((t.1 4).toNat : Nat) : Int))), (0, .ref (b 0)), (1, .int (zI x)), (2, .int (zI y))] := hl
    have hJ2 : ff (atP t 2 x y) ((t.1 4).toNat) = -1 := hJ2
    refine lv_iload_n S.1 S.2.1 dX5_pegAt_2 rfl (lv_at hl 0 rfl) ?_
    refine lv_aload_n S.1 S.2.1 dX5_pegAt_3 rfl (lv_at hl 1 rfl) ?_
    refine z_get (v := .ref (b 3)) S inA5 hK hP 0 rfl rfl 4 (by decide) fl_X5_22 rfl dX5_pegAt_4 ?_
    refine y_alen S hK hP 3 rfl (v := t.1 4) (by show (((t.1 4).toNat : Nat) : Int) = _; omega) dX5_pegAt_7 ?_
    refine z_icmp_ge (tgt := 43) S dX5_pegAt_8 (by decide) (by omega) (fun h_6 => ?_) (fun h_6 => ?_)
    · refine z_iconst S dX5_pegAt_43 ?_
      exact z_ret S hr hlk (hJ2.symm) dX5_pegAt_44
    · exact absurd h_6 (by omega)
set_option maxHeartbeats 4000000 in
set_option maxRecDepth 100000 in
theorem m_X5_pitAt (l : Launch) (D : va_G) (g : ClassId × ClassId × ClassId) (b : Nat → Nat) (t : SS) (hT : IT t) (x : Int) (y : Int) (h0 : (0 ≤ x ∧ x ≤ 19) ∧ 0 ≤ y ∧ y ≤ 19) : RD l yX5_pitAt cX5_pitAt 4 (some .int) 0 0 D g (SW g b t) [.ref (b 0), .int (zI x), .int (zI y)] (sQA t x y) := by
  refine z_enter RX5 (by decide) rfl (Nat.le_of_ble_eq_true rfl) ?_
  intro p e s m args below meth co S hr hlk hK hP ls hl
  have hl : lv_has ls 4 [(0, .ref (b 0)), (1, .int (zI x)), (2, .int (zI y))] := hl
  have hs := hT.s
  refine z_iconst S dX5_pitAt_0 ?_
  refine lv_istore_n (lv' := [(3, .int (zI 0)), (0, .ref (b 0)), (1, .int (zI x)), (2, .int (zI y))]) S.1 S.2.1 dX5_pitAt_1 rfl hl (by decide) rfl (fun ls hl => ?_)
  refine z_for (nL := 4) ((t.1 5).toNat) (fun (k2 : Nat) => [(3, .int (zI (k2 : Int))), (0, .ref (b 0)), (1, .int (zI x)), (2, .int (zI y))]) (fun k2 => ff (atP t 3 x y) k2 = -1) (fun k2 hk2 hJ2 ls hl ih2 => ?_) (fun hJ2 ls hl => ?_) 0 (by omega) rfl ls (lv_sub hl [0, 1, 2, 3] rfl)
  · have hl : lv_has ls 4 [(3, .int (zI (k2 : Int))), (0, .ref (b 0)), (1, .int (zI x)), (2, .int (zI y))] := hl
    have hJ2 : ff (atP t 3 x y) k2 = -1 := hJ2
    refine lv_iload_n S.1 S.2.1 dX5_pitAt_2 rfl (lv_at hl 0 rfl) ?_
    refine lv_aload_n S.1 S.2.1 dX5_pitAt_3 rfl (lv_at hl 1 rfl) ?_
    refine z_get (v := .ref (b 4)) S inA5 hK hP 0 rfl rfl 5 (by decide) fl_X5_25 rfl dX5_pitAt_4 ?_
    refine y_alen S hK hP 4 rfl (v := t.1 5) (by show (((t.1 5).toNat : Nat) : Int) = _; omega) dX5_pitAt_7 ?_
    refine z_icmp_ge (tgt := 43) S dX5_pitAt_8 (by decide) (by omega) (fun h_1 => ?_) (fun h_1 => ?_)
    · exact absurd h_1 (by omega)
    · refine lv_aload_n S.1 S.2.1 dX5_pitAt_11 rfl (lv_at hl 1 rfl) ?_
      refine z_get (v := .ref (b 4)) S inA5 hK hP 0 rfl rfl 5 (by decide) fl_X5_25 rfl dX5_pitAt_12 ?_
      refine lv_iload_n S.1 S.2.1 dX5_pitAt_15 rfl (lv_at hl 0 rfl) ?_
      refine y_ald2 S hK hP 4 rfl (Nat.le_refl _) (by show (t.1 5).toNat < _; omega) (by show _ ∧ _ < (((t.1 5).toNat : Nat) : Int); omega) dX5_pitAt_16 ?_
      have hb_2 := hT.q (i := (k2 : Int)) (by omega)
      refine z_iconst S dX5_pitAt_17 ?_
      refine z_iald (F := t.2 3 (k2 : Int)) S hK hP (5 + (sn t 0 + (sn t 1 + (sn t 2 + ((k2 : Int)).toNat)))) (SW_r3 (t := t) (by omega)) (by decide) (by omega) dX5_pitAt_18 ?_
      refine lv_iload_n S.1 S.2.1 dX5_pitAt_19 rfl (lv_at hl 2 rfl) ?_
      refine z_icmp_ne (tgt := 37) S dX5_pitAt_20 (by decide) (by omega) (fun h_3 => ?_) (fun h_3 => ?_)
      · refine z_iinc (lv' := [(3, .int (zI ((k2 : Int) + 1))), (0, .ref (b 0)), (1, .int (zI x)), (2, .int (zI y))]) S dX5_pitAt_37 hl (k := 0) rfl (by decide) rfl (fun ls hl => ?_)
        refine z_goto (tgt := 2) S dX5_pitAt_40 (by decide) ?_
        exact ih2 _ (lv_sub hl [0, 1, 2, 3] rfl) (ff_no hJ2 (by show ¬ (t.2 3 (k2 : Int) 0 = x ∧ t.2 3 (k2 : Int) 1 = y); omega))
      · refine lv_aload_n S.1 S.2.1 dX5_pitAt_23 rfl (lv_at hl 1 rfl) ?_
        refine z_get (v := .ref (b 4)) S inA5 hK hP 0 rfl rfl 5 (by decide) fl_X5_25 rfl dX5_pitAt_24 ?_
        refine lv_iload_n S.1 S.2.1 dX5_pitAt_27 rfl (lv_at hl 0 rfl) ?_
        refine y_ald2 S hK hP 4 rfl (Nat.le_refl _) (by show (t.1 5).toNat < _; omega) (by show _ ∧ _ < (((t.1 5).toNat : Nat) : Int); omega) dX5_pitAt_28 ?_
        have hb_4 := hT.q (i := (k2 : Int)) (by omega)
        refine z_iconst S dX5_pitAt_29 ?_
        refine z_iald (F := t.2 3 (k2 : Int)) S hK hP (5 + (sn t 0 + (sn t 1 + (sn t 2 + ((k2 : Int)).toNat)))) (SW_r3 (t := t) (by omega)) (by decide) (by omega) dX5_pitAt_30 ?_
        refine lv_iload_n S.1 S.2.1 dX5_pitAt_31 rfl (lv_at hl 3 rfl) ?_
        refine z_icmp_ne (tgt := 37) S dX5_pitAt_32 (by decide) (by omega) (fun h_5 => ?_) (fun h_5 => ?_)
        · refine z_iinc (lv' := [(3, .int (zI ((k2 : Int) + 1))), (0, .ref (b 0)), (1, .int (zI x)), (2, .int (zI y))]) S dX5_pitAt_37 hl (k := 0) rfl (by decide) rfl (fun ls hl => ?_)
          refine z_goto (tgt := 2) S dX5_pitAt_40 (by decide) ?_
          exact ih2 _ (lv_sub hl [0, 1, 2, 3] rfl) (ff_no hJ2 (by show ¬ (t.2 3 (k2 : Int) 0 = x ∧ t.2 3 (k2 : Int) 1 = y); omega))
        · refine lv_iload_n S.1 S.2.1 dX5_pitAt_35 rfl (lv_at hl 0 rfl) ?_
          exact z_ret S hr hlk ((ff_hit hJ2 (by show t.2 3 (k2 : Int) 0 = x ∧ t.2 3 (k2 : Int) 1 = y; omega) _ (by omega)).symm) dX5_pitAt_36
  · have hl : lv_has ls 4 [(3, .int (zI (((t.1 5).toNat : Nat) : Int))), (0, .ref (b 0)), (1, .int (zI x)), (2, .int (zI y))] := hl
    have hJ2 : ff (atP t 3 x y) ((t.1 5).toNat) = -1 := hJ2
    refine lv_iload_n S.1 S.2.1 dX5_pitAt_2 rfl (lv_at hl 0 rfl) ?_
    refine lv_aload_n S.1 S.2.1 dX5_pitAt_3 rfl (lv_at hl 1 rfl) ?_
    refine z_get (v := .ref (b 4)) S inA5 hK hP 0 rfl rfl 5 (by decide) fl_X5_25 rfl dX5_pitAt_4 ?_
    refine y_alen S hK hP 4 rfl (v := t.1 5) (by show (((t.1 5).toNat : Nat) : Int) = _; omega) dX5_pitAt_7 ?_
    refine z_icmp_ge (tgt := 43) S dX5_pitAt_8 (by decide) (by omega) (fun h_6 => ?_) (fun h_6 => ?_)
    · refine z_iconst S dX5_pitAt_43 ?_
      exact z_ret S hr hlk (hJ2.symm) dX5_pitAt_44
    · exact absurd h_6 (by omega)
set_option maxHeartbeats 4000000 in
set_option maxRecDepth 100000 in
theorem m_X5_isOver (l : Launch) (D : va_G) (g : ClassId × ClassId × ClassId) (b : Nat → Nat) (t : SS) (hT : IT t) (q : Int) (h0 : 0 ≤ q ∧ q < t.1 5) : RD l yX5_isOver cX5_isOver 2 (some .boolean) 0 0 D g (SW g b t) [.ref (b 0), .int (zI q)] (b01 (sOv t q)) := by
  refine z_enter RX5 (by decide) rfl (Nat.le_of_ble_eq_true rfl) ?_
  intro p e s m args below meth co S hr hlk hK hP ls hl
  have hl : lv_has ls 2 [(0, .ref (b 0)), (1, .int (zI q))] := hl
  have hs := hT.s
  refine lv_aload_n S.1 S.2.1 dX5_isOver_0 rfl (lv_at hl 0 rfl) ?_
  refine z_get (v := .ref (b 4)) S inA5 hK hP 0 rfl rfl 5 (by decide) fl_X5_25 rfl dX5_isOver_1 ?_
  refine lv_iload_n S.1 S.2.1 dX5_isOver_4 rfl (lv_at hl 1 rfl) ?_
  refine y_ald2 S hK hP 4 rfl (Nat.le_refl _) (by show (t.1 5).toNat < _; omega) (by show _ ∧ _ < (((t.1 5).toNat : Nat) : Int); omega) dX5_isOver_5 ?_
  have hb_1 := hT.q (i := q) (by omega)
  refine z_iconst S dX5_isOver_6 ?_
  refine z_iald (F := t.2 3 q) S hK hP (5 + (sn t 0 + (sn t 1 + (sn t 2 + (q).toNat)))) (SW_r3 (t := t) (by omega)) (by decide) (by omega) dX5_isOver_7 ?_
  refine z_bipush S (by decide) dX5_isOver_8 ?_
  refine z_icmp_eq (tgt := 43) S dX5_isOver_10 (by decide) (by omega) (fun h_2 => ?_) (fun h_2 => ?_)
  · refine z_iconst S dX5_isOver_43 ?_
    refine z_goto (tgt := 48) S dX5_isOver_44 (by decide) ?_
    exact z_retb S hr hlk (Or.inr rfl) ((b01_t (by omega)).symm) dX5_isOver_48
  · refine lv_aload_n S.1 S.2.1 dX5_isOver_13 rfl (lv_at hl 0 rfl) ?_
    refine z_get (v := .ref (b 4)) S inA5 hK hP 0 rfl rfl 5 (by decide) fl_X5_25 rfl dX5_isOver_14 ?_
    refine lv_iload_n S.1 S.2.1 dX5_isOver_17 rfl (lv_at hl 1 rfl) ?_
    refine y_ald2 S hK hP 4 rfl (Nat.le_refl _) (by show (t.1 5).toNat < _; omega) (by show _ ∧ _ < (((t.1 5).toNat : Nat) : Int); omega) dX5_isOver_18 ?_
    have hb_3 := hT.q (i := q) (by omega)
    refine z_iconst S dX5_isOver_19 ?_
    refine z_iald (F := t.2 3 q) S hK hP (5 + (sn t 0 + (sn t 1 + (sn t 2 + (q).toNat)))) (SW_r3 (t := t) (by omega)) (by decide) (by omega) dX5_isOver_20 ?_
    refine z_if_le (tgt := 47) S dX5_isOver_21 (by decide) (by omega) (fun h_4 => ?_) (fun h_4 => ?_)
    · refine z_iconst S dX5_isOver_47 ?_
      exact z_retb S hr hlk (Or.inl rfl) ((b01_f (by omega)).symm) dX5_isOver_48
    · refine lv_aload_n S.1 S.2.1 dX5_isOver_24 rfl (lv_at hl 0 rfl) ?_
      refine z_get (v := .ref (b 4)) S inA5 hK hP 0 rfl rfl 5 (by decide) fl_X5_25 rfl dX5_isOver_25 ?_
      refine lv_iload_n S.1 S.2.1 dX5_isOver_28 rfl (lv_at hl 1 rfl) ?_
      refine y_ald2 S hK hP 4 rfl (Nat.le_refl _) (by show (t.1 5).toNat < _; omega) (by show _ ∧ _ < (((t.1 5).toNat : Nat) : Int); omega) dX5_isOver_29 ?_
      have hb_5 := hT.q (i := q) (by omega)
      refine z_iconst S dX5_isOver_30 ?_
      refine z_iald (F := t.2 3 q) S hK hP (5 + (sn t 0 + (sn t 1 + (sn t 2 + (q).toNat)))) (SW_r3 (t := t) (by omega)) (by decide) (by omega) dX5_isOver_31 ?_
      refine lv_aload_n S.1 S.2.1 dX5_isOver_32 rfl (lv_at hl 0 rfl) ?_
      refine z_get (v := .ref (b 4)) S inA5 hK hP 0 rfl rfl 5 (by decide) fl_X5_25 rfl dX5_isOver_33 ?_
      refine lv_iload_n S.1 S.2.1 dX5_isOver_36 rfl (lv_at hl 1 rfl) ?_
      refine y_ald2 S hK hP 4 rfl (Nat.le_refl _) (by show (t.1 5).toNat < _; omega) (by show _ ∧ _ < (((t.1 5).toNat : Nat) : Int); omega) dX5_isOver_37 ?_
      have hb_6 := hT.q (i := q) (by omega)
      refine z_iconst S dX5_isOver_38 ?_
      refine z_iald (F := t.2 3 q) S hK hP (5 + (sn t 0 + (sn t 1 + (sn t 2 + (q).toNat)))) (SW_r3 (t := t) (by omega)) (by decide) (by omega) dX5_isOver_39 ?_
      refine z_icmp_ne (tgt := 47) S dX5_isOver_40 (by decide) (by omega) (fun h_7 => ?_) (fun h_7 => ?_)
      · refine z_iconst S dX5_isOver_47 ?_
        exact z_retb S hr hlk (Or.inl rfl) ((b01_f (by omega)).symm) dX5_isOver_48
      · refine z_iconst S dX5_isOver_43 ?_
        refine z_goto (tgt := 48) S dX5_isOver_44 (by decide) ?_
        exact z_retb S hr hlk (Or.inr rfl) ((b01_t (by omega)).symm) dX5_isOver_48
set_option maxHeartbeats 4000000 in
set_option maxRecDepth 100000 in
theorem m_X5_bets (l : Launch) (D : va_G) (g : ClassId × ClassId × ClassId) (r : Nat) (F : Int → Int) (hF : QB F) (f : Int) (h0 : 0 ≤ f ∧ f ≤ 1) : RD l yX5_bets cX5_bets 4 (some .int) 1 21 D g [(r, .inl (g.1, 9, .inl (zA F)))] [.ref r, .int (zI f)] (sBt F f) := by
  refine z_enter RX5 (by decide) rfl (Nat.le_of_ble_eq_true rfl) ?_
  intro p e s m args below meth co S hr hlk hK hP ls hl
  have hl : lv_has ls 4 [(0, .ref r), (1, .int (zI f))] := hl
  refine z_iconst S dX5_bets_0 ?_
  refine lv_istore_n (lv' := [(2, .int (zI 0)), (0, .ref r), (1, .int (zI f))]) S.1 S.2.1 dX5_bets_1 rfl hl (by decide) rfl (fun ls hl => ?_)
  refine z_iconst S dX5_bets_2 ?_
  refine lv_istore_n (lv' := [(3, .int (zI 4)), (2, .int (zI 0)), (0, .ref r), (1, .int (zI f))]) S.1 S.2.1 dX5_bets_3 rfl hl (by decide) rfl (fun ls hl => ?_)
  have e_1 : 4 + ((0 : Nat) : Int) = 4 := by rfl
  refine z_for (nL := 4) (5) (fun (k4 : Nat) => [(3, .int (zI (4 + (k4 : Int)))), (2, .int (zI (sm (sBe F f) k4))), (0, .ref r), (1, .int (zI f))]) (fun k4 => True) (fun k4 hk4 hJ4 ls hl ih4 => ?_) (fun hJ4 ls hl => ?_) 0 (by omega) trivial ls (lv_sub hl [0, 1, 2, 3] (by show _ = ([(3, .int (zI (4 + ((0 : Nat) : Int)))), (2, .int (zI (sm (sBe F f) 0))), (0, .ref r), (1, .int (zI f))] : List (Nat × Value)); rw [e_1]; first | done | rfl))
  · have hl : lv_has ls 4 [(3, .int (zI (4 + (k4 : Int)))), (2, .int (zI (sm (sBe F f) k4))), (0, .ref r), (1, .int (zI f))] := hl
    have hb0 := hF.b (d := 4 + (k4 : Int)) (by omega)
    refine lv_iload_n S.1 S.2.1 dX5_bets_4 rfl (lv_at hl 0 rfl) ?_
    refine z_bipush S (by decide) dX5_bets_5 ?_
    refine z_icmp_ge (tgt := 44) S dX5_bets_7 (by decide) (by omega) (fun h_2 => ?_) (fun h_2 => ?_)
    · exact absurd h_2 (by omega)
    · refine lv_iload_n S.1 S.2.1 dX5_bets_10 rfl (lv_at hl 1 rfl) ?_
      refine lv_aload_n S.1 S.2.1 dX5_bets_11 rfl (lv_at hl 2 rfl) ?_
      refine lv_iload_n S.1 S.2.1 dX5_bets_12 rfl (lv_at hl 0 rfl) ?_
      refine z_iald S hK hP 0 rfl (by decide) (by omega) dX5_bets_13 ?_
      refine z_if_le (tgt := 21) S dX5_bets_14 (by decide) (by omega) (fun h_3 => ?_) (fun h_3 => ?_)
      · refine z_iconst S dX5_bets_21 ?_
        refine lv_iload_n S.1 S.2.1 dX5_bets_22 rfl (lv_at hl 3 rfl) ?_
        refine z_icmp_ne (tgt := 35) S dX5_bets_23 (by decide) (by omega) (fun h_4 => ?_) (fun h_4 => ?_)
        · refine z_iconst S dX5_bets_35 ?_
          refine z_iadd S dX5_bets_36 ?_
          refine lv_istore_n (lv' := [(2, .int (zI ((sm (sBe F f) k4) + 0))), (3, .int (zI (4 + (k4 : Int)))), (0, .ref r), (1, .int (zI f))]) S.1 S.2.1 dX5_bets_37 rfl hl (by decide) rfl (fun ls hl => ?_)
          refine z_iinc (lv' := [(3, .int (zI ((4 + (k4 : Int)) + 1))), (2, .int (zI ((sm (sBe F f) k4) + 0))), (0, .ref r), (1, .int (zI f))]) S dX5_bets_38 hl (k := 1) rfl (by decide) rfl (fun ls hl => ?_)
          refine z_goto (tgt := 4) S dX5_bets_41 (by decide) ?_
          have e_5 : 4 + ((k4 + 1 : Nat) : Int) = (4 + (k4 : Int)) + 1 := by omega
          have e_6 : sm (sBe F f) (k4 + 1) = (sm (sBe F f) k4) + 0 := by grind [sm, sBe, b01]
          exact ih4 _ (lv_sub hl [0, 1, 2, 3] (by show _ = ([(3, .int (zI (4 + ((k4 + 1 : Nat) : Int)))), (2, .int (zI (sm (sBe F f) (k4 + 1)))), (0, .ref r), (1, .int (zI f))] : List (Nat × Value)); rw [e_5, e_6]; first | done | rfl)) trivial
        · refine lv_aload_n S.1 S.2.1 dX5_bets_26 rfl (lv_at hl 2 rfl) ?_
          refine lv_iload_n S.1 S.2.1 dX5_bets_27 rfl (lv_at hl 0 rfl) ?_
          refine z_iald S hK hP 0 rfl (by decide) (by omega) dX5_bets_28 ?_
          refine z_abs S ml_X5_28 hl.1 (Nat.le_of_ble_eq_true rfl) (Nat.le_of_ble_eq_true rfl) ⟨Nat.zero_le _, Nat.zero_le _⟩ (by omega) dX5_bets_29 ?_
          refine z_goto (tgt := 36) S dX5_bets_32 (by decide) ?_
          refine z_iadd S dX5_bets_36 ?_
          refine lv_istore_n (lv' := [(2, .int (zI ((sm (sBe F f) k4) + (ab (F (4 + (k4 : Int))))))), (3, .int (zI (4 + (k4 : Int)))), (0, .ref r), (1, .int (zI f))]) S.1 S.2.1 dX5_bets_37 rfl hl (by decide) rfl (fun ls hl => ?_)
          refine z_iinc (lv' := [(3, .int (zI ((4 + (k4 : Int)) + 1))), (2, .int (zI ((sm (sBe F f) k4) + (ab (F (4 + (k4 : Int))))))), (0, .ref r), (1, .int (zI f))]) S dX5_bets_38 hl (k := 1) rfl (by decide) rfl (fun ls hl => ?_)
          refine z_goto (tgt := 4) S dX5_bets_41 (by decide) ?_
          have e_7 : 4 + ((k4 + 1 : Nat) : Int) = (4 + (k4 : Int)) + 1 := by omega
          have e_8 : sm (sBe F f) (k4 + 1) = (sm (sBe F f) k4) + (ab (F (4 + (k4 : Int)))) := by grind [sm, sBe, b01]
          exact ih4 _ (lv_sub hl [0, 1, 2, 3] (by show _ = ([(3, .int (zI (4 + ((k4 + 1 : Nat) : Int)))), (2, .int (zI (sm (sBe F f) (k4 + 1)))), (0, .ref r), (1, .int (zI f))] : List (Nat × Value)); rw [e_7, e_8]; first | done | rfl)) trivial
      · refine z_iconst S dX5_bets_17 ?_
        refine z_goto (tgt := 22) S dX5_bets_18 (by decide) ?_
        refine lv_iload_n S.1 S.2.1 dX5_bets_22 rfl (lv_at hl 3 rfl) ?_
        refine z_icmp_ne (tgt := 35) S dX5_bets_23 (by decide) (by omega) (fun h_9 => ?_) (fun h_9 => ?_)
        · refine z_iconst S dX5_bets_35 ?_
          refine z_iadd S dX5_bets_36 ?_
          refine lv_istore_n (lv' := [(2, .int (zI ((sm (sBe F f) k4) + 0))), (3, .int (zI (4 + (k4 : Int)))), (0, .ref r), (1, .int (zI f))]) S.1 S.2.1 dX5_bets_37 rfl hl (by decide) rfl (fun ls hl => ?_)
          refine z_iinc (lv' := [(3, .int (zI ((4 + (k4 : Int)) + 1))), (2, .int (zI ((sm (sBe F f) k4) + 0))), (0, .ref r), (1, .int (zI f))]) S dX5_bets_38 hl (k := 1) rfl (by decide) rfl (fun ls hl => ?_)
          refine z_goto (tgt := 4) S dX5_bets_41 (by decide) ?_
          have e_10 : 4 + ((k4 + 1 : Nat) : Int) = (4 + (k4 : Int)) + 1 := by omega
          have e_11 : sm (sBe F f) (k4 + 1) = (sm (sBe F f) k4) + 0 := by grind [sm, sBe, b01]
          exact ih4 _ (lv_sub hl [0, 1, 2, 3] (by show _ = ([(3, .int (zI (4 + ((k4 + 1 : Nat) : Int)))), (2, .int (zI (sm (sBe F f) (k4 + 1)))), (0, .ref r), (1, .int (zI f))] : List (Nat × Value)); rw [e_10, e_11]; first | done | rfl)) trivial
        · refine lv_aload_n S.1 S.2.1 dX5_bets_26 rfl (lv_at hl 2 rfl) ?_
          refine lv_iload_n S.1 S.2.1 dX5_bets_27 rfl (lv_at hl 0 rfl) ?_
          refine z_iald S hK hP 0 rfl (by decide) (by omega) dX5_bets_28 ?_
          refine z_abs S ml_X5_28 hl.1 (Nat.le_of_ble_eq_true rfl) (Nat.le_of_ble_eq_true rfl) ⟨Nat.zero_le _, Nat.zero_le _⟩ (by omega) dX5_bets_29 ?_
          refine z_goto (tgt := 36) S dX5_bets_32 (by decide) ?_
          refine z_iadd S dX5_bets_36 ?_
          refine lv_istore_n (lv' := [(2, .int (zI ((sm (sBe F f) k4) + (ab (F (4 + (k4 : Int))))))), (3, .int (zI (4 + (k4 : Int)))), (0, .ref r), (1, .int (zI f))]) S.1 S.2.1 dX5_bets_37 rfl hl (by decide) rfl (fun ls hl => ?_)
          refine z_iinc (lv' := [(3, .int (zI ((4 + (k4 : Int)) + 1))), (2, .int (zI ((sm (sBe F f) k4) + (ab (F (4 + (k4 : Int))))))), (0, .ref r), (1, .int (zI f))]) S dX5_bets_38 hl (k := 1) rfl (by decide) rfl (fun ls hl => ?_)
          refine z_goto (tgt := 4) S dX5_bets_41 (by decide) ?_
          have e_12 : 4 + ((k4 + 1 : Nat) : Int) = (4 + (k4 : Int)) + 1 := by omega
          have e_13 : sm (sBe F f) (k4 + 1) = (sm (sBe F f) k4) + (ab (F (4 + (k4 : Int)))) := by grind [sm, sBe, b01]
          exact ih4 _ (lv_sub hl [0, 1, 2, 3] (by show _ = ([(3, .int (zI (4 + ((k4 + 1 : Nat) : Int)))), (2, .int (zI (sm (sBe F f) (k4 + 1)))), (0, .ref r), (1, .int (zI f))] : List (Nat × Value)); rw [e_12, e_13]; first | done | rfl)) trivial
  · have hl : lv_has ls 4 [(3, .int (zI (4 + ((5 : Nat) : Int)))), (2, .int (zI (sm (sBe F f) 5))), (0, .ref r), (1, .int (zI f))] := hl
    refine lv_iload_n S.1 S.2.1 dX5_bets_4 rfl (lv_at hl 0 rfl) ?_
    refine z_bipush S (by decide) dX5_bets_5 ?_
    refine z_icmp_ge (tgt := 44) S dX5_bets_7 (by decide) (by omega) (fun h_14 => ?_) (fun h_14 => ?_)
    · refine lv_iload_n S.1 S.2.1 dX5_bets_44 rfl (lv_at hl 1 rfl) ?_
      exact z_ret S hr hlk (by first | rfl | grind) dX5_bets_45
    · exact absurd h_14 (by omega)
set_option maxHeartbeats 4000000 in
set_option maxRecDepth 100000 in
theorem m_X5_gets (l : Launch) (D : va_G) (g : ClassId × ClassId × ClassId) (r : Nat) (F : Int → Int) (hF : QB F) (d : Int) (f : Int) (h0 : 0 ≤ d ∧ d < 5) (h1 : 0 ≤ f ∧ f ≤ 1) : RD l yX5_gets cX5_gets 4 (some .int) 2 44 D g [(r, .inl (g.1, 9, .inl (zA F)))] [.ref r, .int (zI d), .int (zI f)] (sGt F d f) := by
  refine z_enter RX5 (by decide) rfl (Nat.le_of_ble_eq_true rfl) ?_
  intro p e s m args below meth co S hr hlk hK hP ls hl
  have hl : lv_has ls 4 [(0, .ref r), (1, .int (zI d)), (2, .int (zI f))] := hl
  have hb0 := hF.b (d := 4 + d) (by omega)
  have hb1 := sGm_b hF h0
  have hb2 := sBt_b hF f
  have hb3 := sBt_ge hF f h0
  have hb4 : (F (4 + d) = 0 ∨ ¬ b01 (0 < F (4 + d)) = f) ∨ sBe F f d = ab (F (4 + d)) := by (by_cases z : b01 (0 < F (4 + d)) = f); exact Or.inr (if_pos z); exact Or.inl (Or.inr z)
  have hb6 : (0 < F (4 + d) ∧ b01 (0 < F (4 + d)) = 1) ∨ (¬ 0 < F (4 + d) ∧ b01 (0 < F (4 + d)) = 0) := by (by_cases z : 0 < F (4 + d)); exact Or.inl ⟨z, b01_t z⟩; exact Or.inr ⟨z, b01_f z⟩
  have hb5 : F (4 + d) = 0 ∨ 0 < ab (F (4 + d)) := by (have := ab_cs (F (4 + d))); omega
  refine lv_aload_n S.1 S.2.1 dX5_gets_0 rfl (lv_at hl 0 rfl) ?_
  refine z_iconst S dX5_gets_1 ?_
  refine lv_iload_n S.1 S.2.1 dX5_gets_2 rfl (lv_at hl 1 rfl) ?_
  refine z_iadd S dX5_gets_3 ?_
  refine z_iald S hK hP 0 rfl (by decide) (by omega) dX5_gets_4 ?_
  refine lv_istore_n (lv' := [(3, .int (zI (F (4 + d)))), (0, .ref r), (1, .int (zI d)), (2, .int (zI f))]) S.1 S.2.1 dX5_gets_5 rfl hl (by decide) rfl (fun ls hl => ?_)
  refine lv_iload_n S.1 S.2.1 dX5_gets_6 rfl (lv_at hl 0 rfl) ?_
  refine z_if_eq (tgt := 23) S dX5_gets_7 (by decide) (by omega) (fun h_1 => ?_) (fun h_1 => ?_)
  · refine z_iconst S dX5_gets_23 ?_
    exact z_ret S hr hlk (by grind [sGt, b01]) dX5_gets_24
  · refine lv_iload_n S.1 S.2.1 dX5_gets_10 rfl (lv_at hl 0 rfl) ?_
    refine z_if_le (tgt := 18) S dX5_gets_11 (by decide) (by omega) (fun h_2 => ?_) (fun h_2 => ?_)
    · refine z_iconst S dX5_gets_18 ?_
      refine lv_iload_n S.1 S.2.1 dX5_gets_19 rfl (lv_at hl 3 rfl) ?_
      refine z_icmp_eq (tgt := 25) S dX5_gets_20 (by decide) (by omega) (fun h_3 => ?_) (fun h_3 => ?_)
      · refine lv_iload_n S.1 S.2.1 dX5_gets_25 rfl (lv_at hl 0 rfl) ?_
        refine z_abs S ml_X5_28 hl.1 (Nat.le_of_ble_eq_true rfl) (Nat.le_of_ble_eq_true rfl) ⟨Nat.zero_le _, Nat.zero_le _⟩ (by omega) dX5_gets_26 ?_
        refine lv_aload_n S.1 S.2.1 dX5_gets_29 rfl (lv_at hl 1 rfl) ?_
        refine z_iconst S dX5_gets_30 ?_
        refine z_rS (As := [.ref r, .int (zI 1)]) (rest := [.int (zI (ab (F (4 + d))))]) S (m_X5_bets l D g r F hF 1 (by omega)) ml_X5_64 sm_X5_bets ini_X5 cd_X5_bets ds_X5_bets ⟨Nat.le_of_ble_eq_true rfl, Nat.le_of_ble_eq_true rfl⟩ hK hP rfl hl.1 rfl (Nat.le_of_ble_eq_true rfl) ⟨Nat.zero_le _, Nat.zero_le _⟩ dX5_gets_31 ?_
        refine lv_aload_n S.1 S.2.1 dX5_gets_34 rfl (lv_at hl 1 rfl) ?_
        refine z_iconst S dX5_gets_35 ?_
        refine z_rS (As := [.ref r, .int (zI 0)]) (rest := [.int (zI (sBt F 1)), .int (zI (ab (F (4 + d))))]) S (m_X5_bets l D g r F hF 0 (by omega)) ml_X5_64 sm_X5_bets ini_X5 cd_X5_bets ds_X5_bets ⟨Nat.le_of_ble_eq_true rfl, Nat.le_of_ble_eq_true rfl⟩ hK hP rfl hl.1 rfl (Nat.le_of_ble_eq_true rfl) ⟨Nat.zero_le _, Nat.zero_le _⟩ dX5_gets_36 ?_
        refine z_iadd S dX5_gets_39 ?_
        refine z_imul S dX5_gets_40 ?_
        refine lv_aload_n S.1 S.2.1 dX5_gets_41 rfl (lv_at hl 1 rfl) ?_
        refine lv_iload_n S.1 S.2.1 dX5_gets_42 rfl (lv_at hl 3 rfl) ?_
        refine z_rS (As := [.ref r, .int (zI f)]) (rest := [.int (zI ((ab (F (4 + d))) * ((sBt F 1) + (sBt F 0))))]) S (m_X5_bets l D g r F hF f (by omega)) ml_X5_64 sm_X5_bets ini_X5 cd_X5_bets ds_X5_bets ⟨Nat.le_of_ble_eq_true rfl, Nat.le_of_ble_eq_true rfl⟩ hK hP rfl hl.1 rfl (Nat.le_of_ble_eq_true rfl) ⟨Nat.zero_le _, Nat.zero_le _⟩ dX5_gets_43 ?_
        refine z_idivn S (by omega) dX5_gets_46 ?_
        exact z_ret S hr hlk (by grind [sGt, b01]) dX5_gets_47
      · refine z_iconst S dX5_gets_23 ?_
        exact z_ret S hr hlk (by grind [sGt, b01]) dX5_gets_24
    · refine z_iconst S dX5_gets_14 ?_
      refine z_goto (tgt := 19) S dX5_gets_15 (by decide) ?_
      refine lv_iload_n S.1 S.2.1 dX5_gets_19 rfl (lv_at hl 3 rfl) ?_
      refine z_icmp_eq (tgt := 25) S dX5_gets_20 (by decide) (by omega) (fun h_4 => ?_) (fun h_4 => ?_)
      · refine lv_iload_n S.1 S.2.1 dX5_gets_25 rfl (lv_at hl 0 rfl) ?_
        refine z_abs S ml_X5_28 hl.1 (Nat.le_of_ble_eq_true rfl) (Nat.le_of_ble_eq_true rfl) ⟨Nat.zero_le _, Nat.zero_le _⟩ (by omega) dX5_gets_26 ?_
        refine lv_aload_n S.1 S.2.1 dX5_gets_29 rfl (lv_at hl 1 rfl) ?_
        refine z_iconst S dX5_gets_30 ?_
        refine z_rS (As := [.ref r, .int (zI 1)]) (rest := [.int (zI (ab (F (4 + d))))]) S (m_X5_bets l D g r F hF 1 (by omega)) ml_X5_64 sm_X5_bets ini_X5 cd_X5_bets ds_X5_bets ⟨Nat.le_of_ble_eq_true rfl, Nat.le_of_ble_eq_true rfl⟩ hK hP rfl hl.1 rfl (Nat.le_of_ble_eq_true rfl) ⟨Nat.zero_le _, Nat.zero_le _⟩ dX5_gets_31 ?_
        refine lv_aload_n S.1 S.2.1 dX5_gets_34 rfl (lv_at hl 1 rfl) ?_
        refine z_iconst S dX5_gets_35 ?_
        refine z_rS (As := [.ref r, .int (zI 0)]) (rest := [.int (zI (sBt F 1)), .int (zI (ab (F (4 + d))))]) S (m_X5_bets l D g r F hF 0 (by omega)) ml_X5_64 sm_X5_bets ini_X5 cd_X5_bets ds_X5_bets ⟨Nat.le_of_ble_eq_true rfl, Nat.le_of_ble_eq_true rfl⟩ hK hP rfl hl.1 rfl (Nat.le_of_ble_eq_true rfl) ⟨Nat.zero_le _, Nat.zero_le _⟩ dX5_gets_36 ?_
        refine z_iadd S dX5_gets_39 ?_
        refine z_imul S dX5_gets_40 ?_
        refine lv_aload_n S.1 S.2.1 dX5_gets_41 rfl (lv_at hl 1 rfl) ?_
        refine lv_iload_n S.1 S.2.1 dX5_gets_42 rfl (lv_at hl 3 rfl) ?_
        refine z_rS (As := [.ref r, .int (zI f)]) (rest := [.int (zI ((ab (F (4 + d))) * ((sBt F 1) + (sBt F 0))))]) S (m_X5_bets l D g r F hF f (by omega)) ml_X5_64 sm_X5_bets ini_X5 cd_X5_bets ds_X5_bets ⟨Nat.le_of_ble_eq_true rfl, Nat.le_of_ble_eq_true rfl⟩ hK hP rfl hl.1 rfl (Nat.le_of_ble_eq_true rfl) ⟨Nat.zero_le _, Nat.zero_le _⟩ dX5_gets_43 ?_
        refine z_idivn S (by omega) dX5_gets_46 ?_
        exact z_ret S hr hlk (by grind [sGt, b01]) dX5_gets_47
      · refine z_iconst S dX5_gets_23 ?_
        exact z_ret S hr hlk (by grind [sGt, b01]) dX5_gets_24
