/-! ONE ACT OF THE LAW -/
theorem kPull_2 {c : CS} {x y : Int} (hf : inF x y) : kPull c x y = if c.2 8 (y * 20 + x) ≠ -1 then 0 else 2 := by
  unfold kPull
  rw [if_neg (fun z => z hf)]
  by_cases h : c.2 8 (y * 20 + x) ≠ -1
  · rw [if_neg (fun z => z h), if_pos h]
  · rw [if_pos h, if_neg h]
theorem kPit_2 {c : CS} {x y : Int} (hf : inF x y) : kPit c x y = if c.1 5 < 10 ∧ c.2 10 (y * 20 + x) < 0 then 0 else 2 := by
  unfold kPit
  rw [if_neg (fun z => z hf)]
  by_cases h : c.1 5 < 10 ∧ c.2 10 (y * 20 + x) < 0
  · rw [if_neg (fun z => z h), if_pos h]
  · rw [if_pos h, if_neg h]
theorem kDig_3 {c : CS} {q by9 : Int} (hq : isP c q) (hb : 1 ≤ by9 ∧ by9 ≤ 20) : kDig c q by9 = if over c q then 3 else 0 := by
  unfold kDig
  rw [if_neg (fun z => z hq), if_neg (fun z => z hb)]
theorem sDig_3 (t : SS) (q by9 : Int) : (sDig t q by9).1 3 = t.1 3 := by
  unfold sDig
  split
  · exact (sPay_3 (sDk t q by9.toNat) q _ _).2.2.2 3 (by decide)
  · rfl
set_option maxHeartbeats 4000000 in
set_option maxRecDepth 100000 in
theorem m_L_act (l : Launch) (D : va_G) (g : ClassId × ClassId × ClassId) (a b : Nat → Nat) {B : Int} (c : CS) (t : SS) (hst : l.stackTraces = false) (hda : CD 21 a) (hI : IC B c) (hB8 : B ≤ 800000000) (hT : IT t) (hR : RS c t) (h3 : 1 ≤ t.1 3) (x : Int32) : ∀ (sz : Nat) (A : Nat → Prop), A = va_A (CW g a c ++ SW g b t) sz → SB A b t → va_D A (CW g a c ++ SW g b t) → vx_Met l yL_act (.codeWith yL_act cL_act 16 (some .boolean) [(299, 339, 342, 38), (567, 576, 579, 38), (773, 782, 785, 38), (962, 996, 997, 38), (1069, 1079, 1082, 38)] :: AW) { frames := 7, cells := 80, slots := 2600, locals := 160 } (va_Pc [.ref (a 0), .ref (b 0), .int x] (AP D g A (CW g a c ++ SW g b t) sz)) (AQc D g a A (B + 100000) (t.1 3) ((b 0 : Nat) : Int)) (vx_X (fun (_ : Unit) => False) (fun _ _ _ => False) (fun _ => False)) 80 2600 A := by
  intro sz A hAe hBs hDs
  refine a_enter RL (by decide) rfl (Nat.le_of_ble_eq_true rfl) ?_
  intro p e s m args below meth co S hr hlk hz hX hZ htab hP ls hl
  have hK := hX.1
  have hA : ∀ q, s.heap.size ≤ q → A q := by rw [hAe]; intro q h; exact Or.inr (by omega)
  have hAc : ∀ q, CA 21 a q → A q := fun q h => by rw [hAe]; obtain ⟨x9, hx9, e9⟩ := CW_adr (g := g) c h; obtain ⟨k9, hk9⟩ := List.getElem?_of_mem (List.mem_append_left (SW g b t) hx9); exact Or.inl ⟨k9, x9.2, by rw [← e9]; exact hk9⟩
  have hS : va_S A s.heap s.heap [] := va_S.rf
  have hD := hDs
  have hB := hBs
  have hs := hT.s
  have hc := hI.s
  have hn := hR.n
  have hl : lv_has ls 16 [(0, .ref (a 0)), (1, .ref (b 0)), (2, .int x)] := hl
  have hbv := blw_b x 12 (by omega)
  refine lv_iload_n S.1 S.2.1 dL_act_0 rfl (lv_at hl 2 rfl) ?_
  refine z_iconst S dL_act_1 ?_
  refine lv_ishr S.1 S.2.1 dL_act_2 ?_
  refine z_bipush S (by decide) dL_act_3 ?_
  refine z_rS (As := [.int (x >>> (zI 4 &&& 31)), .int (zI 20)]) (rest := []) S (m_L_below l D g (x >>> (zI 4 &&& 31)) 20 (by omega)) ml_L_9 sm_L_below ini_L cd_L_below ds_L_below ⟨Nat.le_of_ble_eq_true rfl, Nat.le_of_ble_eq_true rfl⟩ hK va_P_nil rfl hl.1 rfl (Nat.le_of_ble_eq_true rfl) ⟨Nat.le_of_ble_eq_true rfl, Nat.le_of_ble_eq_true rfl⟩ dL_act_5 ?_
  have hb_1 := blw_b (x >>> (zI 4 &&& 31)) 20 (by omega)
  refine lv_istore_n (lv' := [(3, .int (zI (blw (x >>> (zI 4 &&& 31)) 20))), (0, .ref (a 0)), (1, .ref (b 0)), (2, .int x)]) S.1 S.2.1 dL_act_8 rfl hl (by decide) rfl (fun ls hl => ?_)
  refine lv_iload_n S.1 S.2.1 dL_act_9 rfl (lv_at hl 3 rfl) ?_
  refine z_bipush S (by decide) dL_act_10 ?_
  refine lv_ishr S.1 S.2.1 dL_act_12 ?_
  refine z_bipush S (by decide) dL_act_13 ?_
  refine z_rS (As := [.int (x >>> (zI 6 &&& 31)), .int (zI 20)]) (rest := []) S (m_L_below l D g (x >>> (zI 6 &&& 31)) 20 (by omega)) ml_L_9 sm_L_below ini_L cd_L_below ds_L_below ⟨Nat.le_of_ble_eq_true rfl, Nat.le_of_ble_eq_true rfl⟩ hK va_P_nil rfl hl.1 rfl (Nat.le_of_ble_eq_true rfl) ⟨Nat.le_of_ble_eq_true rfl, Nat.le_of_ble_eq_true rfl⟩ dL_act_15 ?_
  have hb_2 := blw_b (x >>> (zI 6 &&& 31)) 20 (by omega)
  refine lv_istore (lv' := [(4, .int (zI (blw (x >>> (zI 6 &&& 31)) 20))), (3, .int (zI (blw (x >>> (zI 4 &&& 31)) 20))), (0, .ref (a 0)), (1, .ref (b 0)), (2, .int x)]) S.1 S.2.1 dL_act_18 hl (by decide) rfl (fun ls hl => ?_)
  refine lv_iload_n S.1 S.2.1 dL_act_20 rfl (lv_at hl 4 rfl) ?_
  refine z_iconst S dL_act_21 ?_
  refine lv_ishr S.1 S.2.1 dL_act_22 ?_
  refine lv_aload_n S.1 S.2.1 dL_act_23 rfl (lv_at hl 3 rfl) ?_
  refine z_get (v := .ref (b 2)) S inA5 hK hP 21 rfl rfl 3 (by decide) fl_L_15 rfl dL_act_24 ?_
  refine y_alen S hK hP 23 rfl (v := t.1 3) (by show (((t.1 3).toNat : Nat) : Int) = _; omega) dL_act_27 ?_
  refine z_rS (As := [.int (x >>> (zI 5 &&& 31)), .int (zI (t.1 3))]) (rest := []) S (m_L_below l D g (x >>> (zI 5 &&& 31)) (t.1 3) (by omega)) ml_L_9 sm_L_below ini_L cd_L_below ds_L_below ⟨Nat.le_of_ble_eq_true rfl, Nat.le_of_ble_eq_true rfl⟩ hK va_P_nil rfl hl.1 rfl (Nat.le_of_ble_eq_true rfl) ⟨Nat.le_of_ble_eq_true rfl, Nat.le_of_ble_eq_true rfl⟩ dL_act_28 ?_
  have hb_3 := blw_b (x >>> (zI 5 &&& 31)) (t.1 3) (by omega)
  refine lv_istore (lv' := [(5, .int (zI (blw (x >>> (zI 5 &&& 31)) (t.1 3)))), (4, .int (zI (blw (x >>> (zI 6 &&& 31)) 20))), (3, .int (zI (blw (x >>> (zI 4 &&& 31)) 20))), (0, .ref (a 0)), (1, .ref (b 0)), (2, .int x)]) S.1 S.2.1 dL_act_31 hl (by decide) rfl (fun ls hl => ?_)
  refine y_join0 (nL := 16) 416 (lv := [(5, .int (zI (blw (x >>> (zI 5 &&& 31)) (t.1 3)))), (4, .int (zI (blw (x >>> (zI 6 &&& 31)) 20))), (3, .int (zI (blw (x >>> (zI 4 &&& 31)) 20))), (0, .ref (a 0)), (1, .ref (b 0)), (2, .int x)]) (fun J416 => ?_) (fun ls hl => ?_)
  · refine lv_iload_n S.1 S.2.1 dL_act_33 rfl (lv_at hl 5 rfl) ?_
    refine y_join0 (nL := 16) 803 (lv := [(5, .int (zI (blw (x >>> (zI 5 &&& 31)) (t.1 3)))), (4, .int (zI (blw (x >>> (zI 6 &&& 31)) 20))), (3, .int (zI (blw (x >>> (zI 4 &&& 31)) 20))), (0, .ref (a 0)), (1, .ref (b 0)), (2, .int x)]) (fun J803 => ?_) (fun ls hl => ?_)
    · refine z_bipush S (by decide) dL_act_34 ?_
      refine z_rS (As := [.int x, .int (zI 12)]) (rest := []) S (m_L_below l D g x 12 (by omega)) ml_L_9 sm_L_below ini_L cd_L_below ds_L_below ⟨Nat.le_of_ble_eq_true rfl, Nat.le_of_ble_eq_true rfl⟩ hK va_P_nil rfl hl.1 rfl (Nat.le_of_ble_eq_true rfl) ⟨Nat.le_of_ble_eq_true rfl, Nat.le_of_ble_eq_true rfl⟩ dL_act_36 ?_
      have hb_4 := blw_b x 12 (by omega)
      rcases (show (blw x 12) = 0 ∨ (blw x 12) = 1 ∨ (blw x 12) = 2 ∨ (blw x 12) = 3 ∨ (blw x 12) = 4 ∨ (blw x 12) = 5 ∨ (blw x 12) = 6 ∨ (blw x 12) = 7 ∨ (blw x 12) = 8 ∨ (blw x 12) = 9 ∨ ((blw x 12) < 0 ∨ 9 < (blw x 12)) by omega) with h_5 | h_5 | h_5 | h_5 | h_5 | h_5 | h_5 | h_5 | h_5 | h_5 | h_5
      · refine z_tabIn (off := 53) (tgt := 92) S 0 h_5 (by decide) dL_act_39 (by decide) (by decide) rfl (by decide) ?_
        refine lv_iload_n S.1 S.2.1 dL_act_92 rfl (lv_at hl 5 rfl) ?_
        refine z_bipush S (by decide) dL_act_93 ?_
        refine lv_ishr S.1 S.2.1 dL_act_95 ?_
        refine z_iconst S dL_act_96 ?_
        refine z_rS (As := [.int (x >>> (zI 8 &&& 31)), .int (zI 4)]) (rest := []) S (m_L_below l D g (x >>> (zI 8 &&& 31)) 4 (by omega)) ml_L_9 sm_L_below ini_L cd_L_below ds_L_below ⟨Nat.le_of_ble_eq_true rfl, Nat.le_of_ble_eq_true rfl⟩ hK va_P_nil rfl hl.1 rfl (Nat.le_of_ble_eq_true rfl) ⟨Nat.le_of_ble_eq_true rfl, Nat.le_of_ble_eq_true rfl⟩ dL_act_97 ?_
        have hb_6 := blw_b (x >>> (zI 8 &&& 31)) 4 (by omega)
        refine lv_istore (lv' := [(8, .int (zI (blw (x >>> (zI 8 &&& 31)) 4))), (5, .int (zI (blw (x >>> (zI 5 &&& 31)) (t.1 3)))), (4, .int (zI (blw (x >>> (zI 6 &&& 31)) 20))), (3, .int (zI (blw (x >>> (zI 4 &&& 31)) 20))), (0, .ref (a 0)), (1, .ref (b 0)), (2, .int x)]) S.1 S.2.1 dL_act_100 hl (by decide) rfl (fun ls hl => ?_)
        refine lv_iload_n S.1 S.2.1 dL_act_102 rfl (lv_at hl 6 rfl) ?_
        refine z_bipush S (by decide) dL_act_103 ?_
        refine lv_ishr S.1 S.2.1 dL_act_105 ?_
        refine z_bipush S (by decide) dL_act_106 ?_
        refine y_joinV (nL := 16) (fun v => ((blw (x >>> (zI 8 &&& 31)) 4) = 1 ∧ v = (blw (x >>> (zI 6 &&& 31)) 20)) ∨ ((blw (x >>> (zI 8 &&& 31)) 4) = 0 ∧ v = (blw (x >>> (zI 4 &&& 31)) 20)) ∨ ((blw (x >>> (zI 8 &&& 31)) 4) = 2 ∧ v = max (blw (x >>> (zI 4 &&& 31)) 20) (blw (x >>> (zI 6 &&& 31)) 20)) ∨ ((blw (x >>> (zI 8 &&& 31)) 4) = 3 ∧ v = max (blw (x >>> (zI 4 &&& 31)) 20) (19 - (blw (x >>> (zI 6 &&& 31)) 20)))) 148 (lv := [(8, .int (zI (blw (x >>> (zI 8 &&& 31)) 4))), (5, .int (zI (blw (x >>> (zI 5 &&& 31)) (t.1 3)))), (4, .int (zI (blw (x >>> (zI 6 &&& 31)) 20))), (3, .int (zI (blw (x >>> (zI 4 &&& 31)) 20))), (0, .ref (a 0)), (1, .ref (b 0)), (2, .int x)]) [.int (zI 20), .int (x >>> (zI 7 &&& 31))] (fun J148 => ?_) (fun v148 hv148 ls hl => ?_)
        · refine lv_iload S.1 S.2.1 dL_act_108 (lv_at hl 0 rfl) ?_
          refine z_iconst S dL_act_110 ?_
          refine z_icmp_ne (tgt := 119) S dL_act_111 (by decide) (by omega) (fun h_7 => ?_) (fun h_7 => ?_)
          · refine lv_iload S.1 S.2.1 dL_act_119 (lv_at hl 0 rfl) ?_
            refine z_if_ne (tgt := 128) S dL_act_121 (by decide) (by omega) (fun h_8 => ?_) (fun h_8 => ?_)
            · refine lv_iload_n S.1 S.2.1 dL_act_128 rfl (lv_at hl 3 rfl) ?_
              refine lv_iload S.1 S.2.1 dL_act_129 (lv_at hl 0 rfl) ?_
              refine z_iconst S dL_act_131 ?_
              refine z_icmp_ne (tgt := 140) S dL_act_132 (by decide) (by omega) (fun h_9 => ?_) (fun h_9 => ?_)
              · refine z_bipush S (by decide) dL_act_140 ?_
                refine lv_iload S.1 S.2.1 dL_act_142 (lv_at hl 2 rfl) ?_
                refine z_isub S dL_act_144 ?_
                refine z_max S ml_L_21 hl.1 (Nat.le_of_ble_eq_true rfl) (Nat.le_of_ble_eq_true rfl) ⟨Nat.le_of_ble_eq_true rfl, Nat.le_of_ble_eq_true rfl⟩ (by omega) dL_act_145 ?_
                exact J148 (max (blw (x >>> (zI 4 &&& 31)) 20) (19 - (blw (x >>> (zI 6 &&& 31)) 20))) (by omega) ls hl
              · refine lv_iload S.1 S.2.1 dL_act_135 (lv_at hl 2 rfl) ?_
                refine z_goto (tgt := 145) S dL_act_137 (by decide) ?_
                refine z_max S ml_L_21 hl.1 (Nat.le_of_ble_eq_true rfl) (Nat.le_of_ble_eq_true rfl) ⟨Nat.le_of_ble_eq_true rfl, Nat.le_of_ble_eq_true rfl⟩ (by omega) dL_act_145 ?_
                exact J148 (max (blw (x >>> (zI 4 &&& 31)) 20) (blw (x >>> (zI 6 &&& 31)) 20)) (by omega) ls hl
            · refine lv_iload_n S.1 S.2.1 dL_act_124 rfl (lv_at hl 3 rfl) ?_
              refine z_goto (tgt := 148) S dL_act_125 (by decide) ?_
              exact J148 (blw (x >>> (zI 4 &&& 31)) 20) (by omega) ls hl
          · refine lv_iload S.1 S.2.1 dL_act_114 (lv_at hl 2 rfl) ?_
            refine z_goto (tgt := 148) S dL_act_116 (by decide) ?_
            exact J148 (blw (x >>> (zI 6 &&& 31)) 20) (by omega) ls hl
        · have hl : lv_has ls 16 [(8, .int (zI (blw (x >>> (zI 8 &&& 31)) 4))), (5, .int (zI (blw (x >>> (zI 5 &&& 31)) (t.1 3)))), (4, .int (zI (blw (x >>> (zI 6 &&& 31)) 20))), (3, .int (zI (blw (x >>> (zI 4 &&& 31)) 20))), (0, .ref (a 0)), (1, .ref (b 0)), (2, .int x)] := hl
          have hv148 : ((blw (x >>> (zI 8 &&& 31)) 4) = 1 ∧ v148 = (blw (x >>> (zI 6 &&& 31)) 20)) ∨ ((blw (x >>> (zI 8 &&& 31)) 4) = 0 ∧ v148 = (blw (x >>> (zI 4 &&& 31)) 20)) ∨ ((blw (x >>> (zI 8 &&& 31)) 4) = 2 ∧ v148 = max (blw (x >>> (zI 4 &&& 31)) 20) (blw (x >>> (zI 6 &&& 31)) 20)) ∨ ((blw (x >>> (zI 8 &&& 31)) 4) = 3 ∧ v148 = max (blw (x >>> (zI 4 &&& 31)) 20) (19 - (blw (x >>> (zI 6 &&& 31)) 20))) := hv148
          refine z_isub S dL_act_148 ?_
          refine z_rS (As := [.int (x >>> (zI 7 &&& 31)), .int (zI (20 - v148))]) (rest := []) S (m_L_below l D g (x >>> (zI 7 &&& 31)) (20 - v148) (by omega)) ml_L_9 sm_L_below ini_L cd_L_below ds_L_below ⟨Nat.le_of_ble_eq_true rfl, Nat.le_of_ble_eq_true rfl⟩ hK va_P_nil rfl hl.1 rfl (Nat.le_of_ble_eq_true rfl) ⟨Nat.le_of_ble_eq_true rfl, Nat.le_of_ble_eq_true rfl⟩ dL_act_149 ?_
          have hb_10 := blw_b (x >>> (zI 7 &&& 31)) (20 - v148) (by omega)
          refine lv_istore (lv' := [(9, .int (zI (blw (x >>> (zI 7 &&& 31)) (20 - v148)))), (8, .int (zI (blw (x >>> (zI 8 &&& 31)) 4))), (5, .int (zI (blw (x >>> (zI 5 &&& 31)) (t.1 3)))), (4, .int (zI (blw (x >>> (zI 6 &&& 31)) 20))), (3, .int (zI (blw (x >>> (zI 4 &&& 31)) 20))), (0, .ref (a 0)), (1, .ref (b 0)), (2, .int x)]) S.1 S.2.1 dL_act_152 hl (by decide) rfl (fun ls hl => ?_)
          refine y_joinV (nL := 16) (fun v => ((blw (x >>> (zI 8 &&& 31)) 4) = 1 ∧ v = (blw (x >>> (zI 4 &&& 31)) 20)) ∨ ((blw (x >>> (zI 8 &&& 31)) 4) ≠ 1 ∧ v = (blw (x >>> (zI 4 &&& 31)) 20) + (blw (x >>> (zI 7 &&& 31)) (20 - v148)))) 168 (lv := [(9, .int (zI (blw (x >>> (zI 7 &&& 31)) (20 - v148)))), (8, .int (zI (blw (x >>> (zI 8 &&& 31)) 4))), (5, .int (zI (blw (x >>> (zI 5 &&& 31)) (t.1 3)))), (4, .int (zI (blw (x >>> (zI 6 &&& 31)) 20))), (3, .int (zI (blw (x >>> (zI 4 &&& 31)) 20))), (0, .ref (a 0)), (1, .ref (b 0)), (2, .int x)]) [] (fun J168 => ?_) (fun v168 hv168 ls hl => ?_)
          · refine lv_iload S.1 S.2.1 dL_act_154 (lv_at hl 1 rfl) ?_
            refine z_iconst S dL_act_156 ?_
            refine z_icmp_ne (tgt := 164) S dL_act_157 (by decide) (by omega) (fun h_11 => ?_) (fun h_11 => ?_)
            · refine lv_iload_n S.1 S.2.1 dL_act_164 rfl (lv_at hl 4 rfl) ?_
              refine lv_iload S.1 S.2.1 dL_act_165 (lv_at hl 0 rfl) ?_
              refine z_iadd S dL_act_167 ?_
              exact J168 ((blw (x >>> (zI 4 &&& 31)) 20) + (blw (x >>> (zI 7 &&& 31)) (20 - v148))) (by omega) ls hl
            · refine lv_iload_n S.1 S.2.1 dL_act_160 rfl (lv_at hl 4 rfl) ?_
              refine z_goto (tgt := 168) S dL_act_161 (by decide) ?_
              exact J168 (blw (x >>> (zI 4 &&& 31)) 20) (by omega) ls hl
          · have hl : lv_has ls 16 [(9, .int (zI (blw (x >>> (zI 7 &&& 31)) (20 - v148)))), (8, .int (zI (blw (x >>> (zI 8 &&& 31)) 4))), (5, .int (zI (blw (x >>> (zI 5 &&& 31)) (t.1 3)))), (4, .int (zI (blw (x >>> (zI 6 &&& 31)) 20))), (3, .int (zI (blw (x >>> (zI 4 &&& 31)) 20))), (0, .ref (a 0)), (1, .ref (b 0)), (2, .int x)] := hl
            have hv168 : ((blw (x >>> (zI 8 &&& 31)) 4) = 1 ∧ v168 = (blw (x >>> (zI 4 &&& 31)) 20)) ∨ ((blw (x >>> (zI 8 &&& 31)) 4) ≠ 1 ∧ v168 = (blw (x >>> (zI 4 &&& 31)) 20) + (blw (x >>> (zI 7 &&& 31)) (20 - v148))) := hv168
            refine lv_istore (lv' := [(10, .int (zI v168)), (9, .int (zI (blw (x >>> (zI 7 &&& 31)) (20 - v148)))), (8, .int (zI (blw (x >>> (zI 8 &&& 31)) 4))), (5, .int (zI (blw (x >>> (zI 5 &&& 31)) (t.1 3)))), (4, .int (zI (blw (x >>> (zI 6 &&& 31)) 20))), (3, .int (zI (blw (x >>> (zI 4 &&& 31)) 20))), (0, .ref (a 0)), (1, .ref (b 0)), (2, .int x)]) S.1 S.2.1 dL_act_168 hl (by decide) rfl (fun ls hl => ?_)
            refine y_joinV (nL := 16) (fun v => ((blw (x >>> (zI 8 &&& 31)) 4) = 0 ∧ v = (blw (x >>> (zI 6 &&& 31)) 20)) ∨ ((blw (x >>> (zI 8 &&& 31)) 4) = 3 ∧ v = (blw (x >>> (zI 6 &&& 31)) 20) - (blw (x >>> (zI 7 &&& 31)) (20 - v148))) ∨ ((blw (x >>> (zI 8 &&& 31)) 4) ≠ 0 ∧ (blw (x >>> (zI 8 &&& 31)) 4) ≠ 3 ∧ v = (blw (x >>> (zI 6 &&& 31)) 20) + (blw (x >>> (zI 7 &&& 31)) (20 - v148)))) 199 (lv := [(10, .int (zI v168)), (9, .int (zI (blw (x >>> (zI 7 &&& 31)) (20 - v148)))), (8, .int (zI (blw (x >>> (zI 8 &&& 31)) 4))), (5, .int (zI (blw (x >>> (zI 5 &&& 31)) (t.1 3)))), (4, .int (zI (blw (x >>> (zI 6 &&& 31)) 20))), (3, .int (zI (blw (x >>> (zI 4 &&& 31)) 20))), (0, .ref (a 0)), (1, .ref (b 0)), (2, .int x)]) [] (fun J199 => ?_) (fun v199 hv199 ls hl => ?_)
            · refine lv_iload S.1 S.2.1 dL_act_170 (lv_at hl 2 rfl) ?_
              refine z_if_ne (tgt := 180) S dL_act_172 (by decide) (by omega) (fun h_12 => ?_) (fun h_12 => ?_)
              · refine lv_iload S.1 S.2.1 dL_act_180 (lv_at hl 2 rfl) ?_
                refine z_iconst S dL_act_182 ?_
                refine z_icmp_ne (tgt := 194) S dL_act_183 (by decide) (by omega) (fun h_13 => ?_) (fun h_13 => ?_)
                · refine lv_iload S.1 S.2.1 dL_act_194 (lv_at hl 4 rfl) ?_
                  refine lv_iload S.1 S.2.1 dL_act_196 (lv_at hl 1 rfl) ?_
                  refine z_iadd S dL_act_198 ?_
                  exact J199 ((blw (x >>> (zI 6 &&& 31)) 20) + (blw (x >>> (zI 7 &&& 31)) (20 - v148))) (by omega) ls hl
                · refine lv_iload S.1 S.2.1 dL_act_186 (lv_at hl 4 rfl) ?_
                  refine lv_iload S.1 S.2.1 dL_act_188 (lv_at hl 1 rfl) ?_
                  refine z_isub S dL_act_190 ?_
                  refine z_goto (tgt := 199) S dL_act_191 (by decide) ?_
                  exact J199 ((blw (x >>> (zI 6 &&& 31)) 20) - (blw (x >>> (zI 7 &&& 31)) (20 - v148))) (by omega) ls hl
              · refine lv_iload S.1 S.2.1 dL_act_175 (lv_at hl 4 rfl) ?_
                refine z_goto (tgt := 199) S dL_act_177 (by decide) ?_
                exact J199 (blw (x >>> (zI 6 &&& 31)) 20) (by omega) ls hl
            · have hl : lv_has ls 16 [(10, .int (zI v168)), (9, .int (zI (blw (x >>> (zI 7 &&& 31)) (20 - v148)))), (8, .int (zI (blw (x >>> (zI 8 &&& 31)) 4))), (5, .int (zI (blw (x >>> (zI 5 &&& 31)) (t.1 3)))), (4, .int (zI (blw (x >>> (zI 6 &&& 31)) 20))), (3, .int (zI (blw (x >>> (zI 4 &&& 31)) 20))), (0, .ref (a 0)), (1, .ref (b 0)), (2, .int x)] := hl
              have hv199 : ((blw (x >>> (zI 8 &&& 31)) 4) = 0 ∧ v199 = (blw (x >>> (zI 6 &&& 31)) 20)) ∨ ((blw (x >>> (zI 8 &&& 31)) 4) = 3 ∧ v199 = (blw (x >>> (zI 6 &&& 31)) 20) - (blw (x >>> (zI 7 &&& 31)) (20 - v148))) ∨ ((blw (x >>> (zI 8 &&& 31)) 4) ≠ 0 ∧ (blw (x >>> (zI 8 &&& 31)) 4) ≠ 3 ∧ v199 = (blw (x >>> (zI 6 &&& 31)) 20) + (blw (x >>> (zI 7 &&& 31)) (20 - v148))) := hv199
              refine lv_istore (lv' := [(11, .int (zI v199)), (10, .int (zI v168)), (9, .int (zI (blw (x >>> (zI 7 &&& 31)) (20 - v148)))), (8, .int (zI (blw (x >>> (zI 8 &&& 31)) 4))), (5, .int (zI (blw (x >>> (zI 5 &&& 31)) (t.1 3)))), (4, .int (zI (blw (x >>> (zI 6 &&& 31)) 20))), (3, .int (zI (blw (x >>> (zI 4 &&& 31)) 20))), (0, .ref (a 0)), (1, .ref (b 0)), (2, .int x)]) S.1 S.2.1 dL_act_199 hl (by decide) rfl (fun ls hl => ?_)
              refine z_iconst S dL_act_201 ?_
              refine lv_iload_n S.1 S.2.1 dL_act_202 rfl (lv_at hl 9 rfl) ?_
              refine z_bipush S (by decide) dL_act_203 ?_
              refine lv_ishr S.1 S.2.1 dL_act_205 ?_
              refine y_joinV (nL := 16) (fun v => v = 20 ∨ v = 5) 222 (lv := [(11, .int (zI v199)), (10, .int (zI v168)), (9, .int (zI (blw (x >>> (zI 7 &&& 31)) (20 - v148)))), (8, .int (zI (blw (x >>> (zI 8 &&& 31)) 4))), (5, .int (zI (blw (x >>> (zI 5 &&& 31)) (t.1 3)))), (4, .int (zI (blw (x >>> (zI 6 &&& 31)) 20))), (3, .int (zI (blw (x >>> (zI 4 &&& 31)) 20))), (0, .ref (a 0)), (1, .ref (b 0)), (2, .int x)]) [.int (x >>> (zI 9 &&& 31)), .int (zI 1)] (fun J222 => ?_) (fun v222 hv222 ls hl => ?_)
              · refine lv_iload_n S.1 S.2.1 dL_act_206 rfl (lv_at hl 9 rfl) ?_
                refine z_iconst S dL_act_207 ?_
                refine lv_ishr S.1 S.2.1 dL_act_208 ?_
                refine z_iconst S dL_act_209 ?_
                refine z_rS (As := [.int (x >>> (zI 5 &&& 31)), .int (zI 2)]) (rest := [.int (x >>> (zI 9 &&& 31)), .int (zI 1)]) S (m_L_below l D g (x >>> (zI 5 &&& 31)) 2 (by omega)) ml_L_9 sm_L_below ini_L cd_L_below ds_L_below ⟨Nat.le_of_ble_eq_true rfl, Nat.le_of_ble_eq_true rfl⟩ hK va_P_nil rfl hl.1 rfl (Nat.le_of_ble_eq_true rfl) ⟨Nat.le_of_ble_eq_true rfl, Nat.le_of_ble_eq_true rfl⟩ dL_act_210 ?_
                have hb_14 := blw_b (x >>> (zI 5 &&& 31)) 2 (by omega)
                refine z_if_ne (tgt := 221) S dL_act_213 (by decide) (by omega) (fun h_15 => ?_) (fun h_15 => ?_)
                · refine z_iconst S dL_act_221 ?_
                  exact J222 5 (by omega) ls hl
                · refine z_bipush S (by decide) dL_act_216 ?_
                  refine z_goto (tgt := 222) S dL_act_218 (by decide) ?_
                  exact J222 20 (by omega) ls hl
              · have hl : lv_has ls 16 [(11, .int (zI v199)), (10, .int (zI v168)), (9, .int (zI (blw (x >>> (zI 7 &&& 31)) (20 - v148)))), (8, .int (zI (blw (x >>> (zI 8 &&& 31)) 4))), (5, .int (zI (blw (x >>> (zI 5 &&& 31)) (t.1 3)))), (4, .int (zI (blw (x >>> (zI 6 &&& 31)) 20))), (3, .int (zI (blw (x >>> (zI 4 &&& 31)) 20))), (0, .ref (a 0)), (1, .ref (b 0)), (2, .int x)] := hl
                have hv222 : v222 = 20 ∨ v222 = 5 := hv222
                refine z_rS (As := [.int (x >>> (zI 9 &&& 31)), .int (zI v222)]) (rest := [.int (zI 1)]) S (m_L_below l D g (x >>> (zI 9 &&& 31)) v222 (by omega)) ml_L_9 sm_L_below ini_L cd_L_below ds_L_below ⟨Nat.le_of_ble_eq_true rfl, Nat.le_of_ble_eq_true rfl⟩ hK va_P_nil rfl hl.1 rfl (Nat.le_of_ble_eq_true rfl) ⟨Nat.le_of_ble_eq_true rfl, Nat.le_of_ble_eq_true rfl⟩ dL_act_222 ?_
                have hb_16 := blw_b (x >>> (zI 9 &&& 31)) v222 (by omega)
                refine z_iadd S dL_act_225 ?_
                refine lv_istore (lv' := [(12, .int (zI (1 + (blw (x >>> (zI 9 &&& 31)) v222)))), (11, .int (zI v199)), (10, .int (zI v168)), (9, .int (zI (blw (x >>> (zI 7 &&& 31)) (20 - v148)))), (8, .int (zI (blw (x >>> (zI 8 &&& 31)) 4))), (5, .int (zI (blw (x >>> (zI 5 &&& 31)) (t.1 3)))), (4, .int (zI (blw (x >>> (zI 6 &&& 31)) 20))), (3, .int (zI (blw (x >>> (zI 4 &&& 31)) 20))), (0, .ref (a 0)), (1, .ref (b 0)), (2, .int x)]) S.1 S.2.1 dL_act_226 hl (by decide) rfl (fun ls hl => ?_)
                refine z_iconst S dL_act_228 ?_
                refine lv_iload_n S.1 S.2.1 dL_act_229 rfl (lv_at hl 10 rfl) ?_
                refine z_iconst S dL_act_230 ?_
                refine lv_ishr S.1 S.2.1 dL_act_231 ?_
                refine z_bipush S (by decide) dL_act_232 ?_
                refine z_rS (As := [.int (x >>> (zI 3 &&& 31)), .int (zI 9)]) (rest := [.int (zI 1)]) S (m_L_below l D g (x >>> (zI 3 &&& 31)) 9 (by omega)) ml_L_9 sm_L_below ini_L cd_L_below ds_L_below ⟨Nat.le_of_ble_eq_true rfl, Nat.le_of_ble_eq_true rfl⟩ hK va_P_nil rfl hl.1 rfl (Nat.le_of_ble_eq_true rfl) ⟨Nat.le_of_ble_eq_true rfl, Nat.le_of_ble_eq_true rfl⟩ dL_act_234 ?_
                have hb_17 := blw_b (x >>> (zI 3 &&& 31)) 9 (by omega)
                refine z_iadd S dL_act_237 ?_
                refine lv_istore (lv' := [(13, .int (zI (1 + (blw (x >>> (zI 3 &&& 31)) 9)))), (12, .int (zI (1 + (blw (x >>> (zI 9 &&& 31)) v222)))), (11, .int (zI v199)), (10, .int (zI v168)), (9, .int (zI (blw (x >>> (zI 7 &&& 31)) (20 - v148)))), (8, .int (zI (blw (x >>> (zI 8 &&& 31)) 4))), (5, .int (zI (blw (x >>> (zI 5 &&& 31)) (t.1 3)))), (4, .int (zI (blw (x >>> (zI 6 &&& 31)) 20))), (3, .int (zI (blw (x >>> (zI 4 &&& 31)) 20))), (0, .ref (a 0)), (1, .ref (b 0)), (2, .int x)]) S.1 S.2.1 dL_act_238 hl (by decide) rfl (fun ls hl => ?_)
                refine y_joinV (nL := 16) (fun v => v = 0 ∨ v = 1) 256 (lv := [(13, .int (zI (1 + (blw (x >>> (zI 3 &&& 31)) 9)))), (12, .int (zI (1 + (blw (x >>> (zI 9 &&& 31)) v222)))), (11, .int (zI v199)), (10, .int (zI v168)), (9, .int (zI (blw (x >>> (zI 7 &&& 31)) (20 - v148)))), (8, .int (zI (blw (x >>> (zI 8 &&& 31)) 4))), (5, .int (zI (blw (x >>> (zI 5 &&& 31)) (t.1 3)))), (4, .int (zI (blw (x >>> (zI 6 &&& 31)) 20))), (3, .int (zI (blw (x >>> (zI 4 &&& 31)) 20))), (0, .ref (a 0)), (1, .ref (b 0)), (2, .int x)]) [] (fun J256 => ?_) (fun v256 hv256 ls hl => ?_)
                · refine lv_iload_n S.1 S.2.1 dL_act_240 rfl (lv_at hl 11 rfl) ?_
                  refine z_bipush S (by decide) dL_act_241 ?_
                  refine lv_ishr S.1 S.2.1 dL_act_243 ?_
                  refine z_iconst S dL_act_244 ?_
                  refine z_rS (As := [.int (x >>> (zI 10 &&& 31)), .int (zI 2)]) (rest := []) S (m_L_below l D g (x >>> (zI 10 &&& 31)) 2 (by omega)) ml_L_9 sm_L_below ini_L cd_L_below ds_L_below ⟨Nat.le_of_ble_eq_true rfl, Nat.le_of_ble_eq_true rfl⟩ hK va_P_nil rfl hl.1 rfl (Nat.le_of_ble_eq_true rfl) ⟨Nat.le_of_ble_eq_true rfl, Nat.le_of_ble_eq_true rfl⟩ dL_act_245 ?_
                  have hb_18 := blw_b (x >>> (zI 10 &&& 31)) 2 (by omega)
                  refine z_if_ne (tgt := 255) S dL_act_248 (by decide) (by omega) (fun h_19 => ?_) (fun h_19 => ?_)
                  · refine z_iconst S dL_act_255 ?_
                    exact J256 0 (by omega) ls hl
                  · refine z_iconst S dL_act_251 ?_
                    refine z_goto (tgt := 256) S dL_act_252 (by decide) ?_
                    exact J256 1 (by omega) ls hl
                · have hl : lv_has ls 16 [(13, .int (zI (1 + (blw (x >>> (zI 3 &&& 31)) 9)))), (12, .int (zI (1 + (blw (x >>> (zI 9 &&& 31)) v222)))), (11, .int (zI v199)), (10, .int (zI v168)), (9, .int (zI (blw (x >>> (zI 7 &&& 31)) (20 - v148)))), (8, .int (zI (blw (x >>> (zI 8 &&& 31)) 4))), (5, .int (zI (blw (x >>> (zI 5 &&& 31)) (t.1 3)))), (4, .int (zI (blw (x >>> (zI 6 &&& 31)) 20))), (3, .int (zI (blw (x >>> (zI 4 &&& 31)) 20))), (0, .ref (a 0)), (1, .ref (b 0)), (2, .int x)] := hl
                  have hv256 : v256 = 0 ∨ v256 = 1 := hv256
                  refine lv_istore (lv' := [(14, .int (zI v256)), (13, .int (zI (1 + (blw (x >>> (zI 3 &&& 31)) 9)))), (12, .int (zI (1 + (blw (x >>> (zI 9 &&& 31)) v222)))), (11, .int (zI v199)), (10, .int (zI v168)), (9, .int (zI (blw (x >>> (zI 7 &&& 31)) (20 - v148)))), (8, .int (zI (blw (x >>> (zI 8 &&& 31)) 4))), (5, .int (zI (blw (x >>> (zI 5 &&& 31)) (t.1 3)))), (4, .int (zI (blw (x >>> (zI 6 &&& 31)) 20))), (3, .int (zI (blw (x >>> (zI 4 &&& 31)) 20))), (0, .ref (a 0)), (1, .ref (b 0)), (2, .int x)]) S.1 S.2.1 dL_act_256 hl (by decide) rfl (fun ls hl => ?_)
                  refine y_joinV (nL := 16) (fun v => (t.1 2 < 6 ∧ v = t.1 2) ∨ (6 ≤ t.1 2 ∧ v = -1)) 277 (lv := [(14, .int (zI v256)), (13, .int (zI (1 + (blw (x >>> (zI 3 &&& 31)) 9)))), (12, .int (zI (1 + (blw (x >>> (zI 9 &&& 31)) v222)))), (11, .int (zI v199)), (10, .int (zI v168)), (9, .int (zI (blw (x >>> (zI 7 &&& 31)) (20 - v148)))), (8, .int (zI (blw (x >>> (zI 8 &&& 31)) 4))), (5, .int (zI (blw (x >>> (zI 5 &&& 31)) (t.1 3)))), (4, .int (zI (blw (x >>> (zI 6 &&& 31)) 20))), (3, .int (zI (blw (x >>> (zI 4 &&& 31)) 20))), (0, .ref (a 0)), (1, .ref (b 0)), (2, .int x)]) [] (fun J277 => ?_) (fun v277 hv277 ls hl => ?_)
                  · refine lv_aload_n S.1 S.2.1 dL_act_258 rfl (lv_at hl 11 rfl) ?_
                    refine z_get (v := .ref (b 1)) S inA5 hK hP 21 rfl rfl 2 (by decide) fl_L_26 rfl dL_act_259 ?_
                    refine y_alen S hK hP 22 rfl (v := t.1 2) (by show (((t.1 2).toNat : Nat) : Int) = _; omega) dL_act_262 ?_
                    refine z_bipush S (by decide) dL_act_263 ?_
                    refine z_icmp_ge (tgt := 276) S dL_act_265 (by decide) (by omega) (fun h_20 => ?_) (fun h_20 => ?_)
                    · refine z_iconst S dL_act_276 ?_
                      exact J277 (-1) (by omega) ls hl
                    · refine lv_aload_n S.1 S.2.1 dL_act_268 rfl (lv_at hl 11 rfl) ?_
                      refine z_get (v := .ref (b 1)) S inA5 hK hP 21 rfl rfl 2 (by decide) fl_L_26 rfl dL_act_269 ?_
                      refine y_alen S hK hP 22 rfl (v := t.1 2) (by show (((t.1 2).toNat : Nat) : Int) = _; omega) dL_act_272 ?_
                      refine z_goto (tgt := 277) S dL_act_273 (by decide) ?_
                      exact J277 (t.1 2) (by omega) ls hl
                  · have hl : lv_has ls 16 [(14, .int (zI v256)), (13, .int (zI (1 + (blw (x >>> (zI 3 &&& 31)) 9)))), (12, .int (zI (1 + (blw (x >>> (zI 9 &&& 31)) v222)))), (11, .int (zI v199)), (10, .int (zI v168)), (9, .int (zI (blw (x >>> (zI 7 &&& 31)) (20 - v148)))), (8, .int (zI (blw (x >>> (zI 8 &&& 31)) 4))), (5, .int (zI (blw (x >>> (zI 5 &&& 31)) (t.1 3)))), (4, .int (zI (blw (x >>> (zI 6 &&& 31)) 20))), (3, .int (zI (blw (x >>> (zI 4 &&& 31)) 20))), (0, .ref (a 0)), (1, .ref (b 0)), (2, .int x)] := hl
                    have hv277 : (t.1 2 < 6 ∧ v277 = t.1 2) ∨ (6 ≤ t.1 2 ∧ v277 = -1) := hv277
                    refine lv_istore (lv' := [(7, .int (zI v277)), (14, .int (zI v256)), (13, .int (zI (1 + (blw (x >>> (zI 3 &&& 31)) 9)))), (12, .int (zI (1 + (blw (x >>> (zI 9 &&& 31)) v222)))), (11, .int (zI v199)), (10, .int (zI v168)), (9, .int (zI (blw (x >>> (zI 7 &&& 31)) (20 - v148)))), (8, .int (zI (blw (x >>> (zI 8 &&& 31)) 4))), (5, .int (zI (blw (x >>> (zI 5 &&& 31)) (t.1 3)))), (4, .int (zI (blw (x >>> (zI 6 &&& 31)) 20))), (3, .int (zI (blw (x >>> (zI 4 &&& 31)) 20))), (0, .ref (a 0)), (1, .ref (b 0)), (2, .int x)]) S.1 S.2.1 dL_act_277 hl (by decide) rfl (fun ls hl => ?_)
                    refine lv_iload S.1 S.2.1 dL_act_279 (lv_at hl 0 rfl) ?_
                    refine z_if_lt (tgt := 299) S dL_act_281 (by decide) (by omega) (fun h_21 => ?_) (fun h_21 => ?_)
                    · refine lv_iload S.1 S.2.1 dL_act_299 (lv_at hl 1 rfl) ?_
                      refine z_if_eq (tgt := 322) S dL_act_301 (by decide) (by omega) (fun h_22 => ?_) (fun h_22 => ?_)
                      · refine lv_aload_n S.1 S.2.1 dL_act_322 rfl (lv_at hl 11 rfl) ?_
                        refine lv_iload_n S.1 S.2.1 dL_act_323 rfl (lv_at hl 10 rfl) ?_
                        refine lv_iload S.1 S.2.1 dL_act_324 (lv_at hl 9 rfl) ?_
                        refine lv_iload S.1 S.2.1 dL_act_326 (lv_at hl 5 rfl) ?_
                        refine lv_iload S.1 S.2.1 dL_act_328 (lv_at hl 4 rfl) ?_
                        refine lv_iload S.1 S.2.1 dL_act_330 (lv_at hl 3 rfl) ?_
                        refine lv_iload S.1 S.2.1 dL_act_332 (lv_at hl 2 rfl) ?_
                        have hf3 : inF (blw (x >>> (zI 4 &&& 31)) 20) (blw (x >>> (zI 6 &&& 31)) 20) ∧ inF v168 v199 := by omega
                        have hst1 : strt (blw (x >>> (zI 4 &&& 31)) 20) (blw (x >>> (zI 6 &&& 31)) 20) v168 v199 := (by have q1 := ab_cs (v168 - (blw (x >>> (zI 4 &&& 31)) 20)); have q2 := ab_cs (v199 - (blw (x >>> (zI 6 &&& 31)) 20)); have q3 := ab_cs ((blw (x >>> (zI 4 &&& 31)) 20) - v168); have q4 := ab_cs ((blw (x >>> (zI 6 &&& 31)) 20) - v199); omega)
                        have hst2 : strt v168 v199 (blw (x >>> (zI 4 &&& 31)) 20) (blw (x >>> (zI 6 &&& 31)) 20) := (by have q1 := ab_cs (v168 - (blw (x >>> (zI 4 &&& 31)) 20)); have q2 := ab_cs (v199 - (blw (x >>> (zI 6 &&& 31)) 20)); have q3 := ab_cs ((blw (x >>> (zI 4 &&& 31)) 20) - v168); have q4 := ab_cs ((blw (x >>> (zI 6 &&& 31)) 20) - v199); omega)
                        have hk3 := kVein_3 (c := c) (x := (blw (x >>> (zI 4 &&& 31)) 20)) (y := (blw (x >>> (zI 6 &&& 31)) 20)) (tx := v168) (ty := v199) (dp := (1 + (blw (x >>> (zI 9 &&& 31)) v222))) (fl := (1 + (blw (x >>> (zI 3 &&& 31)) 9))) (by omega) hst1 (by omega) (by omega)
                        refine y_xC (X := []) (c1 := (veinC c (blw (x >>> (zI 4 &&& 31)) 20) (blw (x >>> (zI 6 &&& 31)) 20) v168 v199 (1 + (blw (x >>> (zI 9 &&& 31)) v222)) (1 + (blw (x >>> (zI 3 &&& 31)) 9)))) (As := [.int (zI (blw (x >>> (zI 4 &&& 31)) 20)), .int (zI (blw (x >>> (zI 6 &&& 31)) 20)), .int (zI v168), .int (zI v199), .int (zI (1 + (blw (x >>> (zI 9 &&& 31)) v222))), .int (zI (1 + (blw (x >>> (zI 3 &&& 31)) 9)))]) (rest := []) S (m_X4_vein l D g a c hI hst hda (blw (x >>> (zI 4 &&& 31)) 20) (blw (x >>> (zI 6 &&& 31)) 20) v168 v199 (1 + (blw (x >>> (zI 9 &&& 31)) v222)) (1 + (blw (x >>> (zI 3 &&& 31)) 9)) (by omega) (by omega) (by omega) (by omega) (by omega) (by omega) (by omega)) ml_L_33 im_X4_vein se_X4_vein cd_X4_vein ds_X4_vein ⟨Nat.le_of_ble_eq_true rfl, Nat.le_of_ble_eq_true rfl⟩ hX hZ hP hD hAc hS rfl hl.1 rfl (Nat.le_of_ble_eq_true rfl) ⟨(Nat.le_of_ble_eq_true rfl), (Nat.le_of_ble_eq_true rfl)⟩ dL_act_334 (fun E ce q9 H locs hx hP hS hc1 hc2 hc3 => ?_) (fun hok H locs hP hD hS => ?_)
                        · rcases hx with ⟨hk, rfl⟩ | ⟨hk, rfl⟩ | ⟨hk, rfl⟩
                          · exact absurd hk (by rw [hk3]; split <;> decide)
                          · exact absurd hk (by rw [hk3]; split <;> decide)
                          · refine vx_catch (name := eS) (E := eS) S.2.2.2.1 [] ⟨299, 339, 342, 38⟩ [⟨567, 576, 579, 38⟩, ⟨773, 782, 785, 38⟩, ⟨962, 996, 997, 38⟩, ⟨1069, 1079, 1082, 38⟩] (by rw [htab]; rfl) (fun z hz => absurd hz List.not_mem_nil) (by decide) (by decide) (S.2.2.2.2 _ cl_L_38) (xw_use (XWl_x _ cx_S) (hX.2.1 _ cx_S)) hc1 hc2 hc3 ?_
                            have hP : va_P D vwCl (CW g a c ++ SW g b t) H := hP
                            have hD : va_D A (CW g a c ++ SW g b t) := hD
                            refine lv_astore (lv' := [(15, .ref q9), (7, .int (zI v277)), (14, .int (zI v256)), (13, .int (zI (1 + (blw (x >>> (zI 3 &&& 31)) 9)))), (12, .int (zI (1 + (blw (x >>> (zI 9 &&& 31)) v222)))), (11, .int (zI v199)), (10, .int (zI v168)), (9, .int (zI (blw (x >>> (zI 7 &&& 31)) (20 - v148)))), (8, .int (zI (blw (x >>> (zI 8 &&& 31)) 4))), (5, .int (zI (blw (x >>> (zI 5 &&& 31)) (t.1 3)))), (4, .int (zI (blw (x >>> (zI 6 &&& 31)) 20))), (3, .int (zI (blw (x >>> (zI 4 &&& 31)) 20))), (0, .ref (a 0)), (1, .ref (b 0)), (2, .int x)]) S.1 S.2.1 dL_act_342 hl (by decide) rfl (fun ls hl => ?_)
                            refine z_iconst S dL_act_344 ?_
                            refine lv_istore (lv' := [(6, .int (zI (-1))), (15, .ref q9), (7, .int (zI v277)), (14, .int (zI v256)), (13, .int (zI (1 + (blw (x >>> (zI 3 &&& 31)) 9)))), (12, .int (zI (1 + (blw (x >>> (zI 9 &&& 31)) v222)))), (11, .int (zI v199)), (10, .int (zI v168)), (9, .int (zI (blw (x >>> (zI 7 &&& 31)) (20 - v148)))), (8, .int (zI (blw (x >>> (zI 8 &&& 31)) 4))), (5, .int (zI (blw (x >>> (zI 5 &&& 31)) (t.1 3)))), (4, .int (zI (blw (x >>> (zI 6 &&& 31)) 20))), (3, .int (zI (blw (x >>> (zI 4 &&& 31)) 20))), (0, .ref (a 0)), (1, .ref (b 0)), (2, .int x)]) S.1 S.2.1 dL_act_345 hl (by decide) rfl (fun ls hl => ?_)
                            refine lv_iload S.1 S.2.1 dL_act_347 (lv_at hl 0 rfl) ?_
                            refine lv_iload S.1 S.2.1 dL_act_349 (lv_at hl 2 rfl) ?_
                            refine z_icmp_ne (tgt := 358) S dL_act_351 (by decide) (by omega) (fun h_23 => ?_) (fun h_23 => ?_)
                            · exact absurd h_23 (by omega)
                            · refine z_iconst S dL_act_354 ?_
                              refine z_goto (tgt := 359) S dL_act_355 (by decide) ?_
                              exact y_aretA (c1 := c) (t' := t) (b := b) S hr hlk rfl ⟨IC_up hI (by omega), hT, hR, (by first | rfl | exact hn3), (by first | rfl | exact congrArg (fun z : Nat => (z : Int)) (bAdd_0 _ _ _ _ _) | exact congrArg (fun z : Nat => (z : Int)) (bDel_lo (by omega) (by omega)))⟩ hP hD hB hS ⟨Nat.le_of_ble_eq_true rfl, Nat.le_of_ble_eq_true rfl⟩ dL_act_359
                        · exact absurd hok (by rw [hk3, if_neg (by omega)]; decide)
                      · refine lv_aload_n S.1 S.2.1 dL_act_304 rfl (lv_at hl 11 rfl) ?_
                        refine lv_iload S.1 S.2.1 dL_act_305 (lv_at hl 5 rfl) ?_
                        refine lv_iload S.1 S.2.1 dL_act_307 (lv_at hl 4 rfl) ?_
                        refine lv_iload_n S.1 S.2.1 dL_act_309 rfl (lv_at hl 10 rfl) ?_
                        refine lv_iload S.1 S.2.1 dL_act_310 (lv_at hl 9 rfl) ?_
                        refine lv_iload S.1 S.2.1 dL_act_312 (lv_at hl 3 rfl) ?_
                        refine lv_iload S.1 S.2.1 dL_act_314 (lv_at hl 2 rfl) ?_
                        have hf3 : inF (blw (x >>> (zI 4 &&& 31)) 20) (blw (x >>> (zI 6 &&& 31)) 20) ∧ inF v168 v199 := by omega
                        have hst1 : strt (blw (x >>> (zI 4 &&& 31)) 20) (blw (x >>> (zI 6 &&& 31)) 20) v168 v199 := (by have q1 := ab_cs (v168 - (blw (x >>> (zI 4 &&& 31)) 20)); have q2 := ab_cs (v199 - (blw (x >>> (zI 6 &&& 31)) 20)); have q3 := ab_cs ((blw (x >>> (zI 4 &&& 31)) 20) - v168); have q4 := ab_cs ((blw (x >>> (zI 6 &&& 31)) 20) - v199); omega)
                        have hst2 : strt v168 v199 (blw (x >>> (zI 4 &&& 31)) 20) (blw (x >>> (zI 6 &&& 31)) 20) := (by have q1 := ab_cs (v168 - (blw (x >>> (zI 4 &&& 31)) 20)); have q2 := ab_cs (v199 - (blw (x >>> (zI 6 &&& 31)) 20)); have q3 := ab_cs ((blw (x >>> (zI 4 &&& 31)) 20) - v168); have q4 := ab_cs ((blw (x >>> (zI 6 &&& 31)) 20) - v199); omega)
                        have hk3 := kVein_3 (c := c) (x := v168) (y := v199) (tx := (blw (x >>> (zI 4 &&& 31)) 20)) (ty := (blw (x >>> (zI 6 &&& 31)) 20)) (dp := (1 + (blw (x >>> (zI 9 &&& 31)) v222))) (fl := (1 + (blw (x >>> (zI 3 &&& 31)) 9))) (by omega) hst2 (by omega) (by omega)
                        refine y_xC (X := []) (c1 := (veinC c v168 v199 (blw (x >>> (zI 4 &&& 31)) 20) (blw (x >>> (zI 6 &&& 31)) 20) (1 + (blw (x >>> (zI 9 &&& 31)) v222)) (1 + (blw (x >>> (zI 3 &&& 31)) 9)))) (As := [.int (zI v168), .int (zI v199), .int (zI (blw (x >>> (zI 4 &&& 31)) 20)), .int (zI (blw (x >>> (zI 6 &&& 31)) 20)), .int (zI (1 + (blw (x >>> (zI 9 &&& 31)) v222))), .int (zI (1 + (blw (x >>> (zI 3 &&& 31)) 9)))]) (rest := []) S (m_X4_vein l D g a c hI hst hda v168 v199 (blw (x >>> (zI 4 &&& 31)) 20) (blw (x >>> (zI 6 &&& 31)) 20) (1 + (blw (x >>> (zI 9 &&& 31)) v222)) (1 + (blw (x >>> (zI 3 &&& 31)) 9)) (by omega) (by omega) (by omega) (by omega) (by omega) (by omega) (by omega)) ml_L_33 im_X4_vein se_X4_vein cd_X4_vein ds_X4_vein ⟨Nat.le_of_ble_eq_true rfl, Nat.le_of_ble_eq_true rfl⟩ hX hZ hP hD hAc hS rfl hl.1 rfl (Nat.le_of_ble_eq_true rfl) ⟨(Nat.le_of_ble_eq_true rfl), (Nat.le_of_ble_eq_true rfl)⟩ dL_act_316 (fun E ce q9 H locs hx hP hS hc1 hc2 hc3 => ?_) (fun hok H locs hP hD hS => ?_)
                        · rcases hx with ⟨hk, rfl⟩ | ⟨hk, rfl⟩ | ⟨hk, rfl⟩
                          · exact absurd hk (by rw [hk3]; split <;> decide)
                          · exact absurd hk (by rw [hk3]; split <;> decide)
                          · refine vx_catch (name := eS) (E := eS) S.2.2.2.1 [] ⟨299, 339, 342, 38⟩ [⟨567, 576, 579, 38⟩, ⟨773, 782, 785, 38⟩, ⟨962, 996, 997, 38⟩, ⟨1069, 1079, 1082, 38⟩] (by rw [htab]; rfl) (fun z hz => absurd hz List.not_mem_nil) (by decide) (by decide) (S.2.2.2.2 _ cl_L_38) (xw_use (XWl_x _ cx_S) (hX.2.1 _ cx_S)) hc1 hc2 hc3 ?_
                            have hP : va_P D vwCl (CW g a c ++ SW g b t) H := hP
                            have hD : va_D A (CW g a c ++ SW g b t) := hD
                            refine lv_astore (lv' := [(15, .ref q9), (7, .int (zI v277)), (14, .int (zI v256)), (13, .int (zI (1 + (blw (x >>> (zI 3 &&& 31)) 9)))), (12, .int (zI (1 + (blw (x >>> (zI 9 &&& 31)) v222)))), (11, .int (zI v199)), (10, .int (zI v168)), (9, .int (zI (blw (x >>> (zI 7 &&& 31)) (20 - v148)))), (8, .int (zI (blw (x >>> (zI 8 &&& 31)) 4))), (5, .int (zI (blw (x >>> (zI 5 &&& 31)) (t.1 3)))), (4, .int (zI (blw (x >>> (zI 6 &&& 31)) 20))), (3, .int (zI (blw (x >>> (zI 4 &&& 31)) 20))), (0, .ref (a 0)), (1, .ref (b 0)), (2, .int x)]) S.1 S.2.1 dL_act_342 hl (by decide) rfl (fun ls hl => ?_)
                            refine z_iconst S dL_act_344 ?_
                            refine lv_istore (lv' := [(6, .int (zI (-1))), (15, .ref q9), (7, .int (zI v277)), (14, .int (zI v256)), (13, .int (zI (1 + (blw (x >>> (zI 3 &&& 31)) 9)))), (12, .int (zI (1 + (blw (x >>> (zI 9 &&& 31)) v222)))), (11, .int (zI v199)), (10, .int (zI v168)), (9, .int (zI (blw (x >>> (zI 7 &&& 31)) (20 - v148)))), (8, .int (zI (blw (x >>> (zI 8 &&& 31)) 4))), (5, .int (zI (blw (x >>> (zI 5 &&& 31)) (t.1 3)))), (4, .int (zI (blw (x >>> (zI 6 &&& 31)) 20))), (3, .int (zI (blw (x >>> (zI 4 &&& 31)) 20))), (0, .ref (a 0)), (1, .ref (b 0)), (2, .int x)]) S.1 S.2.1 dL_act_345 hl (by decide) rfl (fun ls hl => ?_)
                            refine lv_iload S.1 S.2.1 dL_act_347 (lv_at hl 0 rfl) ?_
                            refine lv_iload S.1 S.2.1 dL_act_349 (lv_at hl 2 rfl) ?_
                            refine z_icmp_ne (tgt := 358) S dL_act_351 (by decide) (by omega) (fun h_24 => ?_) (fun h_24 => ?_)
                            · exact absurd h_24 (by omega)
                            · refine z_iconst S dL_act_354 ?_
                              refine z_goto (tgt := 359) S dL_act_355 (by decide) ?_
                              exact y_aretA (c1 := c) (t' := t) (b := b) S hr hlk rfl ⟨IC_up hI (by omega), hT, hR, (by first | rfl | exact hn3), (by first | rfl | exact congrArg (fun z : Nat => (z : Int)) (bAdd_0 _ _ _ _ _) | exact congrArg (fun z : Nat => (z : Int)) (bDel_lo (by omega) (by omega)))⟩ hP hD hB hS ⟨Nat.le_of_ble_eq_true rfl, Nat.le_of_ble_eq_true rfl⟩ dL_act_359
                        · exact absurd hok (by rw [hk3, if_neg (by omega)]; decide)
                    · refine lv_aload_n S.1 S.2.1 dL_act_284 rfl (lv_at hl 12 rfl) ?_
                      refine lv_iload_n S.1 S.2.1 dL_act_285 rfl (lv_at hl 10 rfl) ?_
                      refine lv_iload S.1 S.2.1 dL_act_286 (lv_at hl 9 rfl) ?_
                      refine lv_iload S.1 S.2.1 dL_act_288 (lv_at hl 5 rfl) ?_
                      refine lv_iload S.1 S.2.1 dL_act_290 (lv_at hl 4 rfl) ?_
                      refine lv_iload S.1 S.2.1 dL_act_292 (lv_at hl 3 rfl) ?_
                      refine lv_iload S.1 S.2.1 dL_act_294 (lv_at hl 2 rfl) ?_
                      refine y_sV (X := []) (PRE := CW g a c) (As := [.int (zI (blw (x >>> (zI 4 &&& 31)) 20)), .int (zI (blw (x >>> (zI 6 &&& 31)) 20)), .int (zI v168), .int (zI v199), .int (zI (1 + (blw (x >>> (zI 9 &&& 31)) v222))), .int (zI (1 + (blw (x >>> (zI 3 &&& 31)) 9)))]) (rest := []) S (m_X5_vein l D g b t hT (blw (x >>> (zI 4 &&& 31)) 20) (blw (x >>> (zI 6 &&& 31)) 20) v168 v199 (1 + (blw (x >>> (zI 9 &&& 31)) v222)) (1 + (blw (x >>> (zI 3 &&& 31)) 9)) (by omega)) hB ml_L_29 im_X5_vein se_X5_vein cd_X5_vein ds_X5_vein ⟨Nat.le_of_ble_eq_true rfl, Nat.le_of_ble_eq_true rfl⟩ hK hP hD hA hS rfl hl.1 rfl (Nat.le_of_ble_eq_true rfl) ⟨(Nat.le_of_ble_eq_true rfl), (Nat.le_of_ble_eq_true rfl)⟩ dL_act_296 (fun u296 H locs hu296 hP hD hB hS => ?_)
                      have hl : lv_has ls 16 [(7, .int (zI v277)), (14, .int (zI v256)), (13, .int (zI (1 + (blw (x >>> (zI 3 &&& 31)) 9)))), (12, .int (zI (1 + (blw (x >>> (zI 9 &&& 31)) v222)))), (11, .int (zI v199)), (10, .int (zI v168)), (9, .int (zI (blw (x >>> (zI 7 &&& 31)) (20 - v148)))), (8, .int (zI (blw (x >>> (zI 8 &&& 31)) 4))), (5, .int (zI (blw (x >>> (zI 5 &&& 31)) (t.1 3)))), (4, .int (zI (blw (x >>> (zI 6 &&& 31)) 20))), (3, .int (zI (blw (x >>> (zI 4 &&& 31)) 20))), (0, .ref (a 0)), (1, .ref (u296 0)), (2, .int x)] := by rw [hu296]; exact hl
                      have hP : va_P D vwCl (CW g a c ++ SW g u296 (sAdd t 0 (vrow (blw (x >>> (zI 4 &&& 31)) 20) (blw (x >>> (zI 6 &&& 31)) 20) v168 v199 (1 + (blw (x >>> (zI 9 &&& 31)) v222)) (1 + (blw (x >>> (zI 3 &&& 31)) 9))))) H := hP
                      have hD : va_D A (CW g a c ++ SW g u296 (sAdd t 0 (vrow (blw (x >>> (zI 4 &&& 31)) 20) (blw (x >>> (zI 6 &&& 31)) 20) v168 v199 (1 + (blw (x >>> (zI 9 &&& 31)) v222)) (1 + (blw (x >>> (zI 3 &&& 31)) 9))))) := hD
                      have hB : SB A u296 (sAdd t 0 (vrow (blw (x >>> (zI 4 &&& 31)) 20) (blw (x >>> (zI 6 &&& 31)) 20) v168 v199 (1 + (blw (x >>> (zI 9 &&& 31)) v222)) (1 + (blw (x >>> (zI 3 &&& 31)) 9)))) := hB
                      refine lv_iload S.1 S.2.1 dL_act_299 (lv_at hl 1 rfl) ?_
                      refine z_if_eq (tgt := 322) S dL_act_301 (by decide) (by omega) (fun h_25 => ?_) (fun h_25 => ?_)
                      · refine lv_aload_n S.1 S.2.1 dL_act_322 rfl (lv_at hl 11 rfl) ?_
                        refine lv_iload_n S.1 S.2.1 dL_act_323 rfl (lv_at hl 10 rfl) ?_
                        refine lv_iload S.1 S.2.1 dL_act_324 (lv_at hl 9 rfl) ?_
                        refine lv_iload S.1 S.2.1 dL_act_326 (lv_at hl 5 rfl) ?_
                        refine lv_iload S.1 S.2.1 dL_act_328 (lv_at hl 4 rfl) ?_
                        refine lv_iload S.1 S.2.1 dL_act_330 (lv_at hl 3 rfl) ?_
                        refine lv_iload S.1 S.2.1 dL_act_332 (lv_at hl 2 rfl) ?_
                        have hf3 : inF (blw (x >>> (zI 4 &&& 31)) 20) (blw (x >>> (zI 6 &&& 31)) 20) ∧ inF v168 v199 := by omega
                        have hst1 : strt (blw (x >>> (zI 4 &&& 31)) 20) (blw (x >>> (zI 6 &&& 31)) 20) v168 v199 := (by have q1 := ab_cs (v168 - (blw (x >>> (zI 4 &&& 31)) 20)); have q2 := ab_cs (v199 - (blw (x >>> (zI 6 &&& 31)) 20)); have q3 := ab_cs ((blw (x >>> (zI 4 &&& 31)) 20) - v168); have q4 := ab_cs ((blw (x >>> (zI 6 &&& 31)) 20) - v199); omega)
                        have hst2 : strt v168 v199 (blw (x >>> (zI 4 &&& 31)) 20) (blw (x >>> (zI 6 &&& 31)) 20) := (by have q1 := ab_cs (v168 - (blw (x >>> (zI 4 &&& 31)) 20)); have q2 := ab_cs (v199 - (blw (x >>> (zI 6 &&& 31)) 20)); have q3 := ab_cs ((blw (x >>> (zI 4 &&& 31)) 20) - v168); have q4 := ab_cs ((blw (x >>> (zI 6 &&& 31)) 20) - v199); omega)
                        have hk3 := kVein_3 (c := c) (x := (blw (x >>> (zI 4 &&& 31)) 20)) (y := (blw (x >>> (zI 6 &&& 31)) 20)) (tx := v168) (ty := v199) (dp := (1 + (blw (x >>> (zI 9 &&& 31)) v222))) (fl := (1 + (blw (x >>> (zI 3 &&& 31)) 9))) (by omega) hst1 (by omega) (by omega)
                        refine y_xC (X := []) (c1 := (veinC c (blw (x >>> (zI 4 &&& 31)) 20) (blw (x >>> (zI 6 &&& 31)) 20) v168 v199 (1 + (blw (x >>> (zI 9 &&& 31)) v222)) (1 + (blw (x >>> (zI 3 &&& 31)) 9)))) (As := [.int (zI (blw (x >>> (zI 4 &&& 31)) 20)), .int (zI (blw (x >>> (zI 6 &&& 31)) 20)), .int (zI v168), .int (zI v199), .int (zI (1 + (blw (x >>> (zI 9 &&& 31)) v222))), .int (zI (1 + (blw (x >>> (zI 3 &&& 31)) 9)))]) (rest := []) S (m_X4_vein l D g a c hI hst hda (blw (x >>> (zI 4 &&& 31)) 20) (blw (x >>> (zI 6 &&& 31)) 20) v168 v199 (1 + (blw (x >>> (zI 9 &&& 31)) v222)) (1 + (blw (x >>> (zI 3 &&& 31)) 9)) (by omega) (by omega) (by omega) (by omega) (by omega) (by omega) (by omega)) ml_L_33 im_X4_vein se_X4_vein cd_X4_vein ds_X4_vein ⟨Nat.le_of_ble_eq_true rfl, Nat.le_of_ble_eq_true rfl⟩ hX hZ hP hD hAc hS rfl hl.1 rfl (Nat.le_of_ble_eq_true rfl) ⟨(Nat.le_of_ble_eq_true rfl), (Nat.le_of_ble_eq_true rfl)⟩ dL_act_334 (fun E ce q9 H locs hx hP hS hc1 hc2 hc3 => ?_) (fun hok H locs hP hD hS => ?_)
                        · rcases hx with ⟨hk, rfl⟩ | ⟨hk, rfl⟩ | ⟨hk, rfl⟩
                          · exact absurd hk (by rw [hk3]; split <;> decide)
                          · exact absurd hk (by rw [hk3]; split <;> decide)
                          · exact absurd hk (by rw [hk3, if_pos (by omega)]; decide)
                        · have hP : va_P D vwCl (CW g a (veinC c (blw (x >>> (zI 4 &&& 31)) 20) (blw (x >>> (zI 6 &&& 31)) 20) v168 v199 (1 + (blw (x >>> (zI 9 &&& 31)) v222)) (1 + (blw (x >>> (zI 3 &&& 31)) 9))) ++ SW g u296 (sAdd t 0 (vrow (blw (x >>> (zI 4 &&& 31)) 20) (blw (x >>> (zI 6 &&& 31)) 20) v168 v199 (1 + (blw (x >>> (zI 9 &&& 31)) v222)) (1 + (blw (x >>> (zI 3 &&& 31)) 9))))) H := hP
                          have hD : va_D A (CW g a (veinC c (blw (x >>> (zI 4 &&& 31)) 20) (blw (x >>> (zI 6 &&& 31)) 20) v168 v199 (1 + (blw (x >>> (zI 9 &&& 31)) v222)) (1 + (blw (x >>> (zI 3 &&& 31)) 9))) ++ SW g u296 (sAdd t 0 (vrow (blw (x >>> (zI 4 &&& 31)) 20) (blw (x >>> (zI 6 &&& 31)) 20) v168 v199 (1 + (blw (x >>> (zI 9 &&& 31)) v222)) (1 + (blw (x >>> (zI 3 &&& 31)) 9))))) := hD
                          have hIv := IC_vein hI (by omega) (x := (blw (x >>> (zI 4 &&& 31)) 20)) (y := (blw (x >>> (zI 6 &&& 31)) 20)) (tx := v168) (ty := v199) (dp := (1 + (blw (x >>> (zI 9 &&& 31)) v222))) (fl := (1 + (blw (x >>> (zI 3 &&& 31)) 9))) (by omega) (by omega) (by omega) (by omega)
                          have hTv := IT_vein hT (x := (blw (x >>> (zI 4 &&& 31)) 20)) (y := (blw (x >>> (zI 6 &&& 31)) 20)) (tx := v168) (ty := v199) (dp := (1 + (blw (x >>> (zI 9 &&& 31)) v222))) (fl := (1 + (blw (x >>> (zI 3 &&& 31)) 9))) (by omega) (by omega) (by omega) (by omega)
                          have hRv := R_vein hR hI hT (x := (blw (x >>> (zI 4 &&& 31)) 20)) (y := (blw (x >>> (zI 6 &&& 31)) 20)) (tx := v168) (ty := v199) (dp := (1 + (blw (x >>> (zI 9 &&& 31)) v222))) (fl := (1 + (blw (x >>> (zI 3 &&& 31)) 9))) (by omega) hf3 hst1 (by omega) (by omega)
                          refine lv_istore (lv' := [(6, .int (zI (c.1 2))), (7, .int (zI v277)), (14, .int (zI v256)), (13, .int (zI (1 + (blw (x >>> (zI 3 &&& 31)) 9)))), (12, .int (zI (1 + (blw (x >>> (zI 9 &&& 31)) v222)))), (11, .int (zI v199)), (10, .int (zI v168)), (9, .int (zI (blw (x >>> (zI 7 &&& 31)) (20 - v148)))), (8, .int (zI (blw (x >>> (zI 8 &&& 31)) 4))), (5, .int (zI (blw (x >>> (zI 5 &&& 31)) (t.1 3)))), (4, .int (zI (blw (x >>> (zI 6 &&& 31)) 20))), (3, .int (zI (blw (x >>> (zI 4 &&& 31)) 20))), (0, .ref (a 0)), (1, .ref (u296 0)), (2, .int x)]) S.1 S.2.1 dL_act_337 hl (by decide) rfl (fun ls hl => ?_)
                          refine z_goto (tgt := 347) S dL_act_339 (by decide) ?_
                          refine lv_iload S.1 S.2.1 dL_act_347 (lv_at hl 0 rfl) ?_
                          refine lv_iload S.1 S.2.1 dL_act_349 (lv_at hl 1 rfl) ?_
                          refine z_icmp_ne (tgt := 358) S dL_act_351 (by decide) (by omega) (fun h_26 => ?_) (fun h_26 => ?_)
                          · exact absurd h_26 (by omega)
                          · refine z_iconst S dL_act_354 ?_
                            refine z_goto (tgt := 359) S dL_act_355 (by decide) ?_
                            exact y_aretA (c1 := (veinC c (blw (x >>> (zI 4 &&& 31)) 20) (blw (x >>> (zI 6 &&& 31)) 20) v168 v199 (1 + (blw (x >>> (zI 9 &&& 31)) v222)) (1 + (blw (x >>> (zI 3 &&& 31)) 9)))) (t' := (sAdd t 0 (vrow (blw (x >>> (zI 4 &&& 31)) 20) (blw (x >>> (zI 6 &&& 31)) 20) v168 v199 (1 + (blw (x >>> (zI 9 &&& 31)) v222)) (1 + (blw (x >>> (zI 3 &&& 31)) 9))))) (b := u296) S hr hlk rfl ⟨hIv, hTv, hRv, (by first | rfl | exact hn3), (by first | rfl | exact congrArg (fun z : Nat => (z : Int)) (bAdd_0 _ _ _ _ _) | exact congrArg (fun z : Nat => (z : Int)) (bDel_lo (by omega) (by omega)) | exact congrArg (fun z : Nat => (z : Int)) hu296)⟩ hP hD hB hS ⟨Nat.le_of_ble_eq_true rfl, Nat.le_of_ble_eq_true rfl⟩ dL_act_359
                      · refine lv_aload_n S.1 S.2.1 dL_act_304 rfl (lv_at hl 11 rfl) ?_
                        refine lv_iload S.1 S.2.1 dL_act_305 (lv_at hl 5 rfl) ?_
                        refine lv_iload S.1 S.2.1 dL_act_307 (lv_at hl 4 rfl) ?_
                        refine lv_iload_n S.1 S.2.1 dL_act_309 rfl (lv_at hl 10 rfl) ?_
                        refine lv_iload S.1 S.2.1 dL_act_310 (lv_at hl 9 rfl) ?_
                        refine lv_iload S.1 S.2.1 dL_act_312 (lv_at hl 3 rfl) ?_
                        refine lv_iload S.1 S.2.1 dL_act_314 (lv_at hl 2 rfl) ?_
                        have hf3 : inF (blw (x >>> (zI 4 &&& 31)) 20) (blw (x >>> (zI 6 &&& 31)) 20) ∧ inF v168 v199 := by omega
                        have hst1 : strt (blw (x >>> (zI 4 &&& 31)) 20) (blw (x >>> (zI 6 &&& 31)) 20) v168 v199 := (by have q1 := ab_cs (v168 - (blw (x >>> (zI 4 &&& 31)) 20)); have q2 := ab_cs (v199 - (blw (x >>> (zI 6 &&& 31)) 20)); have q3 := ab_cs ((blw (x >>> (zI 4 &&& 31)) 20) - v168); have q4 := ab_cs ((blw (x >>> (zI 6 &&& 31)) 20) - v199); omega)
                        have hst2 : strt v168 v199 (blw (x >>> (zI 4 &&& 31)) 20) (blw (x >>> (zI 6 &&& 31)) 20) := (by have q1 := ab_cs (v168 - (blw (x >>> (zI 4 &&& 31)) 20)); have q2 := ab_cs (v199 - (blw (x >>> (zI 6 &&& 31)) 20)); have q3 := ab_cs ((blw (x >>> (zI 4 &&& 31)) 20) - v168); have q4 := ab_cs ((blw (x >>> (zI 6 &&& 31)) 20) - v199); omega)
                        have hk3 := kVein_3 (c := c) (x := v168) (y := v199) (tx := (blw (x >>> (zI 4 &&& 31)) 20)) (ty := (blw (x >>> (zI 6 &&& 31)) 20)) (dp := (1 + (blw (x >>> (zI 9 &&& 31)) v222))) (fl := (1 + (blw (x >>> (zI 3 &&& 31)) 9))) (by omega) hst2 (by omega) (by omega)
                        refine y_xC (X := []) (c1 := (veinC c v168 v199 (blw (x >>> (zI 4 &&& 31)) 20) (blw (x >>> (zI 6 &&& 31)) 20) (1 + (blw (x >>> (zI 9 &&& 31)) v222)) (1 + (blw (x >>> (zI 3 &&& 31)) 9)))) (As := [.int (zI v168), .int (zI v199), .int (zI (blw (x >>> (zI 4 &&& 31)) 20)), .int (zI (blw (x >>> (zI 6 &&& 31)) 20)), .int (zI (1 + (blw (x >>> (zI 9 &&& 31)) v222))), .int (zI (1 + (blw (x >>> (zI 3 &&& 31)) 9)))]) (rest := []) S (m_X4_vein l D g a c hI hst hda v168 v199 (blw (x >>> (zI 4 &&& 31)) 20) (blw (x >>> (zI 6 &&& 31)) 20) (1 + (blw (x >>> (zI 9 &&& 31)) v222)) (1 + (blw (x >>> (zI 3 &&& 31)) 9)) (by omega) (by omega) (by omega) (by omega) (by omega) (by omega) (by omega)) ml_L_33 im_X4_vein se_X4_vein cd_X4_vein ds_X4_vein ⟨Nat.le_of_ble_eq_true rfl, Nat.le_of_ble_eq_true rfl⟩ hX hZ hP hD hAc hS rfl hl.1 rfl (Nat.le_of_ble_eq_true rfl) ⟨(Nat.le_of_ble_eq_true rfl), (Nat.le_of_ble_eq_true rfl)⟩ dL_act_316 (fun E ce q9 H locs hx hP hS hc1 hc2 hc3 => ?_) (fun hok H locs hP hD hS => ?_)
                        · rcases hx with ⟨hk, rfl⟩ | ⟨hk, rfl⟩ | ⟨hk, rfl⟩
                          · exact absurd hk (by rw [hk3]; split <;> decide)
                          · exact absurd hk (by rw [hk3]; split <;> decide)
                          · exact absurd hk (by rw [hk3, if_pos (by omega)]; decide)
                        · have hP : va_P D vwCl (CW g a (veinC c v168 v199 (blw (x >>> (zI 4 &&& 31)) 20) (blw (x >>> (zI 6 &&& 31)) 20) (1 + (blw (x >>> (zI 9 &&& 31)) v222)) (1 + (blw (x >>> (zI 3 &&& 31)) 9))) ++ SW g u296 (sAdd t 0 (vrow (blw (x >>> (zI 4 &&& 31)) 20) (blw (x >>> (zI 6 &&& 31)) 20) v168 v199 (1 + (blw (x >>> (zI 9 &&& 31)) v222)) (1 + (blw (x >>> (zI 3 &&& 31)) 9))))) H := hP
                          have hD : va_D A (CW g a (veinC c v168 v199 (blw (x >>> (zI 4 &&& 31)) 20) (blw (x >>> (zI 6 &&& 31)) 20) (1 + (blw (x >>> (zI 9 &&& 31)) v222)) (1 + (blw (x >>> (zI 3 &&& 31)) 9))) ++ SW g u296 (sAdd t 0 (vrow (blw (x >>> (zI 4 &&& 31)) 20) (blw (x >>> (zI 6 &&& 31)) 20) v168 v199 (1 + (blw (x >>> (zI 9 &&& 31)) v222)) (1 + (blw (x >>> (zI 3 &&& 31)) 9))))) := hD
                          have hIv := IC_vein hI (by omega) (x := v168) (y := v199) (tx := (blw (x >>> (zI 4 &&& 31)) 20)) (ty := (blw (x >>> (zI 6 &&& 31)) 20)) (dp := (1 + (blw (x >>> (zI 9 &&& 31)) v222))) (fl := (1 + (blw (x >>> (zI 3 &&& 31)) 9))) (by omega) (by omega) (by omega) (by omega)
                          have hTv := IT_vein hT (x := (blw (x >>> (zI 4 &&& 31)) 20)) (y := (blw (x >>> (zI 6 &&& 31)) 20)) (tx := v168) (ty := v199) (dp := (1 + (blw (x >>> (zI 9 &&& 31)) v222))) (fl := (1 + (blw (x >>> (zI 3 &&& 31)) 9))) (by omega) (by omega) (by omega) (by omega)
                          have hRv := R_vein2 hR hI hT (x := (blw (x >>> (zI 4 &&& 31)) 20)) (y := (blw (x >>> (zI 6 &&& 31)) 20)) (tx := v168) (ty := v199) (dp := (1 + (blw (x >>> (zI 9 &&& 31)) v222))) (fl := (1 + (blw (x >>> (zI 3 &&& 31)) 9))) (by omega) hf3 hst1 (by omega) (by omega)
                          refine z_goto (tgt := 337) S dL_act_319 (by decide) ?_
                          refine lv_istore (lv' := [(6, .int (zI (c.1 2))), (7, .int (zI v277)), (14, .int (zI v256)), (13, .int (zI (1 + (blw (x >>> (zI 3 &&& 31)) 9)))), (12, .int (zI (1 + (blw (x >>> (zI 9 &&& 31)) v222)))), (11, .int (zI v199)), (10, .int (zI v168)), (9, .int (zI (blw (x >>> (zI 7 &&& 31)) (20 - v148)))), (8, .int (zI (blw (x >>> (zI 8 &&& 31)) 4))), (5, .int (zI (blw (x >>> (zI 5 &&& 31)) (t.1 3)))), (4, .int (zI (blw (x >>> (zI 6 &&& 31)) 20))), (3, .int (zI (blw (x >>> (zI 4 &&& 31)) 20))), (0, .ref (a 0)), (1, .ref (u296 0)), (2, .int x)]) S.1 S.2.1 dL_act_337 hl (by decide) rfl (fun ls hl => ?_)
                          refine z_goto (tgt := 347) S dL_act_339 (by decide) ?_
                          refine lv_iload S.1 S.2.1 dL_act_347 (lv_at hl 0 rfl) ?_
                          refine lv_iload S.1 S.2.1 dL_act_349 (lv_at hl 1 rfl) ?_
                          refine z_icmp_ne (tgt := 358) S dL_act_351 (by decide) (by omega) (fun h_27 => ?_) (fun h_27 => ?_)
                          · exact absurd h_27 (by omega)
                          · refine z_iconst S dL_act_354 ?_
                            refine z_goto (tgt := 359) S dL_act_355 (by decide) ?_
                            exact y_aretA (c1 := (veinC c v168 v199 (blw (x >>> (zI 4 &&& 31)) 20) (blw (x >>> (zI 6 &&& 31)) 20) (1 + (blw (x >>> (zI 9 &&& 31)) v222)) (1 + (blw (x >>> (zI 3 &&& 31)) 9)))) (t' := (sAdd t 0 (vrow (blw (x >>> (zI 4 &&& 31)) 20) (blw (x >>> (zI 6 &&& 31)) 20) v168 v199 (1 + (blw (x >>> (zI 9 &&& 31)) v222)) (1 + (blw (x >>> (zI 3 &&& 31)) 9))))) (b := u296) S hr hlk rfl ⟨hIv, hTv, hRv, (by first | rfl | exact hn3), (by first | rfl | exact congrArg (fun z : Nat => (z : Int)) (bAdd_0 _ _ _ _ _) | exact congrArg (fun z : Nat => (z : Int)) (bDel_lo (by omega) (by omega)) | exact congrArg (fun z : Nat => (z : Int)) hu296)⟩ hP hD hB hS ⟨Nat.le_of_ble_eq_true rfl, Nat.le_of_ble_eq_true rfl⟩ dL_act_359
      · refine z_tabIn (off := 321) (tgt := 360) S 1 h_5 (by decide) dL_act_39 (by decide) (by decide) rfl (by decide) ?_
        refine lv_aload_n S.1 S.2.1 dL_act_360 rfl (lv_at hl 4 rfl) ?_
        refine z_get (v := .int (zI (t.1 0))) S inA5 hK hP 21 rfl rfl 0 (by decide) fl_L_40 rfl dL_act_361 ?_
        refine lv_istore (lv' := [(7, .int (zI (t.1 0))), (5, .int (zI (blw (x >>> (zI 5 &&& 31)) (t.1 3)))), (4, .int (zI (blw (x >>> (zI 6 &&& 31)) 20))), (3, .int (zI (blw (x >>> (zI 4 &&& 31)) 20))), (0, .ref (a 0)), (1, .ref (b 0)), (2, .int x)]) S.1 S.2.1 dL_act_364 hl (by decide) rfl (fun ls hl => ?_)
        refine lv_aload_n S.1 S.2.1 dL_act_366 rfl (lv_at hl 5 rfl) ?_
        refine z_iconst S dL_act_367 ?_
        refine lv_iload_n S.1 S.2.1 dL_act_368 rfl (lv_at hl 6 rfl) ?_
        refine z_bipush S (by decide) dL_act_369 ?_
        refine lv_ishr S.1 S.2.1 dL_act_371 ?_
        refine y_joinV (nL := 16) (fun v => v = 30 ∨ v = 8) 390 (lv := [(7, .int (zI (t.1 0))), (5, .int (zI (blw (x >>> (zI 5 &&& 31)) (t.1 3)))), (4, .int (zI (blw (x >>> (zI 6 &&& 31)) 20))), (3, .int (zI (blw (x >>> (zI 4 &&& 31)) 20))), (0, .ref (a 0)), (1, .ref (b 0)), (2, .int x)]) [.int (x >>> (zI 6 &&& 31)), .int (zI 1), .ref (b 0)] (fun J390 => ?_) (fun v390 hv390 ls hl => ?_)
        · refine lv_iload_n S.1 S.2.1 dL_act_372 rfl (lv_at hl 6 rfl) ?_
          refine z_bipush S (by decide) dL_act_373 ?_
          refine lv_ishr S.1 S.2.1 dL_act_375 ?_
          refine z_iconst S dL_act_376 ?_
          refine z_rS (As := [.int (x >>> (zI 8 &&& 31)), .int (zI 3)]) (rest := [.int (x >>> (zI 6 &&& 31)), .int (zI 1), .ref (b 0)]) S (m_L_below l D g (x >>> (zI 8 &&& 31)) 3 (by omega)) ml_L_9 sm_L_below ini_L cd_L_below ds_L_below ⟨Nat.le_of_ble_eq_true rfl, Nat.le_of_ble_eq_true rfl⟩ hK va_P_nil rfl hl.1 rfl (Nat.le_of_ble_eq_true rfl) ⟨Nat.le_of_ble_eq_true rfl, Nat.le_of_ble_eq_true rfl⟩ dL_act_377 ?_
          have hb_28 := blw_b (x >>> (zI 8 &&& 31)) 3 (by omega)
          refine z_if_ne (tgt := 388) S dL_act_380 (by decide) (by omega) (fun h_29 => ?_) (fun h_29 => ?_)
          · refine z_bipush S (by decide) dL_act_388 ?_
            exact J390 8 (by omega) ls hl
          · refine z_bipush S (by decide) dL_act_383 ?_
            refine z_goto (tgt := 390) S dL_act_385 (by decide) ?_
            exact J390 30 (by omega) ls hl
        · have hl : lv_has ls 16 [(7, .int (zI (t.1 0))), (5, .int (zI (blw (x >>> (zI 5 &&& 31)) (t.1 3)))), (4, .int (zI (blw (x >>> (zI 6 &&& 31)) 20))), (3, .int (zI (blw (x >>> (zI 4 &&& 31)) 20))), (0, .ref (a 0)), (1, .ref (b 0)), (2, .int x)] := hl
          have hv390 : v390 = 30 ∨ v390 = 8 := hv390
          refine z_rS (As := [.int (x >>> (zI 6 &&& 31)), .int (zI v390)]) (rest := [.int (zI 1), .ref (b 0)]) S (m_L_below l D g (x >>> (zI 6 &&& 31)) v390 (by omega)) ml_L_9 sm_L_below ini_L cd_L_below ds_L_below ⟨Nat.le_of_ble_eq_true rfl, Nat.le_of_ble_eq_true rfl⟩ hK va_P_nil rfl hl.1 rfl (Nat.le_of_ble_eq_true rfl) ⟨Nat.le_of_ble_eq_true rfl, Nat.le_of_ble_eq_true rfl⟩ dL_act_390 ?_
          have hb_30 := blw_b (x >>> (zI 6 &&& 31)) v390 (by omega)
          refine z_iadd S dL_act_393 ?_
          refine y_puti S hK hP hD hS 21 rfl 0 (by decide) fl_L_40 rfl (by decide +kernel) (Nat.le_of_ble_eq_true rfl) dL_act_394 (fun H locs hP hD hS => ?_)
          have hP : va_P D vwCl (CW g a c ++ SW g b (tS t 0 (1 + (blw (x >>> (zI 6 &&& 31)) v390)))) H := hP
          have hD : va_D A (CW g a c ++ SW g b (tS t 0 (1 + (blw (x >>> (zI 6 &&& 31)) v390)))) := hD
          have hB : SB A b (tS t 0 (1 + (blw (x >>> (zI 6 &&& 31)) v390))) := hB.cnt ⟨rfl, rfl, rfl, rfl⟩
          refine lv_aload_n S.1 S.2.1 dL_act_397 rfl (lv_at hl 4 rfl) ?_
          refine lv_aload_n S.1 S.2.1 dL_act_398 rfl (lv_at hl 5 rfl) ?_
          refine z_get (v := .int (zI (1 + (blw (x >>> (zI 6 &&& 31)) v390)))) S inA5 hK hP 21 rfl rfl 0 (by decide) fl_L_40 rfl dL_act_399 ?_
          refine y_wC (X := []) (c1 := (sS c 0 (1 + (blw (x >>> (zI 6 &&& 31)) v390)))) (As := [.int (zI (1 + (blw (x >>> (zI 6 &&& 31)) v390)))]) (rest := []) S (r_X4_setMark l D g a c hI hda (1 + (blw (x >>> (zI 6 &&& 31)) v390)) (by omega)) ml_L_44 im_X4_setMark se_X4_setMark cd_X4_setMark ds_X4_setMark ⟨Nat.le_of_ble_eq_true rfl, Nat.le_of_ble_eq_true rfl⟩ hK hP hD hAc hS rfl hl.1 rfl (Nat.le_of_ble_eq_true rfl) ⟨Nat.le_of_ble_eq_true rfl, Nat.le_of_ble_eq_true rfl⟩ dL_act_402 (fun H locs hP hD hS => ?_)
          have hP : va_P D vwCl (CW g a (sS c 0 (1 + (blw (x >>> (zI 6 &&& 31)) v390))) ++ SW g b (tS t 0 (1 + (blw (x >>> (zI 6 &&& 31)) v390)))) H := hP
          have hD : va_D A (CW g a (sS c 0 (1 + (blw (x >>> (zI 6 &&& 31)) v390))) ++ SW g b (tS t 0 (1 + (blw (x >>> (zI 6 &&& 31)) v390)))) := hD
          have hIv := IC_up (IC_mark hI (mk := (1 + (blw (x >>> (zI 6 &&& 31)) v390))) (by show 1 ≤ _ ∧ _ ≤ 30; omega)) (show B ≤ B + 100000 ∧ B + 100000 ≤ 1000000000 by omega)
          have hTv := IT_mark hT (mk := (1 + (blw (x >>> (zI 6 &&& 31)) v390))) (by show 1 ≤ _ ∧ _ ≤ 30; omega)
          have hRv := R_mark hR (mk := (1 + (blw (x >>> (zI 6 &&& 31)) v390)))
          refine lv_iload S.1 S.2.1 dL_act_405 (lv_at hl 0 rfl) ?_
          refine z_icmp_ne (tgt := 414) S dL_act_407 (by decide) (by omega) (fun h_31 => ?_) (fun h_31 => ?_)
          · exact absurd h_31 (by omega)
          · refine z_iconst S dL_act_410 ?_
            refine z_goto (tgt := 415) S dL_act_411 (by decide) ?_
            exact y_aretA (c1 := (sS c 0 (1 + (blw (x >>> (zI 6 &&& 31)) v390)))) (t' := (tS t 0 (1 + (blw (x >>> (zI 6 &&& 31)) v390)))) (b := b) S hr hlk rfl ⟨hIv, hTv, hRv, (by first | rfl | exact hn3), (by first | rfl | exact congrArg (fun z : Nat => (z : Int)) (bAdd_0 _ _ _ _ _) | exact congrArg (fun z : Nat => (z : Int)) (bDel_lo (by omega) (by omega)))⟩ hP hD hB hS ⟨Nat.le_of_ble_eq_true rfl, Nat.le_of_ble_eq_true rfl⟩ dL_act_415
      · refine z_tabIn (off := 377) (tgt := 416) S 2 h_5 (by decide) dL_act_39 (by decide) (by decide) rfl (by decide) ?_
        exact J416 ls hl
      · refine z_tabIn (off := 377) (tgt := 416) S 3 h_5 (by decide) dL_act_39 (by decide) (by decide) rfl (by decide) ?_
        exact J416 ls hl
      · refine z_tabIn (off := 377) (tgt := 416) S 4 h_5 (by decide) dL_act_39 (by decide) (by decide) rfl (by decide) ?_
        exact J416 ls hl
      · refine z_tabIn (off := 433) (tgt := 472) S 5 h_5 (by decide) dL_act_39 (by decide) (by decide) rfl (by decide) ?_
        refine y_joinL (nL := 16) (fun v w => (0 ≤ v ∧ v ≤ 19) ∧ 0 ≤ w ∧ w ≤ 19) 520 (lv := fun v w => [(5, .int (zI (blw (x >>> (zI 5 &&& 31)) (t.1 3)))), (4, .int (zI w)), (3, .int (zI v)), (0, .ref (a 0)), (1, .ref (b 0)), (2, .int x)]) (fun J520 => ?_) (fun v520 w520 hv520 ls hl => ?_)
        · refine lv_aload_n S.1 S.2.1 dL_act_472 rfl (lv_at hl 4 rfl) ?_
          refine z_get (v := .ref (b 3)) S inA5 hK hP 21 rfl rfl 4 (by decide) fl_L_53 rfl dL_act_473 ?_
          refine y_alen S hK hP 24 rfl (v := t.1 4) (by show (((t.1 4).toNat : Nat) : Int) = _; omega) dL_act_476 ?_
          refine z_if_le (tgt := 520) S dL_act_477 (by decide) (by omega) (fun h_32 => ?_) (fun h_32 => ?_)
          · exact J520 (blw (x >>> (zI 4 &&& 31)) 20) (blw (x >>> (zI 6 &&& 31)) 20) (by omega) ls hl
          · refine lv_iload_n S.1 S.2.1 dL_act_480 rfl (lv_at hl 5 rfl) ?_
            refine z_bipush S (by decide) dL_act_481 ?_
            refine lv_ishr S.1 S.2.1 dL_act_483 ?_
            refine z_iconst S dL_act_484 ?_
            refine z_rS (As := [.int (x >>> (zI 8 &&& 31)), .int (zI 4)]) (rest := []) S (m_L_below l D g (x >>> (zI 8 &&& 31)) 4 (by omega)) ml_L_9 sm_L_below ini_L cd_L_below ds_L_below ⟨Nat.le_of_ble_eq_true rfl, Nat.le_of_ble_eq_true rfl⟩ hK va_P_nil rfl hl.1 rfl (Nat.le_of_ble_eq_true rfl) ⟨Nat.le_of_ble_eq_true rfl, Nat.le_of_ble_eq_true rfl⟩ dL_act_485 ?_
            have hb_33 := blw_b (x >>> (zI 8 &&& 31)) 4 (by omega)
            refine z_if_le (tgt := 520) S dL_act_488 (by decide) (by omega) (fun h_34 => ?_) (fun h_34 => ?_)
            · exact J520 (blw (x >>> (zI 4 &&& 31)) 20) (blw (x >>> (zI 6 &&& 31)) 20) (by omega) ls hl
            · refine lv_aload_n S.1 S.2.1 dL_act_491 rfl (lv_at hl 4 rfl) ?_
              refine z_get (v := .ref (b 3)) S inA5 hK hP 21 rfl rfl 4 (by decide) fl_L_53 rfl dL_act_492 ?_
              refine lv_iload_n S.1 S.2.1 dL_act_495 rfl (lv_at hl 5 rfl) ?_
              refine z_iconst S dL_act_496 ?_
              refine lv_ishr S.1 S.2.1 dL_act_497 ?_
              refine lv_aload_n S.1 S.2.1 dL_act_498 rfl (lv_at hl 4 rfl) ?_
              refine z_get (v := .ref (b 3)) S inA5 hK hP 21 rfl rfl 4 (by decide) fl_L_53 rfl dL_act_499 ?_
              refine y_alen S hK hP 24 rfl (v := t.1 4) (by show (((t.1 4).toNat : Nat) : Int) = _; omega) dL_act_502 ?_
              refine z_rS (As := [.int (x >>> (zI 4 &&& 31)), .int (zI (t.1 4))]) (rest := [.ref (b 3)]) S (m_L_below l D g (x >>> (zI 4 &&& 31)) (t.1 4) (by omega)) ml_L_9 sm_L_below ini_L cd_L_below ds_L_below ⟨Nat.le_of_ble_eq_true rfl, Nat.le_of_ble_eq_true rfl⟩ hK va_P_nil rfl hl.1 rfl (Nat.le_of_ble_eq_true rfl) ⟨Nat.le_of_ble_eq_true rfl, Nat.le_of_ble_eq_true rfl⟩ dL_act_503 ?_
              have hb_35 := blw_b (x >>> (zI 4 &&& 31)) (t.1 4) (by omega)
              refine y_ald2 S hK hP 24 rfl (Nat.le_refl _) (by show (t.1 4).toNat < _; omega) (by show _ ∧ _ < (((t.1 4).toNat : Nat) : Int); omega) dL_act_506 ?_
              have hb_36 := hT.p (i := blw (x >>> (zI 4 &&& 31)) (t.1 4)) (by omega)
              refine lv_astore (lv' := [(8, .ref (rd b 2 (blw (x >>> (zI 4 &&& 31)) (t.1 4)).toNat)), (5, .int (zI (blw (x >>> (zI 5 &&& 31)) (t.1 3)))), (4, .int (zI (blw (x >>> (zI 6 &&& 31)) 20))), (3, .int (zI (blw (x >>> (zI 4 &&& 31)) 20))), (0, .ref (a 0)), (1, .ref (b 0)), (2, .int x)]) S.1 S.2.1 dL_act_507 hl (by decide) rfl (fun ls hl => ?_)
              refine lv_aload S.1 S.2.1 dL_act_509 (lv_at hl 0 rfl) ?_
              refine z_iconst S dL_act_511 ?_
              refine z_iald (F := t.2 2 (blw (x >>> (zI 4 &&& 31)) (t.1 4))) S hK hP (21 + (5 + (sn t 0 + (sn t 1 + (blw (x >>> (zI 4 &&& 31)) (t.1 4)).toNat)))) ((ap_at1 (a := CW g a c) rfl).trans (SW_r2 (b := b) (t := t) (i := blw (x >>> (zI 4 &&& 31)) (t.1 4)) (by show _ ∧ _ < t.1 4; omega))) (by decide) (by omega) dL_act_512 ?_
              refine lv_istore_n (lv' := [(3, .int (zI (t.2 2 (blw (x >>> (zI 4 &&& 31)) (t.1 4)) 0))), (8, .ref (rd b 2 (blw (x >>> (zI 4 &&& 31)) (t.1 4)).toNat)), (5, .int (zI (blw (x >>> (zI 5 &&& 31)) (t.1 3)))), (4, .int (zI (blw (x >>> (zI 6 &&& 31)) 20))), (0, .ref (a 0)), (1, .ref (b 0)), (2, .int x)]) S.1 S.2.1 dL_act_513 rfl hl (by decide) rfl (fun ls hl => ?_)
              refine lv_aload S.1 S.2.1 dL_act_514 (lv_at hl 1 rfl) ?_
              refine z_iconst S dL_act_516 ?_
              refine z_iald (F := t.2 2 (blw (x >>> (zI 4 &&& 31)) (t.1 4))) S hK hP (21 + (5 + (sn t 0 + (sn t 1 + (blw (x >>> (zI 4 &&& 31)) (t.1 4)).toNat)))) ((ap_at1 (a := CW g a c) rfl).trans (SW_r2 (b := b) (t := t) (i := blw (x >>> (zI 4 &&& 31)) (t.1 4)) (by show _ ∧ _ < t.1 4; omega))) (by decide) (by omega) dL_act_517 ?_
              refine lv_istore (lv' := [(4, .int (zI (t.2 2 (blw (x >>> (zI 4 &&& 31)) (t.1 4)) 1))), (3, .int (zI (t.2 2 (blw (x >>> (zI 4 &&& 31)) (t.1 4)) 0))), (8, .ref (rd b 2 (blw (x >>> (zI 4 &&& 31)) (t.1 4)).toNat)), (5, .int (zI (blw (x >>> (zI 5 &&& 31)) (t.1 3)))), (0, .ref (a 0)), (1, .ref (b 0)), (2, .int x)]) S.1 S.2.1 dL_act_518 hl (by decide) rfl (fun ls hl => ?_)
              exact J520 (t.2 2 (blw (x >>> (zI 4 &&& 31)) (t.1 4)) 0) (t.2 2 (blw (x >>> (zI 4 &&& 31)) (t.1 4)) 1) (by omega) ls (lv_sub hl [3, 0, 1, 4, 5, 6] rfl)
        · have hl : lv_has ls 16 [(5, .int (zI (blw (x >>> (zI 5 &&& 31)) (t.1 3)))), (4, .int (zI w520)), (3, .int (zI v520)), (0, .ref (a 0)), (1, .ref (b 0)), (2, .int x)] := hl
          have hv520 : (0 ≤ v520 ∧ v520 ≤ 19) ∧ 0 ≤ w520 ∧ w520 ≤ 19 := hv520
          have hpa := sPA_b hT v520 w520
          refine lv_aload_n S.1 S.2.1 dL_act_520 rfl (lv_at hl 4 rfl) ?_
          refine lv_iload_n S.1 S.2.1 dL_act_521 rfl (lv_at hl 2 rfl) ?_
          refine lv_iload S.1 S.2.1 dL_act_522 (lv_at hl 1 rfl) ?_
          refine z_rV (As := [.int (zI v520), .int (zI w520)]) (rest := []) S (m_X5_pegAt l D g b t hT v520 w520 (by omega)) ml_L_56 im_X5_pegAt se_X5_pegAt ini_X5 cd_X5_pegAt ds_X5_pegAt ⟨Nat.le_of_ble_eq_true rfl, Nat.le_of_ble_eq_true rfl⟩ hK (va_P_r hP) (va_recv hK.1 (va_P_r hP) (ci := 5) (q0 := 0) rfl rfl) rfl hl.1 rfl (Nat.le_of_ble_eq_true rfl) ⟨Nat.le_of_ble_eq_true rfl, Nat.le_of_ble_eq_true rfl⟩ dL_act_524 ?_
          refine lv_istore (lv' := [(8, .int (zI (sPA t v520 w520))), (5, .int (zI (blw (x >>> (zI 5 &&& 31)) (t.1 3)))), (4, .int (zI w520)), (3, .int (zI v520)), (0, .ref (a 0)), (1, .ref (b 0)), (2, .int x)]) S.1 S.2.1 dL_act_527 hl (by decide) rfl (fun ls hl => ?_)
          refine y_joinV (nL := 16) (fun v => ((sPA t v520 w520) < 0 ∧ v = -1) ∨ (0 ≤ (sPA t v520 w520) ∧ v = t.2 2 (sPA t v520 w520) 2)) 547 (lv := [(8, .int (zI (sPA t v520 w520))), (5, .int (zI (blw (x >>> (zI 5 &&& 31)) (t.1 3)))), (4, .int (zI w520)), (3, .int (zI v520)), (0, .ref (a 0)), (1, .ref (b 0)), (2, .int x)]) [] (fun J547 => ?_) (fun v547 hv547 ls hl => ?_)
          · refine lv_iload S.1 S.2.1 dL_act_529 (lv_at hl 0 rfl) ?_
            refine z_if_ge (tgt := 538) S dL_act_531 (by decide) (by omega) (fun h_37 => ?_) (fun h_37 => ?_)
            · refine lv_aload_n S.1 S.2.1 dL_act_538 rfl (lv_at hl 5 rfl) ?_
              refine z_get (v := .ref (b 3)) S inA5 hK hP 21 rfl rfl 4 (by decide) fl_L_53 rfl dL_act_539 ?_
              refine lv_iload S.1 S.2.1 dL_act_542 (lv_at hl 0 rfl) ?_
              refine y_ald2 S hK hP 24 rfl (Nat.le_refl _) (by show (t.1 4).toNat < _; omega) (by show _ ∧ _ < (((t.1 4).toNat : Nat) : Int); omega) dL_act_544 ?_
              have hb_38 := hT.p (i := sPA t v520 w520) (by omega)
              refine z_iconst S dL_act_545 ?_
              refine z_iald (F := t.2 2 (sPA t v520 w520)) S hK hP (21 + (5 + (sn t 0 + (sn t 1 + (sPA t v520 w520).toNat)))) ((ap_at1 (a := CW g a c) rfl).trans (SW_r2 (b := b) (t := t) (i := sPA t v520 w520) (by show _ ∧ _ < t.1 4; omega))) (by decide) (by omega) dL_act_546 ?_
              exact J547 (t.2 2 (sPA t v520 w520) 2) (by omega) ls hl
            · refine z_iconst S dL_act_534 ?_
              refine z_goto (tgt := 547) S dL_act_535 (by decide) ?_
              exact J547 (-1) (by omega) ls hl
          · have hl : lv_has ls 16 [(8, .int (zI (sPA t v520 w520))), (5, .int (zI (blw (x >>> (zI 5 &&& 31)) (t.1 3)))), (4, .int (zI w520)), (3, .int (zI v520)), (0, .ref (a 0)), (1, .ref (b 0)), (2, .int x)] := hl
            have hv547 : ((sPA t v520 w520) < 0 ∧ v547 = -1) ∨ (0 ≤ (sPA t v520 w520) ∧ v547 = t.2 2 (sPA t v520 w520) 2) := hv547
            refine lv_istore (lv' := [(7, .int (zI v547)), (8, .int (zI (sPA t v520 w520))), (5, .int (zI (blw (x >>> (zI 5 &&& 31)) (t.1 3)))), (4, .int (zI w520)), (3, .int (zI v520)), (0, .ref (a 0)), (1, .ref (b 0)), (2, .int x)]) S.1 S.2.1 dL_act_547 hl (by decide) rfl (fun ls hl => ?_)
            refine lv_iload S.1 S.2.1 dL_act_549 (lv_at hl 1 rfl) ?_
            refine z_if_lt (tgt := 567) S dL_act_551 (by decide) (by omega) (fun h_39 => ?_) (fun h_39 => ?_)
            · refine lv_aload_n S.1 S.2.1 dL_act_567 rfl (lv_at hl 5 rfl) ?_
              refine lv_iload_n S.1 S.2.1 dL_act_568 rfl (lv_at hl 4 rfl) ?_
              refine lv_iload S.1 S.2.1 dL_act_569 (lv_at hl 3 rfl) ?_
              have hpg := R_peg hR (x := v520) (y := w520) (by omega)
              have hk3 := kPull_2 (c := c) (x := v520) (y := w520) (by omega)
              rw [if_pos (by omega)] at hpg
              refine y_xC (X := []) (c1 := (pullC c v520 w520)) (As := [.int (zI v520), .int (zI w520)]) (rest := []) S (m_X4_pull l D g a c hI hst hda v520 w520 (by omega) (by omega)) ml_L_63 im_X4_pull se_X4_pull cd_X4_pull ds_X4_pull ⟨Nat.le_of_ble_eq_true rfl, Nat.le_of_ble_eq_true rfl⟩ hX hZ hP hD hAc hS rfl hl.1 rfl (Nat.le_of_ble_eq_true rfl) ⟨(Nat.le_of_ble_eq_true rfl), (Nat.le_of_ble_eq_true rfl)⟩ dL_act_571 (fun E ce q9 H locs hx hP hS hc1 hc2 hc3 => ?_) (fun hok H locs hP hD hS => ?_)
              · rcases hx with ⟨hk, rfl⟩ | ⟨hk, rfl⟩
                · exact absurd hk (by rw [hk3]; split <;> decide)
                · refine vx_catch (name := eS) (E := eS) S.2.2.2.1 [⟨299, 339, 342, 38⟩] ⟨567, 576, 579, 38⟩ [⟨773, 782, 785, 38⟩, ⟨962, 996, 997, 38⟩, ⟨1069, 1079, 1082, 38⟩] (by rw [htab]; rfl) (fun z hz => (List.mem_cons.mp hz).elim (fun h => by subst h; exact Or.inl (by decide)) (fun hz => (fun z hz => absurd hz List.not_mem_nil) z hz)) (by decide) (by decide) (S.2.2.2.2 _ cl_L_38) (xw_use (XWl_x _ cx_S) (hX.2.1 _ cx_S)) hc1 hc2 hc3 ?_
                  have hP : va_P D vwCl (CW g a c ++ SW g b t) H := hP
                  have hD : va_D A (CW g a c ++ SW g b t) := hD
                  refine lv_astore (lv' := [(9, .ref q9), (7, .int (zI v547)), (8, .int (zI (sPA t v520 w520))), (5, .int (zI (blw (x >>> (zI 5 &&& 31)) (t.1 3)))), (4, .int (zI w520)), (3, .int (zI v520)), (0, .ref (a 0)), (1, .ref (b 0)), (2, .int x)]) S.1 S.2.1 dL_act_579 hl (by decide) rfl (fun ls hl => ?_)
                  refine z_iconst S dL_act_581 ?_
                  refine lv_istore (lv' := [(6, .int (zI (-1))), (9, .ref q9), (7, .int (zI v547)), (8, .int (zI (sPA t v520 w520))), (5, .int (zI (blw (x >>> (zI 5 &&& 31)) (t.1 3)))), (4, .int (zI w520)), (3, .int (zI v520)), (0, .ref (a 0)), (1, .ref (b 0)), (2, .int x)]) S.1 S.2.1 dL_act_582 hl (by decide) rfl (fun ls hl => ?_)
                  refine lv_iload S.1 S.2.1 dL_act_584 (lv_at hl 0 rfl) ?_
                  refine lv_iload S.1 S.2.1 dL_act_586 (lv_at hl 2 rfl) ?_
                  refine z_icmp_ne (tgt := 595) S dL_act_588 (by decide) (by omega) (fun h_40 => ?_) (fun h_40 => ?_)
                  · exact absurd h_40 (by omega)
                  · refine z_iconst S dL_act_591 ?_
                    refine z_goto (tgt := 596) S dL_act_592 (by decide) ?_
                    exact y_aretA (c1 := c) (t' := t) (b := b) S hr hlk rfl ⟨IC_up hI (by omega), hT, hR, (by first | rfl | exact hn3), (by first | rfl | exact congrArg (fun z : Nat => (z : Int)) (bAdd_0 _ _ _ _ _) | exact congrArg (fun z : Nat => (z : Int)) (bDel_lo (by omega) (by omega)))⟩ hP hD hB hS ⟨Nat.le_of_ble_eq_true rfl, Nat.le_of_ble_eq_true rfl⟩ dL_act_596
              · exact absurd hok (by rw [hk3, if_neg (by omega)]; decide)
            · refine lv_aload_n S.1 S.2.1 dL_act_554 rfl (lv_at hl 6 rfl) ?_
              refine lv_aload_n S.1 S.2.1 dL_act_555 rfl (lv_at hl 6 rfl) ?_
              refine z_get (v := .ref (b 3)) S inA5 hK hP 21 rfl rfl 4 (by decide) fl_L_53 rfl dL_act_556 ?_
              refine lv_iload S.1 S.2.1 dL_act_559 (lv_at hl 1 rfl) ?_
              refine y_delrow (rest := []) (PRE := CW g a c) (j := sPA t v520 w520) S hK hP hD hB hS hA (by omega) (by omega) ml_L_59 fl_L_53 ⟨Nat.le_of_ble_eq_true rfl, Nat.le_of_ble_eq_true rfl⟩ hl.1 (Nat.le_of_ble_eq_true rfl) ⟨(Nat.le_of_ble_eq_true rfl), (Nat.le_of_ble_eq_true rfl)⟩ dL_act_561 dL_act_564 (fun o561 H locs hP hD hB hS => ?_)
              have hP : va_P D vwCl (CW g a c ++ SW g (bDel b (sPA t v520 w520).toNat o561) (sDel t (sPA t v520 w520))) H := hP
              have hD : va_D A (CW g a c ++ SW g (bDel b (sPA t v520 w520).toNat o561) (sDel t (sPA t v520 w520))) := hD
              refine lv_aload_n S.1 S.2.1 dL_act_567 rfl (lv_at hl 5 rfl) ?_
              refine lv_iload_n S.1 S.2.1 dL_act_568 rfl (lv_at hl 4 rfl) ?_
              refine lv_iload S.1 S.2.1 dL_act_569 (lv_at hl 3 rfl) ?_
              have hpg := R_peg hR (x := v520) (y := w520) (by omega)
              have hk3 := kPull_2 (c := c) (x := v520) (y := w520) (by omega)
              rw [if_neg (by omega)] at hpg
              have hpb := hT.p (i := sPA t v520 w520) (by omega)
              refine y_xC (X := []) (c1 := (pullC c v520 w520)) (As := [.int (zI v520), .int (zI w520)]) (rest := []) S (m_X4_pull l D g a c hI hst hda v520 w520 (by omega) (by omega)) ml_L_63 im_X4_pull se_X4_pull cd_X4_pull ds_X4_pull ⟨Nat.le_of_ble_eq_true rfl, Nat.le_of_ble_eq_true rfl⟩ hX hZ hP hD hAc hS rfl hl.1 rfl (Nat.le_of_ble_eq_true rfl) ⟨(Nat.le_of_ble_eq_true rfl), (Nat.le_of_ble_eq_true rfl)⟩ dL_act_571 (fun E ce q9 H locs hx hP hS hc1 hc2 hc3 => ?_) (fun hok H locs hP hD hS => ?_)
              · rcases hx with ⟨hk, rfl⟩ | ⟨hk, rfl⟩
                · exact absurd hk (by rw [hk3]; split <;> decide)
                · exact absurd hk (by rw [hk3, if_pos (by omega)]; decide)
              · have hP : va_P D vwCl (CW g a (pullC c v520 w520) ++ SW g (bDel b (sPA t v520 w520).toNat o561) (sDel t (sPA t v520 w520))) H := hP
                have hD : va_D A (CW g a (pullC c v520 w520) ++ SW g (bDel b (sPA t v520 w520).toNat o561) (sDel t (sPA t v520 w520))) := hD
                have hIv := IC_up (IC_pull hI (x := v520) (y := w520) (by omega)) (show B ≤ B + 100000 ∧ B + 100000 ≤ 1000000000 by omega)
                have hTv := IT_pull hT (j := sPA t v520 w520) (by omega)
                have hRv := R_pull hR hI hT (x := v520) (y := w520) (by omega) (by omega)
                refine lv_istore (lv' := [(6, .int (zI (c.2 8 (w520 * 20 + v520)))), (7, .int (zI v547)), (8, .int (zI (sPA t v520 w520))), (5, .int (zI (blw (x >>> (zI 5 &&& 31)) (t.1 3)))), (4, .int (zI w520)), (3, .int (zI v520)), (0, .ref (a 0)), (1, .ref (b 0)), (2, .int x)]) S.1 S.2.1 dL_act_574 hl (by decide) rfl (fun ls hl => ?_)
                refine z_goto (tgt := 584) S dL_act_576 (by decide) ?_
                refine lv_iload S.1 S.2.1 dL_act_584 (lv_at hl 0 rfl) ?_
                refine lv_iload S.1 S.2.1 dL_act_586 (lv_at hl 1 rfl) ?_
                refine z_icmp_ne (tgt := 595) S dL_act_588 (by decide) (by omega) (fun h_41 => ?_) (fun h_41 => ?_)
                · exact absurd h_41 (by omega)
                · refine z_iconst S dL_act_591 ?_
                  refine z_goto (tgt := 596) S dL_act_592 (by decide) ?_
                  exact y_aretA (c1 := (pullC c v520 w520)) (t' := (sDel t (sPA t v520 w520))) (b := (bDel b (sPA t v520 w520).toNat o561)) S hr hlk rfl ⟨hIv, hTv, hRv, (by first | rfl | exact hn3), (by first | rfl | exact congrArg (fun z : Nat => (z : Int)) (bAdd_0 _ _ _ _ _) | exact congrArg (fun z : Nat => (z : Int)) (bDel_lo (by omega) (by omega)))⟩ hP hD hB hS ⟨Nat.le_of_ble_eq_true rfl, Nat.le_of_ble_eq_true rfl⟩ dL_act_596
      · refine z_tabIn (off := 558) (tgt := 597) S 6 h_5 (by decide) dL_act_39 (by decide) (by decide) rfl (by decide) ?_
        refine y_joinL (nL := 16) (fun v w => (0 ≤ v ∧ v ≤ 19) ∧ 0 ≤ w ∧ w ≤ 19) 676 (lv := fun v w => [(5, .int (zI (blw (x >>> (zI 5 &&& 31)) (t.1 3)))), (4, .int (zI w)), (3, .int (zI v)), (0, .ref (a 0)), (1, .ref (b 0)), (2, .int x)]) (fun J676 => ?_) (fun v676 w676 hv676 ls hl => ?_)
        · have hvx : (0 ≤ (blw (x >>> (zI 4 &&& 31)) 20) ∧ (blw (x >>> (zI 4 &&& 31)) 20) ≤ 19) ∧ 0 ≤ (blw (x >>> (zI 6 &&& 31)) 20) ∧ (blw (x >>> (zI 6 &&& 31)) 20) ≤ 19 := by omega
          refine lv_aload_n S.1 S.2.1 dL_act_597 rfl (lv_at hl 4 rfl) ?_
          refine z_get (v := .ref (b 1)) S inA5 hK hP 21 rfl rfl 2 (by decide) fl_L_26 rfl dL_act_598 ?_
          refine y_alen S hK hP 22 rfl (v := t.1 2) (by show (((t.1 2).toNat : Nat) : Int) = _; omega) dL_act_601 ?_
          refine z_if_le (tgt := 676) S dL_act_602 (by decide) (by omega) (fun h_42 => ?_) (fun h_42 => ?_)
          · exact J676 (blw (x >>> (zI 4 &&& 31)) 20) (blw (x >>> (zI 6 &&& 31)) 20) (by first | exact hvx | exact hvl | omega) ls hl
          · refine lv_iload_n S.1 S.2.1 dL_act_605 rfl (lv_at hl 5 rfl) ?_
            refine z_bipush S (by decide) dL_act_606 ?_
            refine lv_ishr S.1 S.2.1 dL_act_608 ?_
            refine z_iconst S dL_act_609 ?_
            refine z_rS (As := [.int (x >>> (zI 8 &&& 31)), .int (zI 3)]) (rest := []) S (m_L_below l D g (x >>> (zI 8 &&& 31)) 3 (by omega)) ml_L_9 sm_L_below ini_L cd_L_below ds_L_below ⟨Nat.le_of_ble_eq_true rfl, Nat.le_of_ble_eq_true rfl⟩ hK va_P_nil rfl hl.1 rfl (Nat.le_of_ble_eq_true rfl) ⟨Nat.le_of_ble_eq_true rfl, Nat.le_of_ble_eq_true rfl⟩ dL_act_610 ?_
            have hb_43 := blw_b (x >>> (zI 8 &&& 31)) 3 (by omega)
            refine z_if_le (tgt := 676) S dL_act_613 (by decide) (by omega) (fun h_44 => ?_) (fun h_44 => ?_)
            · exact J676 (blw (x >>> (zI 4 &&& 31)) 20) (blw (x >>> (zI 6 &&& 31)) 20) (by first | exact hvx | exact hvl | omega) ls hl
            · refine lv_aload_n S.1 S.2.1 dL_act_616 rfl (lv_at hl 4 rfl) ?_
              refine z_get (v := .ref (b 1)) S inA5 hK hP 21 rfl rfl 2 (by decide) fl_L_26 rfl dL_act_617 ?_
              refine lv_iload_n S.1 S.2.1 dL_act_620 rfl (lv_at hl 5 rfl) ?_
              refine z_iconst S dL_act_621 ?_
              refine lv_ishr S.1 S.2.1 dL_act_622 ?_
              refine lv_aload_n S.1 S.2.1 dL_act_623 rfl (lv_at hl 4 rfl) ?_
              refine z_get (v := .ref (b 1)) S inA5 hK hP 21 rfl rfl 2 (by decide) fl_L_26 rfl dL_act_624 ?_
              refine y_alen S hK hP 22 rfl (v := t.1 2) (by show (((t.1 2).toNat : Nat) : Int) = _; omega) dL_act_627 ?_
              refine z_rS (As := [.int (x >>> (zI 4 &&& 31)), .int (zI (t.1 2))]) (rest := [.ref (b 1)]) S (m_L_below l D g (x >>> (zI 4 &&& 31)) (t.1 2) (by omega)) ml_L_9 sm_L_below ini_L cd_L_below ds_L_below ⟨Nat.le_of_ble_eq_true rfl, Nat.le_of_ble_eq_true rfl⟩ hK va_P_nil rfl hl.1 rfl (Nat.le_of_ble_eq_true rfl) ⟨Nat.le_of_ble_eq_true rfl, Nat.le_of_ble_eq_true rfl⟩ dL_act_628 ?_
              have hb_45 := blw_b (x >>> (zI 4 &&& 31)) (t.1 2) (by omega)
              refine y_ald2 S hK hP 22 rfl (Nat.le_refl _) (by show (t.1 2).toNat < _; omega) (by show _ ∧ _ < (((t.1 2).toNat : Nat) : Int); omega) dL_act_631 ?_
              have hb_46 := hT.v (i := blw (x >>> (zI 4 &&& 31)) (t.1 2)) (by omega)
              refine lv_astore (lv' := [(8, .ref (rd b 0 (blw (x >>> (zI 4 &&& 31)) (t.1 2)).toNat)), (5, .int (zI (blw (x >>> (zI 5 &&& 31)) (t.1 3)))), (4, .int (zI (blw (x >>> (zI 6 &&& 31)) 20))), (3, .int (zI (blw (x >>> (zI 4 &&& 31)) 20))), (0, .ref (a 0)), (1, .ref (b 0)), (2, .int x)]) S.1 S.2.1 dL_act_632 hl (by decide) rfl (fun ls hl => ?_)
              refine lv_iload_n S.1 S.2.1 dL_act_634 rfl (lv_at hl 6 rfl) ?_
              refine z_bipush S (by decide) dL_act_635 ?_
              refine lv_ishr S.1 S.2.1 dL_act_637 ?_
              refine lv_aload S.1 S.2.1 dL_act_638 (lv_at hl 0 rfl) ?_
              refine z_iconst S dL_act_640 ?_
              refine z_iald (F := t.2 0 (blw (x >>> (zI 4 &&& 31)) (t.1 2))) S hK hP (21 + (5 + (blw (x >>> (zI 4 &&& 31)) (t.1 2)).toNat)) ((ap_at1 (a := CW g a c) rfl).trans (SW_r0 (b := b) (t := t) (i := blw (x >>> (zI 4 &&& 31)) (t.1 2)) (by show _ ∧ _ < t.1 2; omega))) (by decide) (by omega) dL_act_641 ?_
              refine z_iconst S dL_act_642 ?_
              refine z_iadd S dL_act_643 ?_
              refine z_rS (As := [.int (x >>> (zI 6 &&& 31)), .int (zI ((t.2 0 (blw (x >>> (zI 4 &&& 31)) (t.1 2)) 4) + 1))]) (rest := []) S (m_L_below l D g (x >>> (zI 6 &&& 31)) ((t.2 0 (blw (x >>> (zI 4 &&& 31)) (t.1 2)) 4) + 1) (by omega)) ml_L_9 sm_L_below ini_L cd_L_below ds_L_below ⟨Nat.le_of_ble_eq_true rfl, Nat.le_of_ble_eq_true rfl⟩ hK va_P_nil rfl hl.1 rfl (Nat.le_of_ble_eq_true rfl) ⟨Nat.le_of_ble_eq_true rfl, Nat.le_of_ble_eq_true rfl⟩ dL_act_644 ?_
              have hb_47 := blw_b (x >>> (zI 6 &&& 31)) ((t.2 0 (blw (x >>> (zI 4 &&& 31)) (t.1 2)) 4) + 1) (by omega)
              refine lv_istore (lv' := [(9, .int (zI (blw (x >>> (zI 6 &&& 31)) ((t.2 0 (blw (x >>> (zI 4 &&& 31)) (t.1 2)) 4) + 1)))), (8, .ref (rd b 0 (blw (x >>> (zI 4 &&& 31)) (t.1 2)).toNat)), (5, .int (zI (blw (x >>> (zI 5 &&& 31)) (t.1 3)))), (4, .int (zI (blw (x >>> (zI 6 &&& 31)) 20))), (3, .int (zI (blw (x >>> (zI 4 &&& 31)) 20))), (0, .ref (a 0)), (1, .ref (b 0)), (2, .int x)]) S.1 S.2.1 dL_act_647 hl (by decide) rfl (fun ls hl => ?_)
              have hvl := (hR.v (blw (x >>> (zI 4 &&& 31)) (t.1 2)) (by omega) (by omega)).2.2.1.1 (blw (x >>> (zI 6 &&& 31)) ((t.2 0 (blw (x >>> (zI 4 &&& 31)) (t.1 2)) 4) + 1)) (by omega) (by omega)
              have hm2 := mul1_b (k := (blw (x >>> (zI 6 &&& 31)) ((t.2 0 (blw (x >>> (zI 4 &&& 31)) (t.1 2)) 4) + 1))) (n := 19) (w := t.2 0 (blw (x >>> (zI 4 &&& 31)) (t.1 2)) 2) (by omega) (by omega)
              refine lv_aload S.1 S.2.1 dL_act_649 (lv_at hl 1 rfl) ?_
              refine z_iconst S dL_act_651 ?_
              refine z_iald (F := t.2 0 (blw (x >>> (zI 4 &&& 31)) (t.1 2))) S hK hP (21 + (5 + (blw (x >>> (zI 4 &&& 31)) (t.1 2)).toNat)) ((ap_at1 (a := CW g a c) rfl).trans (SW_r0 (b := b) (t := t) (i := blw (x >>> (zI 4 &&& 31)) (t.1 2)) (by show _ ∧ _ < t.1 2; omega))) (by decide) (by omega) dL_act_652 ?_
              refine lv_iload S.1 S.2.1 dL_act_653 (lv_at hl 0 rfl) ?_
              refine lv_aload S.1 S.2.1 dL_act_655 (lv_at hl 1 rfl) ?_
              refine z_iconst S dL_act_657 ?_
              refine z_iald (F := t.2 0 (blw (x >>> (zI 4 &&& 31)) (t.1 2))) S hK hP (21 + (5 + (blw (x >>> (zI 4 &&& 31)) (t.1 2)).toNat)) ((ap_at1 (a := CW g a c) rfl).trans (SW_r0 (b := b) (t := t) (i := blw (x >>> (zI 4 &&& 31)) (t.1 2)) (by show _ ∧ _ < t.1 2; omega))) (by decide) (by omega) dL_act_658 ?_
              refine z_imul S dL_act_659 ?_
              refine z_iadd S dL_act_660 ?_
              refine lv_istore_n (lv' := [(3, .int (zI ((t.2 0 (blw (x >>> (zI 4 &&& 31)) (t.1 2)) 0) + ((blw (x >>> (zI 6 &&& 31)) ((t.2 0 (blw (x >>> (zI 4 &&& 31)) (t.1 2)) 4) + 1)) * (t.2 0 (blw (x >>> (zI 4 &&& 31)) (t.1 2)) 2))))), (9, .int (zI (blw (x >>> (zI 6 &&& 31)) ((t.2 0 (blw (x >>> (zI 4 &&& 31)) (t.1 2)) 4) + 1)))), (8, .ref (rd b 0 (blw (x >>> (zI 4 &&& 31)) (t.1 2)).toNat)), (5, .int (zI (blw (x >>> (zI 5 &&& 31)) (t.1 3)))), (4, .int (zI (blw (x >>> (zI 6 &&& 31)) 20))), (0, .ref (a 0)), (1, .ref (b 0)), (2, .int x)]) S.1 S.2.1 dL_act_661 rfl hl (by decide) rfl (fun ls hl => ?_)
              refine lv_aload S.1 S.2.1 dL_act_662 (lv_at hl 2 rfl) ?_
              refine z_iconst S dL_act_664 ?_
              refine z_iald (F := t.2 0 (blw (x >>> (zI 4 &&& 31)) (t.1 2))) S hK hP (21 + (5 + (blw (x >>> (zI 4 &&& 31)) (t.1 2)).toNat)) ((ap_at1 (a := CW g a c) rfl).trans (SW_r0 (b := b) (t := t) (i := blw (x >>> (zI 4 &&& 31)) (t.1 2)) (by show _ ∧ _ < t.1 2; omega))) (by decide) (by omega) dL_act_665 ?_
              refine lv_iload S.1 S.2.1 dL_act_666 (lv_at hl 1 rfl) ?_
              refine lv_aload S.1 S.2.1 dL_act_668 (lv_at hl 2 rfl) ?_
              refine z_iconst S dL_act_670 ?_
              refine z_iald (F := t.2 0 (blw (x >>> (zI 4 &&& 31)) (t.1 2))) S hK hP (21 + (5 + (blw (x >>> (zI 4 &&& 31)) (t.1 2)).toNat)) ((ap_at1 (a := CW g a c) rfl).trans (SW_r0 (b := b) (t := t) (i := blw (x >>> (zI 4 &&& 31)) (t.1 2)) (by show _ ∧ _ < t.1 2; omega))) (by decide) (by omega) dL_act_671 ?_
              refine z_imul S dL_act_672 ?_
              refine z_iadd S dL_act_673 ?_
              refine lv_istore (lv' := [(4, .int (zI ((t.2 0 (blw (x >>> (zI 4 &&& 31)) (t.1 2)) 1) + ((blw (x >>> (zI 6 &&& 31)) ((t.2 0 (blw (x >>> (zI 4 &&& 31)) (t.1 2)) 4) + 1)) * (t.2 0 (blw (x >>> (zI 4 &&& 31)) (t.1 2)) 3))))), (3, .int (zI ((t.2 0 (blw (x >>> (zI 4 &&& 31)) (t.1 2)) 0) + ((blw (x >>> (zI 6 &&& 31)) ((t.2 0 (blw (x >>> (zI 4 &&& 31)) (t.1 2)) 4) + 1)) * (t.2 0 (blw (x >>> (zI 4 &&& 31)) (t.1 2)) 2))))), (9, .int (zI (blw (x >>> (zI 6 &&& 31)) ((t.2 0 (blw (x >>> (zI 4 &&& 31)) (t.1 2)) 4) + 1)))), (8, .ref (rd b 0 (blw (x >>> (zI 4 &&& 31)) (t.1 2)).toNat)), (5, .int (zI (blw (x >>> (zI 5 &&& 31)) (t.1 3)))), (0, .ref (a 0)), (1, .ref (b 0)), (2, .int x)]) S.1 S.2.1 dL_act_674 hl (by decide) rfl (fun ls hl => ?_)
              exact J676 ((t.2 0 (blw (x >>> (zI 4 &&& 31)) (t.1 2)) 0) + ((blw (x >>> (zI 6 &&& 31)) ((t.2 0 (blw (x >>> (zI 4 &&& 31)) (t.1 2)) 4) + 1)) * (t.2 0 (blw (x >>> (zI 4 &&& 31)) (t.1 2)) 2))) ((t.2 0 (blw (x >>> (zI 4 &&& 31)) (t.1 2)) 1) + ((blw (x >>> (zI 6 &&& 31)) ((t.2 0 (blw (x >>> (zI 4 &&& 31)) (t.1 2)) 4) + 1)) * (t.2 0 (blw (x >>> (zI 4 &&& 31)) (t.1 2)) 3))) (by first | exact hvx | exact hvl | omega) ls (lv_sub hl [4, 0, 1, 5, 6, 7] rfl)
        · have hl : lv_has ls 16 [(5, .int (zI (blw (x >>> (zI 5 &&& 31)) (t.1 3)))), (4, .int (zI w676)), (3, .int (zI v676)), (0, .ref (a 0)), (1, .ref (b 0)), (2, .int x)] := hl
          have hv676 : (0 ≤ v676 ∧ v676 ≤ 19) ∧ 0 ≤ w676 ∧ w676 ≤ 19 := hv676
          refine y_joinV (nL := 16) (fun v => ((t.1 5 = 10 ∨ 0 ≤ sQA t v676 w676) ∧ v = -1) ∨ (t.1 5 ≠ 10 ∧ sQA t v676 w676 < 0 ∧ v = t.1 5)) 705 (lv := [(5, .int (zI (blw (x >>> (zI 5 &&& 31)) (t.1 3)))), (4, .int (zI w676)), (3, .int (zI v676)), (0, .ref (a 0)), (1, .ref (b 0)), (2, .int x)]) [] (fun J705 => ?_) (fun v705 hv705 ls hl => ?_)
          · have hqa := sQA_b hT v676 w676
            refine lv_aload_n S.1 S.2.1 dL_act_676 rfl (lv_at hl 4 rfl) ?_
            refine z_get (v := .ref (b 4)) S inA5 hK hP 21 rfl rfl 5 (by decide) fl_L_66 rfl dL_act_677 ?_
            refine y_alen S hK hP 25 rfl (v := t.1 5) (by show (((t.1 5).toNat : Nat) : Int) = _; omega) dL_act_680 ?_
            refine z_bipush S (by decide) dL_act_681 ?_
            refine z_icmp_eq (tgt := 696) S dL_act_683 (by decide) (by omega) (fun h_48 => ?_) (fun h_48 => ?_)
            · refine z_iconst S dL_act_696 ?_
              refine z_goto (tgt := 705) S dL_act_697 (by decide) ?_
              exact J705 (-1) (by omega) ls hl
            · refine lv_aload_n S.1 S.2.1 dL_act_686 rfl (lv_at hl 4 rfl) ?_
              refine lv_iload_n S.1 S.2.1 dL_act_687 rfl (lv_at hl 2 rfl) ?_
              refine lv_iload S.1 S.2.1 dL_act_688 (lv_at hl 1 rfl) ?_
              refine z_rV (As := [.int (zI v676), .int (zI w676)]) (rest := []) S (m_X5_pitAt l D g b t hT v676 w676 (by omega)) ml_L_69 im_X5_pitAt se_X5_pitAt ini_X5 cd_X5_pitAt ds_X5_pitAt ⟨Nat.le_of_ble_eq_true rfl, Nat.le_of_ble_eq_true rfl⟩ hK (va_P_r hP) (va_recv hK.1 (va_P_r hP) (ci := 5) (q0 := 0) rfl rfl) rfl hl.1 rfl (Nat.le_of_ble_eq_true rfl) ⟨Nat.le_of_ble_eq_true rfl, Nat.le_of_ble_eq_true rfl⟩ dL_act_690 ?_
              refine z_if_lt (tgt := 700) S dL_act_693 (by decide) (by omega) (fun h_49 => ?_) (fun h_49 => ?_)
              · refine lv_aload_n S.1 S.2.1 dL_act_700 rfl (lv_at hl 4 rfl) ?_
                refine z_get (v := .ref (b 4)) S inA5 hK hP 21 rfl rfl 5 (by decide) fl_L_66 rfl dL_act_701 ?_
                refine y_alen S hK hP 25 rfl (v := t.1 5) (by show (((t.1 5).toNat : Nat) : Int) = _; omega) dL_act_704 ?_
                exact J705 (t.1 5) (by omega) ls hl
              · refine z_iconst S dL_act_696 ?_
                refine z_goto (tgt := 705) S dL_act_697 (by decide) ?_
                exact J705 (-1) (by omega) ls hl
          · have hl : lv_has ls 16 [(5, .int (zI (blw (x >>> (zI 5 &&& 31)) (t.1 3)))), (4, .int (zI w676)), (3, .int (zI v676)), (0, .ref (a 0)), (1, .ref (b 0)), (2, .int x)] := hl
            have hv705 : ((t.1 5 = 10 ∨ 0 ≤ sQA t v676 w676) ∧ v705 = -1) ∨ (t.1 5 ≠ 10 ∧ sQA t v676 w676 < 0 ∧ v705 = t.1 5) := hv705
            refine lv_istore (lv' := [(7, .int (zI v705)), (5, .int (zI (blw (x >>> (zI 5 &&& 31)) (t.1 3)))), (4, .int (zI w676)), (3, .int (zI v676)), (0, .ref (a 0)), (1, .ref (b 0)), (2, .int x)]) S.1 S.2.1 dL_act_705 hl (by decide) rfl (fun ls hl => ?_)
            refine lv_iload S.1 S.2.1 dL_act_707 (lv_at hl 0 rfl) ?_
            refine z_if_lt (tgt := 773) S dL_act_709 (by decide) (by omega) (fun h_50 => ?_) (fun h_50 => ?_)
            · refine lv_aload_n S.1 S.2.1 dL_act_773 rfl (lv_at hl 4 rfl) ?_
              refine lv_iload_n S.1 S.2.1 dL_act_774 rfl (lv_at hl 3 rfl) ?_
              refine lv_iload S.1 S.2.1 dL_act_775 (lv_at hl 2 rfl) ?_
              have hqa := sQA_b hT v676 w676
              have hat := R_at hR (x := v676) (y := w676) (by omega)
              have hk3 := kPit_2 (c := c) (x := v676) (y := w676) (by omega)
              refine y_xC (X := []) (c1 := (pitC c v676 w676)) (As := [.int (zI v676), .int (zI w676)]) (rest := []) S (m_X4_pit l D g a c hI hst hda v676 w676 (by omega) (by omega)) ml_L_79 im_X4_pit se_X4_pit cd_X4_pit ds_X4_pit ⟨Nat.le_of_ble_eq_true rfl, Nat.le_of_ble_eq_true rfl⟩ hX hZ hP hD hAc hS rfl hl.1 rfl (Nat.le_of_ble_eq_true rfl) ⟨(Nat.le_of_ble_eq_true rfl), (Nat.le_of_ble_eq_true rfl)⟩ dL_act_777 (fun E ce q9 H locs hx hP hS hc1 hc2 hc3 => ?_) (fun hok H locs hP hD hS => ?_)
              · rcases hx with ⟨hk, rfl⟩ | ⟨hk, rfl⟩
                · exact absurd hk (by rw [hk3]; split <;> decide)
                · refine vx_catch (name := eS) (E := eS) S.2.2.2.1 [⟨299, 339, 342, 38⟩, ⟨567, 576, 579, 38⟩] ⟨773, 782, 785, 38⟩ [⟨962, 996, 997, 38⟩, ⟨1069, 1079, 1082, 38⟩] (by rw [htab]; rfl) (fun z hz => (List.mem_cons.mp hz).elim (fun h => by subst h; exact Or.inl (by decide)) (fun hz => (fun z hz => (List.mem_cons.mp hz).elim (fun h => by subst h; exact Or.inl (by decide)) (fun hz => (fun z hz => absurd hz List.not_mem_nil) z hz)) z hz)) (by decide) (by decide) (S.2.2.2.2 _ cl_L_38) (xw_use (XWl_x _ cx_S) (hX.2.1 _ cx_S)) hc1 hc2 hc3 ?_
                  have hP : va_P D vwCl (CW g a c ++ SW g b t) H := hP
                  have hD : va_D A (CW g a c ++ SW g b t) := hD
                  refine lv_astore (lv' := [(8, .ref q9), (7, .int (zI v705)), (5, .int (zI (blw (x >>> (zI 5 &&& 31)) (t.1 3)))), (4, .int (zI w676)), (3, .int (zI v676)), (0, .ref (a 0)), (1, .ref (b 0)), (2, .int x)]) S.1 S.2.1 dL_act_785 hl (by decide) rfl (fun ls hl => ?_)
                  refine z_iconst S dL_act_787 ?_
                  refine lv_istore (lv' := [(6, .int (zI (-1))), (8, .ref q9), (7, .int (zI v705)), (5, .int (zI (blw (x >>> (zI 5 &&& 31)) (t.1 3)))), (4, .int (zI w676)), (3, .int (zI v676)), (0, .ref (a 0)), (1, .ref (b 0)), (2, .int x)]) S.1 S.2.1 dL_act_788 hl (by decide) rfl (fun ls hl => ?_)
                  refine lv_iload S.1 S.2.1 dL_act_790 (lv_at hl 0 rfl) ?_
                  refine lv_iload S.1 S.2.1 dL_act_792 (lv_at hl 2 rfl) ?_
                  refine z_icmp_ne (tgt := 801) S dL_act_794 (by decide) (by omega) (fun h_51 => ?_) (fun h_51 => ?_)
                  · exact absurd h_51 (by omega)
                  · refine z_iconst S dL_act_797 ?_
                    refine z_goto (tgt := 802) S dL_act_798 (by decide) ?_
                    exact y_aretA (c1 := c) (t' := t) (b := b) S hr hlk rfl ⟨IC_up hI (by omega), hT, hR, (by first | rfl | exact hn3), (by first | rfl | exact congrArg (fun z : Nat => (z : Int)) (bAdd_0 _ _ _ _ _) | exact congrArg (fun z : Nat => (z : Int)) (bDel_lo (by omega) (by omega)))⟩ hP hD hB hS ⟨Nat.le_of_ble_eq_true rfl, Nat.le_of_ble_eq_true rfl⟩ dL_act_802
              · exact absurd hok (by rw [hk3, if_neg (by omega)]; decide)
            · refine lv_aload_n S.1 S.2.1 dL_act_712 rfl (lv_at hl 5 rfl) ?_
              refine lv_aload_n S.1 S.2.1 dL_act_713 rfl (lv_at hl 5 rfl) ?_
              refine z_get (v := .ref (b 4)) S inA5 hK hP 21 rfl rfl 5 (by decide) fl_L_66 rfl dL_act_714 ?_
              refine z_bipush S (by decide) dL_act_717 ?_
              refine y_newi S hK hP hD hS (fun q9 h9 => hA q9 (Nat.le_trans hS.1 h9)) 9 (by decide) (Nat.le_of_ble_eq_true rfl) (Nat.le_of_ble_eq_true rfl) dL_act_719 (fun q719 H hq9 hk9 hP hD hS => ?_)
              have hP : va_P D vwCl ([(q719, .inl (g.1, 9, .inl (zA (fun _ => 0))))] ++ (CW g a c ++ SW g b t)) H := hP
              have hD : va_D A ([(q719, .inl (g.1, 9, .inl (zA (fun _ => 0))))] ++ (CW g a c ++ SW g b t)) := hD
              refine lv_dup S.1 S.2.1 dL_act_721 rfl ?_
              refine z_iconst S dL_act_722 ?_
              refine lv_iload_n S.1 S.2.1 dL_act_723 rfl (lv_at hl 3 rfl) ?_
              refine y_iast (F := fun _ => 0) S hK hP hD hS 0 rfl (by decide) (by omega) dL_act_724 (fun H locs hP hD hS => ?_)
              have hP : va_P D vwCl ([(q719, .inl (g.1, 9, .inl (zA (upZ (fun _ => 0) 0 v676))))] ++ (CW g a c ++ SW g b t)) H := hP
              have hD : va_D A ([(q719, .inl (g.1, 9, .inl (zA (upZ (fun _ => 0) 0 v676))))] ++ (CW g a c ++ SW g b t)) := hD
              refine lv_dup S.1 S.2.1 dL_act_725 rfl ?_
              refine z_iconst S dL_act_726 ?_
              refine lv_iload S.1 S.2.1 dL_act_727 (lv_at hl 2 rfl) ?_
              refine y_iast (F := upZ (fun _ => 0) 0 v676) S hK hP hD hS 0 rfl (by decide) (by omega) dL_act_729 (fun H locs hP hD hS => ?_)
              have hP : va_P D vwCl ([(q719, .inl (g.1, 9, .inl (zA (upZ (upZ (fun _ => 0) 0 v676) 1 w676))))] ++ (CW g a c ++ SW g b t)) H := hP
              have hD : va_D A ([(q719, .inl (g.1, 9, .inl (zA (upZ (upZ (fun _ => 0) 0 v676) 1 w676))))] ++ (CW g a c ++ SW g b t)) := hD
              refine lv_dup S.1 S.2.1 dL_act_730 rfl ?_
              refine z_iconst S dL_act_731 ?_
              refine lv_aload_n S.1 S.2.1 dL_act_732 rfl (lv_at hl 5 rfl) ?_
              refine lv_iload_n S.1 S.2.1 dL_act_733 rfl (lv_at hl 3 rfl) ?_
              refine lv_iload S.1 S.2.1 dL_act_734 (lv_at hl 2 rfl) ?_
              refine z_rV (As := [.int (zI v676), .int (zI w676)]) (rest := [.int (zI 2), .ref q719, .ref q719, .ref (b 4), .ref (b 0)]) S (m_X5_depth l D g b t hT v676 w676 (by omega)) ml_L_72 im_X5_depth se_X5_depth ini_X5 cd_X5_depth ds_X5_depth ⟨Nat.le_of_ble_eq_true rfl, Nat.le_of_ble_eq_true rfl⟩ hK (va_P_r (va_P_r hP)) (va_recv hK.1 (va_P_r (va_P_r hP)) (ci := 5) (q0 := 0) rfl rfl) rfl hl.1 rfl (Nat.le_of_ble_eq_true rfl) ⟨Nat.le_of_ble_eq_true rfl, Nat.le_of_ble_eq_true rfl⟩ dL_act_736 ?_
              refine y_iast (F := upZ (upZ (fun _ => 0) 0 v676) 1 w676) S hK hP hD hS 0 rfl (by decide) (by omega) dL_act_739 (fun H locs hP hD hS => ?_)
              have hP : va_P D vwCl ([(q719, .inl (g.1, 9, .inl (zA (upZ (upZ (upZ (fun _ => 0) 0 v676) 1 w676) 2 (sDep t v676 w676)))))] ++ (CW g a c ++ SW g b t)) H := hP
              have hD : va_D A ([(q719, .inl (g.1, 9, .inl (zA (upZ (upZ (upZ (fun _ => 0) 0 v676) 1 w676) 2 (sDep t v676 w676)))))] ++ (CW g a c ++ SW g b t)) := hD
              refine lv_dup S.1 S.2.1 dL_act_740 rfl ?_
              refine z_iconst S dL_act_741 ?_
              refine z_iconst S dL_act_742 ?_
              refine y_iast (F := upZ (upZ (upZ (fun _ => 0) 0 v676) 1 w676) 2 (sDep t v676 w676)) S hK hP hD hS 0 rfl (by decide) (by omega) dL_act_743 (fun H locs hP hD hS => ?_)
              have hP : va_P D vwCl ([(q719, .inl (g.1, 9, .inl (zA (upZ (upZ (upZ (upZ (fun _ => 0) 0 v676) 1 w676) 2 (sDep t v676 w676)) 3 0))))] ++ (CW g a c ++ SW g b t)) H := hP
              have hD : va_D A ([(q719, .inl (g.1, 9, .inl (zA (upZ (upZ (upZ (upZ (fun _ => 0) 0 v676) 1 w676) 2 (sDep t v676 w676)) 3 0))))] ++ (CW g a c ++ SW g b t)) := hD
              refine lv_dup S.1 S.2.1 dL_act_744 rfl ?_
              refine z_iconst S dL_act_745 ?_
              refine z_iconst S dL_act_746 ?_
              refine y_iast (F := upZ (upZ (upZ (upZ (fun _ => 0) 0 v676) 1 w676) 2 (sDep t v676 w676)) 3 0) S hK hP hD hS 0 rfl (by decide) (by omega) dL_act_747 (fun H locs hP hD hS => ?_)
              have hP : va_P D vwCl ([(q719, .inl (g.1, 9, .inl (zA (upZ (upZ (upZ (upZ (upZ (fun _ => 0) 0 v676) 1 w676) 2 (sDep t v676 w676)) 3 0) 4 0))))] ++ (CW g a c ++ SW g b t)) H := hP
              have hD : va_D A ([(q719, .inl (g.1, 9, .inl (zA (upZ (upZ (upZ (upZ (upZ (fun _ => 0) 0 v676) 1 w676) 2 (sDep t v676 w676)) 3 0) 4 0))))] ++ (CW g a c ++ SW g b t)) := hD
              refine lv_dup S.1 S.2.1 dL_act_748 rfl ?_
              refine z_iconst S dL_act_749 ?_
              refine z_iconst S dL_act_750 ?_
              refine y_iast (F := upZ (upZ (upZ (upZ (upZ (fun _ => 0) 0 v676) 1 w676) 2 (sDep t v676 w676)) 3 0) 4 0) S hK hP hD hS 0 rfl (by decide) (by omega) dL_act_751 (fun H locs hP hD hS => ?_)
              have hP : va_P D vwCl ([(q719, .inl (g.1, 9, .inl (zA (upZ (upZ (upZ (upZ (upZ (upZ (fun _ => 0) 0 v676) 1 w676) 2 (sDep t v676 w676)) 3 0) 4 0) 5 0))))] ++ (CW g a c ++ SW g b t)) H := hP
              have hD : va_D A ([(q719, .inl (g.1, 9, .inl (zA (upZ (upZ (upZ (upZ (upZ (upZ (fun _ => 0) 0 v676) 1 w676) 2 (sDep t v676 w676)) 3 0) 4 0) 5 0))))] ++ (CW g a c ++ SW g b t)) := hD
              refine lv_dup S.1 S.2.1 dL_act_752 rfl ?_
              refine z_bipush S (by decide) dL_act_753 ?_
              refine z_iconst S dL_act_755 ?_
              refine y_iast (F := upZ (upZ (upZ (upZ (upZ (upZ (fun _ => 0) 0 v676) 1 w676) 2 (sDep t v676 w676)) 3 0) 4 0) 5 0) S hK hP hD hS 0 rfl (by decide) (by omega) dL_act_756 (fun H locs hP hD hS => ?_)
              have hP : va_P D vwCl ([(q719, .inl (g.1, 9, .inl (zA (upZ (upZ (upZ (upZ (upZ (upZ (upZ (fun _ => 0) 0 v676) 1 w676) 2 (sDep t v676 w676)) 3 0) 4 0) 5 0) 6 0))))] ++ (CW g a c ++ SW g b t)) H := hP
              have hD : va_D A ([(q719, .inl (g.1, 9, .inl (zA (upZ (upZ (upZ (upZ (upZ (upZ (upZ (fun _ => 0) 0 v676) 1 w676) 2 (sDep t v676 w676)) 3 0) 4 0) 5 0) 6 0))))] ++ (CW g a c ++ SW g b t)) := hD
              refine lv_dup S.1 S.2.1 dL_act_757 rfl ?_
              refine z_bipush S (by decide) dL_act_758 ?_
              refine z_iconst S dL_act_760 ?_
              refine y_iast (F := upZ (upZ (upZ (upZ (upZ (upZ (upZ (fun _ => 0) 0 v676) 1 w676) 2 (sDep t v676 w676)) 3 0) 4 0) 5 0) 6 0) S hK hP hD hS 0 rfl (by decide) (by omega) dL_act_761 (fun H locs hP hD hS => ?_)
              have hP : va_P D vwCl ([(q719, .inl (g.1, 9, .inl (zA (upZ (upZ (upZ (upZ (upZ (upZ (upZ (upZ (fun _ => 0) 0 v676) 1 w676) 2 (sDep t v676 w676)) 3 0) 4 0) 5 0) 6 0) 7 0))))] ++ (CW g a c ++ SW g b t)) H := hP
              have hD : va_D A ([(q719, .inl (g.1, 9, .inl (zA (upZ (upZ (upZ (upZ (upZ (upZ (upZ (upZ (fun _ => 0) 0 v676) 1 w676) 2 (sDep t v676 w676)) 3 0) 4 0) 5 0) 6 0) 7 0))))] ++ (CW g a c ++ SW g b t)) := hD
              refine lv_dup S.1 S.2.1 dL_act_762 rfl ?_
              refine z_bipush S (by decide) dL_act_763 ?_
              refine z_iconst S dL_act_765 ?_
              refine y_iast (F := upZ (upZ (upZ (upZ (upZ (upZ (upZ (upZ (fun _ => 0) 0 v676) 1 w676) 2 (sDep t v676 w676)) 3 0) 4 0) 5 0) 6 0) 7 0) S hK hP hD hS 0 rfl (by decide) (by omega) dL_act_766 (fun H locs hP hD hS => ?_)
              have hP : va_P D vwCl ([(q719, .inl (g.1, 9, .inl (zA (upZ (upZ (upZ (upZ (upZ (upZ (upZ (upZ (upZ (fun _ => 0) 0 v676) 1 w676) 2 (sDep t v676 w676)) 3 0) 4 0) 5 0) 6 0) 7 0) 8 0))))] ++ (CW g a c ++ SW g b t)) H := hP
              have hD : va_D A ([(q719, .inl (g.1, 9, .inl (zA (upZ (upZ (upZ (upZ (upZ (upZ (upZ (upZ (upZ (fun _ => 0) 0 v676) 1 w676) 2 (sDep t v676 w676)) 3 0) 4 0) 5 0) 6 0) 7 0) 8 0))))] ++ (CW g a c ++ SW g b t)) := hD
              refine y_addrow (rest := []) 3 (by decide) (PRE := CW g a c) (G := upZ (upZ (upZ (upZ (upZ (upZ (upZ (upZ (upZ (fun _ => 0) 0 v676) 1 w676) 2 (sDep t v676 w676)) 3 0) 4 0) 5 0) 6 0) 7 0) 8 0) S hK hP hD hB hS (fun q9 h9 => hA q9 (Nat.le_trans hS.1 h9)) (by show 0 ≤ t.1 5 ∧ t.1 5 ≤ 60; omega) ml_L_75 fl_L_66 ⟨Nat.le_of_ble_eq_true rfl, Nat.le_of_ble_eq_true rfl⟩ hl.1 (Nat.le_of_ble_eq_true rfl) ⟨(Nat.le_of_ble_eq_true rfl), (Nat.le_of_ble_eq_true rfl)⟩ dL_act_767 dL_act_770 (fun o767 H locs hP hD hB hS => ?_)
              have hP : va_P D vwCl (CW g a c ++ SW g (bAdd b t 3 o767 q719) (sAdd t 3 (upZ (upZ (upZ (upZ (upZ (upZ (upZ (upZ (upZ (fun _ => 0) 0 v676) 1 w676) 2 (sDep t v676 w676)) 3 0) 4 0) 5 0) 6 0) 7 0) 8 0))) H := hP
              have hD : va_D A (CW g a c ++ SW g (bAdd b t 3 o767 q719) (sAdd t 3 (upZ (upZ (upZ (upZ (upZ (upZ (upZ (upZ (upZ (fun _ => 0) 0 v676) 1 w676) 2 (sDep t v676 w676)) 3 0) 4 0) 5 0) 6 0) 7 0) 8 0))) := hD
              have hB : SB A (bAdd b t 3 o767 q719) (sAdd t 3 (upZ (upZ (upZ (upZ (upZ (upZ (upZ (upZ (upZ (fun _ => 0) 0 v676) 1 w676) 2 (sDep t v676 w676)) 3 0) 4 0) 5 0) 6 0) 7 0) 8 0)) := hB
              refine lv_aload_n S.1 S.2.1 dL_act_773 rfl (lv_at hl 4 rfl) ?_
              refine lv_iload_n S.1 S.2.1 dL_act_774 rfl (lv_at hl 3 rfl) ?_
              refine lv_iload S.1 S.2.1 dL_act_775 (lv_at hl 2 rfl) ?_
              have hqa := sQA_b hT v676 w676
              have hat := R_at hR (x := v676) (y := w676) (by omega)
              have hk3 := kPit_2 (c := c) (x := v676) (y := w676) (by omega)
              refine y_xC (X := []) (c1 := (pitC c v676 w676)) (As := [.int (zI v676), .int (zI w676)]) (rest := []) S (m_X4_pit l D g a c hI hst hda v676 w676 (by omega) (by omega)) ml_L_79 im_X4_pit se_X4_pit cd_X4_pit ds_X4_pit ⟨Nat.le_of_ble_eq_true rfl, Nat.le_of_ble_eq_true rfl⟩ hX hZ hP hD hAc hS rfl hl.1 rfl (Nat.le_of_ble_eq_true rfl) ⟨(Nat.le_of_ble_eq_true rfl), (Nat.le_of_ble_eq_true rfl)⟩ dL_act_777 (fun E ce q9 H locs hx hP hS hc1 hc2 hc3 => ?_) (fun hok H locs hP hD hS => ?_)
              · rcases hx with ⟨hk, rfl⟩ | ⟨hk, rfl⟩
                · exact absurd hk (by rw [hk3]; split <;> decide)
                · exact absurd hk (by rw [hk3, if_pos (by omega)]; decide)
              · have hP : va_P D vwCl (CW g a (pitC c v676 w676) ++ SW g (bAdd b t 3 o767 q719) (sAdd t 3 (upZ (upZ (upZ (upZ (upZ (upZ (upZ (upZ (upZ (fun _ => 0) 0 v676) 1 w676) 2 (sDep t v676 w676)) 3 0) 4 0) 5 0) 6 0) 7 0) 8 0))) H := hP
                have hD : va_D A (CW g a (pitC c v676 w676) ++ SW g (bAdd b t 3 o767 q719) (sAdd t 3 (upZ (upZ (upZ (upZ (upZ (upZ (upZ (upZ (upZ (fun _ => 0) 0 v676) 1 w676) 2 (sDep t v676 w676)) 3 0) 4 0) 5 0) 6 0) 7 0) 8 0))) := hD
                have hIv := IC_up (IC_pit hI (x := v676) (y := w676) (by omega) (by omega)) (show B ≤ B + 100000 ∧ B + 100000 ≤ 1000000000 by omega)
                have hTv := IT_pit hT (x := v676) (y := w676) (by omega) (by omega)
                have hRv := R_pit hR hI hT (x := v676) (y := w676) (by omega) (by omega) (by omega)
                refine lv_istore (lv' := [(6, .int (zI (c.1 5))), (7, .int (zI v705)), (5, .int (zI (blw (x >>> (zI 5 &&& 31)) (t.1 3)))), (4, .int (zI w676)), (3, .int (zI v676)), (0, .ref (a 0)), (1, .ref (b 0)), (2, .int x)]) S.1 S.2.1 dL_act_780 hl (by decide) rfl (fun ls hl => ?_)
                refine z_goto (tgt := 790) S dL_act_782 (by decide) ?_
                refine lv_iload S.1 S.2.1 dL_act_790 (lv_at hl 0 rfl) ?_
                refine lv_iload S.1 S.2.1 dL_act_792 (lv_at hl 1 rfl) ?_
                refine z_icmp_ne (tgt := 801) S dL_act_794 (by decide) (by omega) (fun h_52 => ?_) (fun h_52 => ?_)
                · exact absurd h_52 (by omega)
                · refine z_iconst S dL_act_797 ?_
                  refine z_goto (tgt := 802) S dL_act_798 (by decide) ?_
                  exact y_aretA (c1 := (pitC c v676 w676)) (t' := (sAdd t 3 (upZ (upZ (upZ (upZ (upZ (upZ (upZ (upZ (upZ (fun _ => 0) 0 v676) 1 w676) 2 (sDep t v676 w676)) 3 0) 4 0) 5 0) 6 0) 7 0) 8 0))) (b := (bAdd b t 3 o767 q719)) S hr hlk rfl ⟨hIv, hTv, hRv, (by first | rfl | exact hn3), (by first | rfl | exact congrArg (fun z : Nat => (z : Int)) (bAdd_0 _ _ _ _ _) | exact congrArg (fun z : Nat => (z : Int)) (bDel_lo (by omega) (by omega)))⟩ hP hD hB hS ⟨Nat.le_of_ble_eq_true rfl, Nat.le_of_ble_eq_true rfl⟩ dL_act_802
      · refine z_tabIn (off := 764) (tgt := 803) S 7 h_5 (by decide) dL_act_39 (by decide) (by decide) rfl (by decide) ?_
        exact J803 ls hl
      · refine z_tabIn (off := 764) (tgt := 803) S 8 h_5 (by decide) dL_act_39 (by decide) (by decide) rfl (by decide) ?_
        exact J803 ls hl
      · refine z_tabIn (off := 764) (tgt := 803) S 9 h_5 (by decide) dL_act_39 (by decide) (by decide) rfl (by decide) ?_
        exact J803 ls hl
      · refine z_tabOut (tgt := 1010) S (by omega) dL_act_39 h_5 (by decide) ?_
        refine lv_aload_n S.1 S.2.1 dL_act_1010 rfl (lv_at hl 4 rfl) ?_
        refine z_get (v := .ref (b 4)) S inA5 hK hP 21 rfl rfl 5 (by decide) fl_L_66 rfl dL_act_1011 ?_
        refine y_alen S hK hP 25 rfl (v := t.1 5) (by show (((t.1 5).toNat : Nat) : Int) = _; omega) dL_act_1014 ?_
        refine z_if_ne (tgt := 1020) S dL_act_1015 (by decide) (by omega) (fun h_53 => ?_) (fun h_53 => ?_)
        · refine lv_iload_n S.1 S.2.1 dL_act_1020 rfl (lv_at hl 5 rfl) ?_
          refine z_iconst S dL_act_1021 ?_
          refine lv_ishr S.1 S.2.1 dL_act_1022 ?_
          refine lv_aload_n S.1 S.2.1 dL_act_1023 rfl (lv_at hl 4 rfl) ?_
          refine z_get (v := .ref (b 4)) S inA5 hK hP 21 rfl rfl 5 (by decide) fl_L_66 rfl dL_act_1024 ?_
          refine y_alen S hK hP 25 rfl (v := t.1 5) (by show (((t.1 5).toNat : Nat) : Int) = _; omega) dL_act_1027 ?_
          refine z_rS (As := [.int (x >>> (zI 4 &&& 31)), .int (zI (t.1 5))]) (rest := []) S (m_L_below l D g (x >>> (zI 4 &&& 31)) (t.1 5) (by omega)) ml_L_9 sm_L_below ini_L cd_L_below ds_L_below ⟨Nat.le_of_ble_eq_true rfl, Nat.le_of_ble_eq_true rfl⟩ hK va_P_nil rfl hl.1 rfl (Nat.le_of_ble_eq_true rfl) ⟨Nat.le_of_ble_eq_true rfl, Nat.le_of_ble_eq_true rfl⟩ dL_act_1028 ?_
          have hb_54 := blw_b (x >>> (zI 4 &&& 31)) (t.1 5) (by omega)
          refine lv_istore (lv' := [(8, .int (zI (blw (x >>> (zI 4 &&& 31)) (t.1 5)))), (5, .int (zI (blw (x >>> (zI 5 &&& 31)) (t.1 3)))), (4, .int (zI (blw (x >>> (zI 6 &&& 31)) 20))), (3, .int (zI (blw (x >>> (zI 4 &&& 31)) 20))), (0, .ref (a 0)), (1, .ref (b 0)), (2, .int x)]) S.1 S.2.1 dL_act_1031 hl (by decide) rfl (fun ls hl => ?_)
          refine z_iconst S dL_act_1033 ?_
          refine lv_iload_n S.1 S.2.1 dL_act_1034 rfl (lv_at hl 6 rfl) ?_
          refine z_bipush S (by decide) dL_act_1035 ?_
          refine lv_ishr S.1 S.2.1 dL_act_1037 ?_
          refine z_bipush S (by decide) dL_act_1038 ?_
          refine z_rS (As := [.int (x >>> (zI 6 &&& 31)), .int (zI 20)]) (rest := [.int (zI 1)]) S (m_L_below l D g (x >>> (zI 6 &&& 31)) 20 (by omega)) ml_L_9 sm_L_below ini_L cd_L_below ds_L_below ⟨Nat.le_of_ble_eq_true rfl, Nat.le_of_ble_eq_true rfl⟩ hK va_P_nil rfl hl.1 rfl (Nat.le_of_ble_eq_true rfl) ⟨Nat.le_of_ble_eq_true rfl, Nat.le_of_ble_eq_true rfl⟩ dL_act_1040 ?_
          have hb_55 := blw_b (x >>> (zI 6 &&& 31)) 20 (by omega)
          refine z_iadd S dL_act_1043 ?_
          refine lv_istore (lv' := [(9, .int (zI (1 + (blw (x >>> (zI 6 &&& 31)) 20)))), (8, .int (zI (blw (x >>> (zI 4 &&& 31)) (t.1 5)))), (5, .int (zI (blw (x >>> (zI 5 &&& 31)) (t.1 3)))), (4, .int (zI (blw (x >>> (zI 6 &&& 31)) 20))), (3, .int (zI (blw (x >>> (zI 4 &&& 31)) 20))), (0, .ref (a 0)), (1, .ref (b 0)), (2, .int x)]) S.1 S.2.1 dL_act_1044 hl (by decide) rfl (fun ls hl => ?_)
          refine lv_aload_n S.1 S.2.1 dL_act_1046 rfl (lv_at hl 6 rfl) ?_
          refine lv_iload S.1 S.2.1 dL_act_1047 (lv_at hl 1 rfl) ?_
          refine z_rV (As := [.int (zI (blw (x >>> (zI 4 &&& 31)) (t.1 5)))]) (rest := []) S (m_X5_isOver l D g b t hT (blw (x >>> (zI 4 &&& 31)) (t.1 5)) (by omega)) ml_L_89 im_X5_isOver se_X5_isOver ini_X5 cd_X5_isOver ds_X5_isOver ⟨Nat.le_of_ble_eq_true rfl, Nat.le_of_ble_eq_true rfl⟩ hK (va_P_r hP) (va_recv hK.1 (va_P_r hP) (ci := 5) (q0 := 0) rfl rfl) rfl hl.1 rfl (Nat.le_of_ble_eq_true rfl) ⟨Nat.le_of_ble_eq_true rfl, Nat.le_of_ble_eq_true rfl⟩ dL_act_1049 ?_
          refine z_ifb_eq (tgt := 1059) S dL_act_1052 (by decide) (fun h_56 => ?_) (fun h_56 => ?_)
          · refine lv_aload_n S.1 S.2.1 dL_act_1059 rfl (lv_at hl 6 rfl) ?_
            refine lv_iload S.1 S.2.1 dL_act_1060 (lv_at hl 1 rfl) ?_
            refine lv_iload S.1 S.2.1 dL_act_1062 (lv_at hl 0 rfl) ?_
            refine y_sD (X := []) (PRE := CW g a c) (rest := []) (q := blw (x >>> (zI 4 &&& 31)) (t.1 5)) (by9 := 1 + (blw (x >>> (zI 6 &&& 31)) 20)) S hT (by show _ ∧ _ < t.1 5; omega) (by omega) hB ml_L_93 ⟨Nat.le_of_ble_eq_true rfl, Nat.le_of_ble_eq_true rfl⟩ hK hP hD hA hS hl.1 (Nat.le_of_ble_eq_true rfl) ⟨Nat.le_of_ble_eq_true rfl, Nat.le_of_ble_eq_true rfl⟩ dL_act_1064 (fun H locs hP hD hB hS => ?_)
            have hP : va_P D vwCl (CW g a c ++ SW g b (sDig t (blw (x >>> (zI 4 &&& 31)) (t.1 5)) (1 + (blw (x >>> (zI 6 &&& 31)) 20)))) H := hP
            have hD : va_D A (CW g a c ++ SW g b (sDig t (blw (x >>> (zI 4 &&& 31)) (t.1 5)) (1 + (blw (x >>> (zI 6 &&& 31)) 20)))) := hD
            refine lv_istore (lv' := [(7, .int (zI (sDg t (blw (x >>> (zI 4 &&& 31)) (t.1 5)) (1 + (blw (x >>> (zI 6 &&& 31)) 20)).toNat))), (9, .int (zI (1 + (blw (x >>> (zI 6 &&& 31)) 20)))), (8, .int (zI (blw (x >>> (zI 4 &&& 31)) (t.1 5)))), (5, .int (zI (blw (x >>> (zI 5 &&& 31)) (t.1 3)))), (4, .int (zI (blw (x >>> (zI 6 &&& 31)) 20))), (3, .int (zI (blw (x >>> (zI 4 &&& 31)) 20))), (0, .ref (a 0)), (1, .ref (b 0)), (2, .int x)]) S.1 S.2.1 dL_act_1067 hl (by decide) rfl (fun ls hl => ?_)
            have hdgb := sDg_b (t := t) (q := (blw (x >>> (zI 4 &&& 31)) (t.1 5))) (hT.q (by omega)) ((1 + (blw (x >>> (zI 6 &&& 31)) 20))).toNat
            refine lv_aload_n S.1 S.2.1 dL_act_1069 rfl (lv_at hl 6 rfl) ?_
            refine lv_iload S.1 S.2.1 dL_act_1070 (lv_at hl 2 rfl) ?_
            refine lv_iload S.1 S.2.1 dL_act_1072 (lv_at hl 1 rfl) ?_
            have hov := R_over hR hT (q := (blw (x >>> (zI 4 &&& 31)) (t.1 5))) (by omega)
            have hk3 := kDig_3 (c := c) (q := (blw (x >>> (zI 4 &&& 31)) (t.1 5))) (by9 := (1 + (blw (x >>> (zI 6 &&& 31)) 20))) (by omega) (by omega)
            have hno : ¬ sOv t (blw (x >>> (zI 4 &&& 31)) (t.1 5)) := by assumption
            refine y_xC (X := []) (c1 := (digC1 c (blw (x >>> (zI 4 &&& 31)) (t.1 5)) (1 + (blw (x >>> (zI 6 &&& 31)) 20)))) (As := [.int (zI (blw (x >>> (zI 4 &&& 31)) (t.1 5))), .int (zI (1 + (blw (x >>> (zI 6 &&& 31)) 20)))]) (rest := []) S (m_X4_dig l D g a c hI hst hda (blw (x >>> (zI 4 &&& 31)) (t.1 5)) (1 + (blw (x >>> (zI 6 &&& 31)) 20)) (by omega) (by omega) (by omega)) ml_L_96 im_X4_dig se_X4_dig cd_X4_dig ds_X4_dig ⟨Nat.le_of_ble_eq_true rfl, Nat.le_of_ble_eq_true rfl⟩ hX hZ hP hD hAc hS rfl hl.1 rfl (Nat.le_of_ble_eq_true rfl) ⟨(Nat.le_of_ble_eq_true rfl), (Nat.le_of_ble_eq_true rfl)⟩ dL_act_1074 (fun E ce q9 H locs hx hP hS hc1 hc2 hc3 => ?_) (fun hok H locs hP hD hS => ?_)
            · rcases hx with ⟨hk, rfl⟩ | ⟨hk, rfl⟩ | ⟨hk, rfl⟩
              · exact absurd hk (by rw [hk3]; split <;> decide)
              · exact absurd hk (by rw [hk3]; split <;> decide)
              · exact absurd hk (by rw [hk3, if_neg (fun z => hno (hov.mp z))]; decide)
            · have hP : va_P D vwCl (CW g a (digC1 c (blw (x >>> (zI 4 &&& 31)) (t.1 5)) (1 + (blw (x >>> (zI 6 &&& 31)) 20))) ++ SW g b (sDig t (blw (x >>> (zI 4 &&& 31)) (t.1 5)) (1 + (blw (x >>> (zI 6 &&& 31)) 20)))) H := hP
              have hD : va_D A (CW g a (digC1 c (blw (x >>> (zI 4 &&& 31)) (t.1 5)) (1 + (blw (x >>> (zI 6 &&& 31)) 20))) ++ SW g b (sDig t (blw (x >>> (zI 4 &&& 31)) (t.1 5)) (1 + (blw (x >>> (zI 6 &&& 31)) 20)))) := hD
              have hIv := IC_dig hI (by omega) (q := (blw (x >>> (zI 4 &&& 31)) (t.1 5))) (by9 := (1 + (blw (x >>> (zI 6 &&& 31)) 20))) (by omega)
              have hTv := IT_dig hT (q := (blw (x >>> (zI 4 &&& 31)) (t.1 5))) (by9 := (1 + (blw (x >>> (zI 6 &&& 31)) 20))) (by omega)
              obtain ⟨hRv, hdp⟩ := R_dig hR hI hT (q := (blw (x >>> (zI 4 &&& 31)) (t.1 5))) (by9 := (1 + (blw (x >>> (zI 6 &&& 31)) 20))) (by omega) (by omega) hno
              have hn3 : (sDig t (blw (x >>> (zI 4 &&& 31)) (t.1 5)) (1 + (blw (x >>> (zI 6 &&& 31)) 20))).1 3 = t.1 3 := sDig_3 t _ _
              refine lv_istore (lv' := [(6, .int (zI (dpn c (blw (x >>> (zI 4 &&& 31)) (t.1 5)) (1 + (blw (x >>> (zI 6 &&& 31)) 20))))), (7, .int (zI (sDg t (blw (x >>> (zI 4 &&& 31)) (t.1 5)) (1 + (blw (x >>> (zI 6 &&& 31)) 20)).toNat))), (9, .int (zI (1 + (blw (x >>> (zI 6 &&& 31)) 20)))), (8, .int (zI (blw (x >>> (zI 4 &&& 31)) (t.1 5)))), (5, .int (zI (blw (x >>> (zI 5 &&& 31)) (t.1 3)))), (4, .int (zI (blw (x >>> (zI 6 &&& 31)) 20))), (3, .int (zI (blw (x >>> (zI 4 &&& 31)) 20))), (0, .ref (a 0)), (1, .ref (b 0)), (2, .int x)]) S.1 S.2.1 dL_act_1077 hl (by decide) rfl (fun ls hl => ?_)
              refine z_goto (tgt := 1087) S dL_act_1079 (by decide) ?_
              refine lv_iload S.1 S.2.1 dL_act_1087 (lv_at hl 0 rfl) ?_
              refine lv_iload S.1 S.2.1 dL_act_1089 (lv_at hl 1 rfl) ?_
              refine z_icmp_ne (tgt := 1098) S dL_act_1091 (by decide) (by omega) (fun h_57 => ?_) (fun h_57 => ?_)
              · exact absurd h_57 (by omega)
              · refine z_iconst S dL_act_1094 ?_
                refine z_goto (tgt := 1099) S dL_act_1095 (by decide) ?_
                exact y_aretA (c1 := (digC1 c (blw (x >>> (zI 4 &&& 31)) (t.1 5)) (1 + (blw (x >>> (zI 6 &&& 31)) 20)))) (t' := (sDig t (blw (x >>> (zI 4 &&& 31)) (t.1 5)) (1 + (blw (x >>> (zI 6 &&& 31)) 20)))) (b := b) S hr hlk rfl ⟨hIv, hTv, hRv, (by first | rfl | exact hn3), (by first | rfl | exact congrArg (fun z : Nat => (z : Int)) (bAdd_0 _ _ _ _ _) | exact congrArg (fun z : Nat => (z : Int)) (bDel_lo (by omega) (by omega)))⟩ hP hD hB hS ⟨Nat.le_of_ble_eq_true rfl, Nat.le_of_ble_eq_true rfl⟩ dL_act_1099
          · refine z_iconst S dL_act_1055 ?_
            refine z_goto (tgt := 1067) S dL_act_1056 (by decide) ?_
            refine lv_istore (lv' := [(7, .int (zI (-1))), (9, .int (zI (1 + (blw (x >>> (zI 6 &&& 31)) 20)))), (8, .int (zI (blw (x >>> (zI 4 &&& 31)) (t.1 5)))), (5, .int (zI (blw (x >>> (zI 5 &&& 31)) (t.1 3)))), (4, .int (zI (blw (x >>> (zI 6 &&& 31)) 20))), (3, .int (zI (blw (x >>> (zI 4 &&& 31)) 20))), (0, .ref (a 0)), (1, .ref (b 0)), (2, .int x)]) S.1 S.2.1 dL_act_1067 hl (by decide) rfl (fun ls hl => ?_)
            have hdgb := sDg_b (t := t) (q := (blw (x >>> (zI 4 &&& 31)) (t.1 5))) (hT.q (by omega)) ((1 + (blw (x >>> (zI 6 &&& 31)) 20))).toNat
            refine lv_aload_n S.1 S.2.1 dL_act_1069 rfl (lv_at hl 6 rfl) ?_
            refine lv_iload S.1 S.2.1 dL_act_1070 (lv_at hl 2 rfl) ?_
            refine lv_iload S.1 S.2.1 dL_act_1072 (lv_at hl 1 rfl) ?_
            have hov := R_over hR hT (q := (blw (x >>> (zI 4 &&& 31)) (t.1 5))) (by omega)
            have hk3 := kDig_3 (c := c) (q := (blw (x >>> (zI 4 &&& 31)) (t.1 5))) (by9 := (1 + (blw (x >>> (zI 6 &&& 31)) 20))) (by omega) (by omega)
            have hyes : sOv t (blw (x >>> (zI 4 &&& 31)) (t.1 5)) := by assumption
            refine y_xC (X := []) (c1 := (digC1 c (blw (x >>> (zI 4 &&& 31)) (t.1 5)) (1 + (blw (x >>> (zI 6 &&& 31)) 20)))) (As := [.int (zI (blw (x >>> (zI 4 &&& 31)) (t.1 5))), .int (zI (1 + (blw (x >>> (zI 6 &&& 31)) 20)))]) (rest := []) S (m_X4_dig l D g a c hI hst hda (blw (x >>> (zI 4 &&& 31)) (t.1 5)) (1 + (blw (x >>> (zI 6 &&& 31)) 20)) (by omega) (by omega) (by omega)) ml_L_96 im_X4_dig se_X4_dig cd_X4_dig ds_X4_dig ⟨Nat.le_of_ble_eq_true rfl, Nat.le_of_ble_eq_true rfl⟩ hX hZ hP hD hAc hS rfl hl.1 rfl (Nat.le_of_ble_eq_true rfl) ⟨(Nat.le_of_ble_eq_true rfl), (Nat.le_of_ble_eq_true rfl)⟩ dL_act_1074 (fun E ce q9 H locs hx hP hS hc1 hc2 hc3 => ?_) (fun hok H locs hP hD hS => ?_)
            · rcases hx with ⟨hk, rfl⟩ | ⟨hk, rfl⟩ | ⟨hk, rfl⟩
              · exact absurd hk (by rw [hk3]; split <;> decide)
              · exact absurd hk (by rw [hk3]; split <;> decide)
              · refine vx_catch (name := eS) (E := eS) S.2.2.2.1 [⟨299, 339, 342, 38⟩, ⟨567, 576, 579, 38⟩, ⟨773, 782, 785, 38⟩, ⟨962, 996, 997, 38⟩] ⟨1069, 1079, 1082, 38⟩ [] (by rw [htab]; rfl) (fun z hz => (List.mem_cons.mp hz).elim (fun h => by subst h; exact Or.inl (by decide)) (fun hz => (fun z hz => (List.mem_cons.mp hz).elim (fun h => by subst h; exact Or.inl (by decide)) (fun hz => (fun z hz => (List.mem_cons.mp hz).elim (fun h => by subst h; exact Or.inl (by decide)) (fun hz => (fun z hz => (List.mem_cons.mp hz).elim (fun h => by subst h; exact Or.inl (by decide)) (fun hz => (fun z hz => absurd hz List.not_mem_nil) z hz)) z hz)) z hz)) z hz)) (by decide) (by decide) (S.2.2.2.2 _ cl_L_38) (xw_use (XWl_x _ cx_S) (hX.2.1 _ cx_S)) hc1 hc2 hc3 ?_
                have hP : va_P D vwCl (CW g a c ++ SW g b t) H := hP
                have hD : va_D A (CW g a c ++ SW g b t) := hD
                refine lv_astore (lv' := [(10, .ref q9), (7, .int (zI (-1))), (9, .int (zI (1 + (blw (x >>> (zI 6 &&& 31)) 20)))), (8, .int (zI (blw (x >>> (zI 4 &&& 31)) (t.1 5)))), (5, .int (zI (blw (x >>> (zI 5 &&& 31)) (t.1 3)))), (4, .int (zI (blw (x >>> (zI 6 &&& 31)) 20))), (3, .int (zI (blw (x >>> (zI 4 &&& 31)) 20))), (0, .ref (a 0)), (1, .ref (b 0)), (2, .int x)]) S.1 S.2.1 dL_act_1082 hl (by decide) rfl (fun ls hl => ?_)
                refine z_iconst S dL_act_1084 ?_
                refine lv_istore (lv' := [(6, .int (zI (-1))), (10, .ref q9), (7, .int (zI (-1))), (9, .int (zI (1 + (blw (x >>> (zI 6 &&& 31)) 20)))), (8, .int (zI (blw (x >>> (zI 4 &&& 31)) (t.1 5)))), (5, .int (zI (blw (x >>> (zI 5 &&& 31)) (t.1 3)))), (4, .int (zI (blw (x >>> (zI 6 &&& 31)) 20))), (3, .int (zI (blw (x >>> (zI 4 &&& 31)) 20))), (0, .ref (a 0)), (1, .ref (b 0)), (2, .int x)]) S.1 S.2.1 dL_act_1085 hl (by decide) rfl (fun ls hl => ?_)
                refine lv_iload S.1 S.2.1 dL_act_1087 (lv_at hl 0 rfl) ?_
                refine lv_iload S.1 S.2.1 dL_act_1089 (lv_at hl 2 rfl) ?_
                refine z_icmp_ne (tgt := 1098) S dL_act_1091 (by decide) (by omega) (fun h_58 => ?_) (fun h_58 => ?_)
                · exact absurd h_58 (by omega)
                · refine z_iconst S dL_act_1094 ?_
                  refine z_goto (tgt := 1099) S dL_act_1095 (by decide) ?_
                  exact y_aretA (c1 := c) (t' := t) (b := b) S hr hlk rfl ⟨IC_up hI (by omega), hT, hR, (by first | rfl | exact hn3), (by first | rfl | exact congrArg (fun z : Nat => (z : Int)) (bAdd_0 _ _ _ _ _) | exact congrArg (fun z : Nat => (z : Int)) (bDel_lo (by omega) (by omega)))⟩ hP hD hB hS ⟨Nat.le_of_ble_eq_true rfl, Nat.le_of_ble_eq_true rfl⟩ dL_act_1099
            · exact absurd hok (by rw [hk3, if_pos (hov.mpr hyes)]; decide)
        · refine z_iconst S dL_act_1018 ?_
          exact y_aretA (c1 := c) (t' := t) (b := b) S hr hlk rfl ⟨IC_up hI (by omega), hT, hR, (by first | rfl | exact hn3), (by first | rfl | exact congrArg (fun z : Nat => (z : Int)) (bAdd_0 _ _ _ _ _) | exact congrArg (fun z : Nat => (z : Int)) (bDel_lo (by omega) (by omega)))⟩ hP hD hB hS ⟨Nat.le_of_ble_eq_true rfl, Nat.le_of_ble_eq_true rfl⟩ dL_act_1019
    · have hl : lv_has ls 16 [(5, .int (zI (blw (x >>> (zI 5 &&& 31)) (t.1 3)))), (4, .int (zI (blw (x >>> (zI 6 &&& 31)) 20))), (3, .int (zI (blw (x >>> (zI 4 &&& 31)) 20))), (0, .ref (a 0)), (1, .ref (b 0)), (2, .int x)] := hl
      refine lv_aload_n S.1 S.2.1 dL_act_803 rfl (lv_at hl 4 rfl) ?_
      refine z_get (v := .ref (b 4)) S inA5 hK hP 21 rfl rfl 5 (by decide) fl_L_66 rfl dL_act_804 ?_
      refine y_alen S hK hP 25 rfl (v := t.1 5) (by show (((t.1 5).toNat : Nat) : Int) = _; omega) dL_act_807 ?_
      refine z_if_ne (tgt := 813) S dL_act_808 (by decide) (by omega) (fun h_59 => ?_) (fun h_59 => ?_)
      · refine lv_aload_n S.1 S.2.1 dL_act_813 rfl (lv_at hl 4 rfl) ?_
        refine z_get (v := .ref (b 4)) S inA5 hK hP 21 rfl rfl 5 (by decide) fl_L_66 rfl dL_act_814 ?_
        refine y_alen S hK hP 25 rfl (v := t.1 5) (by show (((t.1 5).toNat : Nat) : Int) = _; omega) dL_act_817 ?_
        refine z_iconst S dL_act_818 ?_
        refine z_isub S dL_act_819 ?_
        refine lv_iload_n S.1 S.2.1 dL_act_820 rfl (lv_at hl 5 rfl) ?_
        refine z_bipush S (by decide) dL_act_821 ?_
        refine lv_ishr S.1 S.2.1 dL_act_823 ?_
        refine z_iconst S dL_act_824 ?_
        refine lv_aload_n S.1 S.2.1 dL_act_825 rfl (lv_at hl 4 rfl) ?_
        refine z_get (v := .ref (b 4)) S inA5 hK hP 21 rfl rfl 5 (by decide) fl_L_66 rfl dL_act_826 ?_
        refine y_alen S hK hP 25 rfl (v := t.1 5) (by show (((t.1 5).toNat : Nat) : Int) = _; omega) dL_act_829 ?_
        refine z_min S ml_L_82 hl.1 (Nat.le_of_ble_eq_true rfl) (Nat.le_of_ble_eq_true rfl) ⟨Nat.le_of_ble_eq_true rfl, Nat.le_of_ble_eq_true rfl⟩ (by omega) dL_act_830 ?_
        refine z_rS (As := [.int (x >>> (zI 9 &&& 31)), .int (zI (min 2 (t.1 5)))]) (rest := [.int (zI ((t.1 5) - 1))]) S (m_L_below l D g (x >>> (zI 9 &&& 31)) (min 2 (t.1 5)) (by omega)) ml_L_9 sm_L_below ini_L cd_L_below ds_L_below ⟨Nat.le_of_ble_eq_true rfl, Nat.le_of_ble_eq_true rfl⟩ hK va_P_nil rfl hl.1 rfl (Nat.le_of_ble_eq_true rfl) ⟨Nat.le_of_ble_eq_true rfl, Nat.le_of_ble_eq_true rfl⟩ dL_act_833 ?_
        have hb_60 := blw_b (x >>> (zI 9 &&& 31)) (min 2 (t.1 5)) (by omega)
        refine z_isub S dL_act_836 ?_
        refine lv_istore (lv' := [(8, .int (zI (((t.1 5) - 1) - (blw (x >>> (zI 9 &&& 31)) (min 2 (t.1 5)))))), (5, .int (zI (blw (x >>> (zI 5 &&& 31)) (t.1 3)))), (4, .int (zI (blw (x >>> (zI 6 &&& 31)) 20))), (3, .int (zI (blw (x >>> (zI 4 &&& 31)) 20))), (0, .ref (a 0)), (1, .ref (b 0)), (2, .int x)]) S.1 S.2.1 dL_act_837 hl (by decide) rfl (fun ls hl => ?_)
        refine z_iconst S dL_act_839 ?_
        refine lv_iload_n S.1 S.2.1 dL_act_840 rfl (lv_at hl 6 rfl) ?_
        refine z_bipush S (by decide) dL_act_841 ?_
        refine lv_ishr S.1 S.2.1 dL_act_843 ?_
        refine z_bipush S (by decide) dL_act_844 ?_
        refine z_rS (As := [.int (x >>> (zI 6 &&& 31)), .int (zI 30)]) (rest := [.int (zI 1)]) S (m_L_below l D g (x >>> (zI 6 &&& 31)) 30 (by omega)) ml_L_9 sm_L_below ini_L cd_L_below ds_L_below ⟨Nat.le_of_ble_eq_true rfl, Nat.le_of_ble_eq_true rfl⟩ hK va_P_nil rfl hl.1 rfl (Nat.le_of_ble_eq_true rfl) ⟨Nat.le_of_ble_eq_true rfl, Nat.le_of_ble_eq_true rfl⟩ dL_act_846 ?_
        have hb_61 := blw_b (x >>> (zI 6 &&& 31)) 30 (by omega)
        refine z_iadd S dL_act_849 ?_
        refine lv_istore (lv' := [(9, .int (zI (1 + (blw (x >>> (zI 6 &&& 31)) 30)))), (8, .int (zI (((t.1 5) - 1) - (blw (x >>> (zI 9 &&& 31)) (min 2 (t.1 5)))))), (5, .int (zI (blw (x >>> (zI 5 &&& 31)) (t.1 3)))), (4, .int (zI (blw (x >>> (zI 6 &&& 31)) 20))), (3, .int (zI (blw (x >>> (zI 4 &&& 31)) 20))), (0, .ref (a 0)), (1, .ref (b 0)), (2, .int x)]) S.1 S.2.1 dL_act_850 hl (by decide) rfl (fun ls hl => ?_)
        refine y_joinV (nL := 16) (fun v => v = 0 ∨ v = 1) 868 (lv := [(9, .int (zI (1 + (blw (x >>> (zI 6 &&& 31)) 30)))), (8, .int (zI (((t.1 5) - 1) - (blw (x >>> (zI 9 &&& 31)) (min 2 (t.1 5)))))), (5, .int (zI (blw (x >>> (zI 5 &&& 31)) (t.1 3)))), (4, .int (zI (blw (x >>> (zI 6 &&& 31)) 20))), (3, .int (zI (blw (x >>> (zI 4 &&& 31)) 20))), (0, .ref (a 0)), (1, .ref (b 0)), (2, .int x)]) [] (fun J868 => ?_) (fun v868 hv868 ls hl => ?_)
        · refine lv_iload_n S.1 S.2.1 dL_act_852 rfl (lv_at hl 7 rfl) ?_
          refine z_bipush S (by decide) dL_act_853 ?_
          refine lv_ishr S.1 S.2.1 dL_act_855 ?_
          refine z_iconst S dL_act_856 ?_
          refine z_rS (As := [.int (x >>> (zI 8 &&& 31)), .int (zI 2)]) (rest := []) S (m_L_below l D g (x >>> (zI 8 &&& 31)) 2 (by omega)) ml_L_9 sm_L_below ini_L cd_L_below ds_L_below ⟨Nat.le_of_ble_eq_true rfl, Nat.le_of_ble_eq_true rfl⟩ hK va_P_nil rfl hl.1 rfl (Nat.le_of_ble_eq_true rfl) ⟨Nat.le_of_ble_eq_true rfl, Nat.le_of_ble_eq_true rfl⟩ dL_act_857 ?_
          have hb_62 := blw_b (x >>> (zI 8 &&& 31)) 2 (by omega)
          refine z_if_ne (tgt := 867) S dL_act_860 (by decide) (by omega) (fun h_63 => ?_) (fun h_63 => ?_)
          · refine z_iconst S dL_act_867 ?_
            exact J868 0 (by omega) ls hl
          · refine z_iconst S dL_act_863 ?_
            refine z_goto (tgt := 868) S dL_act_864 (by decide) ?_
            exact J868 1 (by omega) ls hl
        · have hl : lv_has ls 16 [(9, .int (zI (1 + (blw (x >>> (zI 6 &&& 31)) 30)))), (8, .int (zI (((t.1 5) - 1) - (blw (x >>> (zI 9 &&& 31)) (min 2 (t.1 5)))))), (5, .int (zI (blw (x >>> (zI 5 &&& 31)) (t.1 3)))), (4, .int (zI (blw (x >>> (zI 6 &&& 31)) 20))), (3, .int (zI (blw (x >>> (zI 4 &&& 31)) 20))), (0, .ref (a 0)), (1, .ref (b 0)), (2, .int x)] := hl
          have hv868 : v868 = 0 ∨ v868 = 1 := hv868
          have hqq := hT.q (i := (((t.1 5) - 1) - (blw (x >>> (zI 9 &&& 31)) (min 2 (t.1 5))))) (by omega)
          have hqb := hqq.b (d := 4 + (blw (x >>> (zI 5 &&& 31)) (t.1 3))) (by omega)
          have hcd := hR.d (blw (x >>> (zI 5 &&& 31)) (t.1 3)) (by omega) (by omega)
          have hc7 := hI.r7 (blw (x >>> (zI 5 &&& 31)) (t.1 3))
          refine lv_istore (lv' := [(10, .int (zI v868)), (9, .int (zI (1 + (blw (x >>> (zI 6 &&& 31)) 30)))), (8, .int (zI (((t.1 5) - 1) - (blw (x >>> (zI 9 &&& 31)) (min 2 (t.1 5)))))), (5, .int (zI (blw (x >>> (zI 5 &&& 31)) (t.1 3)))), (4, .int (zI (blw (x >>> (zI 6 &&& 31)) 20))), (3, .int (zI (blw (x >>> (zI 4 &&& 31)) 20))), (0, .ref (a 0)), (1, .ref (b 0)), (2, .int x)]) S.1 S.2.1 dL_act_868 hl (by decide) rfl (fun ls hl => ?_)
          refine y_joinV (nL := 16) (fun v => (v = 1 ∧ (t.2 3 (((t.1 5) - 1) - (blw (x >>> (zI 9 &&& 31)) (min 2 (t.1 5)))) 3 = 0 ∧ t.2 3 (((t.1 5) - 1) - (blw (x >>> (zI 9 &&& 31)) (min 2 (t.1 5)))) (4 + (blw (x >>> (zI 5 &&& 31)) (t.1 3))) = 0 ∧ (1 + (blw (x >>> (zI 6 &&& 31)) 30)) ≤ t.2 1 (blw (x >>> (zI 5 &&& 31)) (t.1 3)) 2)) ∨ (v = 0 ∧ ¬ (t.2 3 (((t.1 5) - 1) - (blw (x >>> (zI 9 &&& 31)) (min 2 (t.1 5)))) 3 = 0 ∧ t.2 3 (((t.1 5) - 1) - (blw (x >>> (zI 9 &&& 31)) (min 2 (t.1 5)))) (4 + (blw (x >>> (zI 5 &&& 31)) (t.1 3))) = 0 ∧ (1 + (blw (x >>> (zI 6 &&& 31)) 30)) ≤ t.2 1 (blw (x >>> (zI 5 &&& 31)) (t.1 3)) 2))) 916 (lv := [(10, .int (zI v868)), (9, .int (zI (1 + (blw (x >>> (zI 6 &&& 31)) 30)))), (8, .int (zI (((t.1 5) - 1) - (blw (x >>> (zI 9 &&& 31)) (min 2 (t.1 5)))))), (5, .int (zI (blw (x >>> (zI 5 &&& 31)) (t.1 3)))), (4, .int (zI (blw (x >>> (zI 6 &&& 31)) 20))), (3, .int (zI (blw (x >>> (zI 4 &&& 31)) 20))), (0, .ref (a 0)), (1, .ref (b 0)), (2, .int x)]) [] (fun J916 => ?_) (fun v916 hv916 ls hl => ?_)
          · refine lv_aload_n S.1 S.2.1 dL_act_870 rfl (lv_at hl 7 rfl) ?_
            refine z_get (v := .ref (b 4)) S inA5 hK hP 21 rfl rfl 5 (by decide) fl_L_66 rfl dL_act_871 ?_
            refine lv_iload S.1 S.2.1 dL_act_874 (lv_at hl 2 rfl) ?_
            refine y_ald2 S hK hP 25 rfl (Nat.le_refl _) (by show (t.1 5).toNat < _; omega) (by show _ ∧ _ < (((t.1 5).toNat : Nat) : Int); omega) dL_act_876 ?_
            have hb_64 := hT.q (i := ((t.1 5) - 1) - (blw (x >>> (zI 9 &&& 31)) (min 2 (t.1 5)))) (by omega)
            refine z_iconst S dL_act_877 ?_
            refine z_iald (F := t.2 3 (((t.1 5) - 1) - (blw (x >>> (zI 9 &&& 31)) (min 2 (t.1 5))))) S hK hP (21 + (5 + (sn t 0 + (sn t 1 + (sn t 2 + (((t.1 5) - 1) - (blw (x >>> (zI 9 &&& 31)) (min 2 (t.1 5)))).toNat))))) ((ap_at1 (a := CW g a c) rfl).trans (SW_r3 (b := b) (t := t) (i := ((t.1 5) - 1) - (blw (x >>> (zI 9 &&& 31)) (min 2 (t.1 5)))) (by show _ ∧ _ < t.1 5; omega))) (by decide) (by omega) dL_act_878 ?_
            refine z_if_ne (tgt := 915) S dL_act_879 (by decide) (by omega) (fun h_65 => ?_) (fun h_65 => ?_)
            · refine z_iconst S dL_act_915 ?_
              exact J916 0 (by omega) ls hl
            · refine lv_aload_n S.1 S.2.1 dL_act_882 rfl (lv_at hl 7 rfl) ?_
              refine z_get (v := .ref (b 4)) S inA5 hK hP 21 rfl rfl 5 (by decide) fl_L_66 rfl dL_act_883 ?_
              refine lv_iload S.1 S.2.1 dL_act_886 (lv_at hl 2 rfl) ?_
              refine y_ald2 S hK hP 25 rfl (Nat.le_refl _) (by show (t.1 5).toNat < _; omega) (by show _ ∧ _ < (((t.1 5).toNat : Nat) : Int); omega) dL_act_888 ?_
              have hb_66 := hT.q (i := ((t.1 5) - 1) - (blw (x >>> (zI 9 &&& 31)) (min 2 (t.1 5)))) (by omega)
              refine z_iconst S dL_act_889 ?_
              refine lv_iload S.1 S.2.1 dL_act_890 (lv_at hl 3 rfl) ?_
              refine z_iadd S dL_act_892 ?_
              refine z_iald (F := t.2 3 (((t.1 5) - 1) - (blw (x >>> (zI 9 &&& 31)) (min 2 (t.1 5))))) S hK hP (21 + (5 + (sn t 0 + (sn t 1 + (sn t 2 + (((t.1 5) - 1) - (blw (x >>> (zI 9 &&& 31)) (min 2 (t.1 5)))).toNat))))) ((ap_at1 (a := CW g a c) rfl).trans (SW_r3 (b := b) (t := t) (i := ((t.1 5) - 1) - (blw (x >>> (zI 9 &&& 31)) (min 2 (t.1 5)))) (by show _ ∧ _ < t.1 5; omega))) (by decide) (by omega) dL_act_893 ?_
              refine z_if_ne (tgt := 915) S dL_act_894 (by decide) (by omega) (fun h_67 => ?_) (fun h_67 => ?_)
              · refine z_iconst S dL_act_915 ?_
                exact J916 0 (by omega) ls hl
              · refine lv_aload_n S.1 S.2.1 dL_act_897 rfl (lv_at hl 7 rfl) ?_
                refine z_get (v := .ref (b 2)) S inA5 hK hP 21 rfl rfl 3 (by decide) fl_L_15 rfl dL_act_898 ?_
                refine lv_iload S.1 S.2.1 dL_act_901 (lv_at hl 3 rfl) ?_
                refine y_ald2 S hK hP 23 rfl (Nat.le_refl _) (by show (t.1 3).toNat < _; omega) (by show _ ∧ _ < (((t.1 3).toNat : Nat) : Int); omega) dL_act_903 ?_
                have hb_68 := hT.d (i := blw (x >>> (zI 5 &&& 31)) (t.1 3)) (by omega)
                refine z_iconst S dL_act_904 ?_
                refine z_iald (F := t.2 1 (blw (x >>> (zI 5 &&& 31)) (t.1 3))) S hK hP (21 + (5 + (sn t 0 + (blw (x >>> (zI 5 &&& 31)) (t.1 3)).toNat))) ((ap_at1 (a := CW g a c) rfl).trans (SW_r1 (b := b) (t := t) (i := blw (x >>> (zI 5 &&& 31)) (t.1 3)) (by show _ ∧ _ < t.1 3; omega))) (by decide) (by omega) dL_act_905 ?_
                refine lv_iload S.1 S.2.1 dL_act_906 (lv_at hl 1 rfl) ?_
                refine z_icmp_lt (tgt := 915) S dL_act_908 (by decide) (by omega) (fun h_69 => ?_) (fun h_69 => ?_)
                · refine z_iconst S dL_act_915 ?_
                  exact J916 0 (by omega) ls hl
                · refine z_iconst S dL_act_911 ?_
                  refine z_goto (tgt := 916) S dL_act_912 (by decide) ?_
                  exact J916 1 (by omega) ls hl
          · have hl : lv_has ls 16 [(10, .int (zI v868)), (9, .int (zI (1 + (blw (x >>> (zI 6 &&& 31)) 30)))), (8, .int (zI (((t.1 5) - 1) - (blw (x >>> (zI 9 &&& 31)) (min 2 (t.1 5)))))), (5, .int (zI (blw (x >>> (zI 5 &&& 31)) (t.1 3)))), (4, .int (zI (blw (x >>> (zI 6 &&& 31)) 20))), (3, .int (zI (blw (x >>> (zI 4 &&& 31)) 20))), (0, .ref (a 0)), (1, .ref (b 0)), (2, .int x)] := hl
            have hv916 : (v916 = 1 ∧ (t.2 3 (((t.1 5) - 1) - (blw (x >>> (zI 9 &&& 31)) (min 2 (t.1 5)))) 3 = 0 ∧ t.2 3 (((t.1 5) - 1) - (blw (x >>> (zI 9 &&& 31)) (min 2 (t.1 5)))) (4 + (blw (x >>> (zI 5 &&& 31)) (t.1 3))) = 0 ∧ (1 + (blw (x >>> (zI 6 &&& 31)) 30)) ≤ t.2 1 (blw (x >>> (zI 5 &&& 31)) (t.1 3)) 2)) ∨ (v916 = 0 ∧ ¬ (t.2 3 (((t.1 5) - 1) - (blw (x >>> (zI 9 &&& 31)) (min 2 (t.1 5)))) 3 = 0 ∧ t.2 3 (((t.1 5) - 1) - (blw (x >>> (zI 9 &&& 31)) (min 2 (t.1 5)))) (4 + (blw (x >>> (zI 5 &&& 31)) (t.1 3))) = 0 ∧ (1 + (blw (x >>> (zI 6 &&& 31)) 30)) ≤ t.2 1 (blw (x >>> (zI 5 &&& 31)) (t.1 3)) 2)) := hv916
            refine lv_istore (lv' := [(11, .int (zI v916)), (10, .int (zI v868)), (9, .int (zI (1 + (blw (x >>> (zI 6 &&& 31)) 30)))), (8, .int (zI (((t.1 5) - 1) - (blw (x >>> (zI 9 &&& 31)) (min 2 (t.1 5)))))), (5, .int (zI (blw (x >>> (zI 5 &&& 31)) (t.1 3)))), (4, .int (zI (blw (x >>> (zI 6 &&& 31)) 20))), (3, .int (zI (blw (x >>> (zI 4 &&& 31)) 20))), (0, .ref (a 0)), (1, .ref (b 0)), (2, .int x)]) S.1 S.2.1 dL_act_916 hl (by decide) rfl (fun ls hl => ?_)
            refine lv_iload S.1 S.2.1 dL_act_918 (lv_at hl 0 rfl) ?_
            refine z_if_eq (tgt := 962) S dL_act_920 (by decide) (by omega) (fun h_70 => ?_) (fun h_70 => ?_)
            · refine lv_aload_n S.1 S.2.1 dL_act_962 rfl (lv_at hl 7 rfl) ?_
              refine lv_iload S.1 S.2.1 dL_act_963 (lv_at hl 4 rfl) ?_
              refine lv_iload S.1 S.2.1 dL_act_965 (lv_at hl 3 rfl) ?_
              refine lv_iload S.1 S.2.1 dL_act_967 (lv_at hl 2 rfl) ?_
              refine lv_iload S.1 S.2.1 dL_act_969 (lv_at hl 1 rfl) ?_
              have hk3 := kBet_3 hR (d := (blw (x >>> (zI 5 &&& 31)) (t.1 3))) (q := (((t.1 5) - 1) - (blw (x >>> (zI 9 &&& 31)) (min 2 (t.1 5))))) (co9 := (1 + (blw (x >>> (zI 6 &&& 31)) 30))) (by omega) (by omega) (by omega) hT
              have hcoin := hR.d (blw (x >>> (zI 5 &&& 31)) (t.1 3)) (by omega) (by omega)
              have hcan : ¬ (t.2 3 (((t.1 5) - 1) - (blw (x >>> (zI 9 &&& 31)) (min 2 (t.1 5)))) 3 = 0 ∧ t.2 3 (((t.1 5) - 1) - (blw (x >>> (zI 9 &&& 31)) (min 2 (t.1 5)))) (4 + (blw (x >>> (zI 5 &&& 31)) (t.1 3))) = 0 ∧ (1 + (blw (x >>> (zI 6 &&& 31)) 30)) ≤ t.2 1 (blw (x >>> (zI 5 &&& 31)) (t.1 3)) 2) := by omega
              refine y_xC (X := []) (c1 := (betC c (blw (x >>> (zI 5 &&& 31)) (t.1 3)) (((t.1 5) - 1) - (blw (x >>> (zI 9 &&& 31)) (min 2 (t.1 5)))) (1 + (blw (x >>> (zI 6 &&& 31)) 30)) v868)) (As := [.int (zI (blw (x >>> (zI 5 &&& 31)) (t.1 3))), .int (zI (((t.1 5) - 1) - (blw (x >>> (zI 9 &&& 31)) (min 2 (t.1 5))))), .int (zI (1 + (blw (x >>> (zI 6 &&& 31)) 30))), .int (zI v868)]) (rest := []) S (m_X4_bet l D g a c hI hst hda (blw (x >>> (zI 5 &&& 31)) (t.1 3)) (((t.1 5) - 1) - (blw (x >>> (zI 9 &&& 31)) (min 2 (t.1 5)))) (1 + (blw (x >>> (zI 6 &&& 31)) 30)) v868 (by omega) (by omega) (by omega) (by omega) (by omega)) ml_L_85 im_X4_bet se_X4_bet cd_X4_bet ds_X4_bet ⟨Nat.le_of_ble_eq_true rfl, Nat.le_of_ble_eq_true rfl⟩ hX hZ hP hD hAc hS rfl hl.1 rfl (Nat.le_of_ble_eq_true rfl) ⟨(Nat.le_of_ble_eq_true rfl), (Nat.le_of_ble_eq_true rfl)⟩ dL_act_971 (fun E ce q9 H locs hx hP hS hc1 hc2 hc3 => ?_) (fun hok H locs hP hD hS => ?_)
              · rcases hx with ⟨hk, rfl⟩ | ⟨hk, rfl⟩ | ⟨hk, rfl⟩
                · exact absurd hk (by rw [hk3]; split <;> decide)
                · exact absurd hk (by rw [hk3]; split <;> decide)
                · refine vx_catch (name := eS) (E := eS) S.2.2.2.1 [⟨299, 339, 342, 38⟩, ⟨567, 576, 579, 38⟩, ⟨773, 782, 785, 38⟩] ⟨962, 996, 997, 38⟩ [⟨1069, 1079, 1082, 38⟩] (by rw [htab]; rfl) (fun z hz => (List.mem_cons.mp hz).elim (fun h => by subst h; exact Or.inl (by decide)) (fun hz => (fun z hz => (List.mem_cons.mp hz).elim (fun h => by subst h; exact Or.inl (by decide)) (fun hz => (fun z hz => (List.mem_cons.mp hz).elim (fun h => by subst h; exact Or.inl (by decide)) (fun hz => (fun z hz => absurd hz List.not_mem_nil) z hz)) z hz)) z hz)) (by decide) (by decide) (S.2.2.2.2 _ cl_L_38) (xw_use (XWl_x _ cx_S) (hX.2.1 _ cx_S)) hc1 hc2 hc3 ?_
                  have hP : va_P D vwCl (CW g a c ++ SW g b t) H := hP
                  have hD : va_D A (CW g a c ++ SW g b t) := hD
                  refine lv_astore (lv' := [(12, .ref q9), (11, .int (zI v916)), (10, .int (zI v868)), (9, .int (zI (1 + (blw (x >>> (zI 6 &&& 31)) 30)))), (8, .int (zI (((t.1 5) - 1) - (blw (x >>> (zI 9 &&& 31)) (min 2 (t.1 5)))))), (5, .int (zI (blw (x >>> (zI 5 &&& 31)) (t.1 3)))), (4, .int (zI (blw (x >>> (zI 6 &&& 31)) 20))), (3, .int (zI (blw (x >>> (zI 4 &&& 31)) 20))), (0, .ref (a 0)), (1, .ref (b 0)), (2, .int x)]) S.1 S.2.1 dL_act_997 hl (by decide) rfl (fun ls hl => ?_)
                  refine lv_iload S.1 S.2.1 dL_act_999 (lv_at hl 1 rfl) ?_
                  refine z_if_ne (tgt := 1008) S dL_act_1001 (by decide) (by omega) (fun h_71 => ?_) (fun h_71 => ?_)
                  · exact absurd h_71 (by omega)
                  · refine z_iconst S dL_act_1004 ?_
                    refine z_goto (tgt := 1009) S dL_act_1005 (by decide) ?_
                    exact y_aretA (c1 := c) (t' := t) (b := b) S hr hlk rfl ⟨IC_up hI (by omega), hT, hR, (by first | rfl | exact hn3), (by first | rfl | exact congrArg (fun z : Nat => (z : Int)) (bAdd_0 _ _ _ _ _) | exact congrArg (fun z : Nat => (z : Int)) (bDel_lo (by omega) (by omega)))⟩ hP hD hB hS ⟨Nat.le_of_ble_eq_true rfl, Nat.le_of_ble_eq_true rfl⟩ dL_act_1009
              · exact absurd hok (by rw [hk3, if_neg hcan]; decide)
            · refine lv_aload_n S.1 S.2.1 dL_act_923 rfl (lv_at hl 8 rfl) ?_
              refine z_get (v := .ref (b 2)) S inA5 hK hP 21 rfl rfl 3 (by decide) fl_L_15 rfl dL_act_924 ?_
              refine lv_iload S.1 S.2.1 dL_act_927 (lv_at hl 4 rfl) ?_
              refine y_ald2 S hK hP 23 rfl (Nat.le_refl _) (by show (t.1 3).toNat < _; omega) (by show _ ∧ _ < (((t.1 3).toNat : Nat) : Int); omega) dL_act_929 ?_
              have hb_72 := hT.d (i := blw (x >>> (zI 5 &&& 31)) (t.1 3)) (by omega)
              refine z_iconst S dL_act_930 ?_
              refine lv_dup2_11 S.1 S.2.1 dL_act_931 rfl rfl ?_
              refine z_iald (F := t.2 1 (blw (x >>> (zI 5 &&& 31)) (t.1 3))) S hK hP (21 + (5 + (sn t 0 + (blw (x >>> (zI 5 &&& 31)) (t.1 3)).toNat))) ((ap_at1 (a := CW g a c) rfl).trans (SW_r1 (b := b) (t := t) (i := blw (x >>> (zI 5 &&& 31)) (t.1 3)) (by show _ ∧ _ < t.1 3; omega))) (by decide) (by omega) dL_act_932 ?_
              refine lv_iload S.1 S.2.1 dL_act_933 (lv_at hl 2 rfl) ?_
              refine z_isub S dL_act_935 ?_
              refine y_iast S hK hP hD hS (21 + (5 + (sn t 0 + (blw (x >>> (zI 5 &&& 31)) (t.1 3)).toNat))) ((ap_at1 (a := CW g a c) rfl).trans (SW_r1 (b := b) (t := t) (i := blw (x >>> (zI 5 &&& 31)) (t.1 3)) (by show _ ∧ _ < t.1 3; omega))) (by decide) (by omega) dL_act_936 (fun H locs hP hD hS => ?_)
              rw [ap_set1 (n := 21) rfl, SW_s1 (t := t) (i := blw (x >>> (zI 5 &&& 31)) (t.1 3)) (by show _ ∧ _ < t.1 3; omega)] at hP hD
              have hP : va_P D vwCl (CW g a c ++ SW g b (tR t 1 (up2 (t.2 1) (blw (x >>> (zI 5 &&& 31)) (t.1 3)) 2 ((t.2 1 (blw (x >>> (zI 5 &&& 31)) (t.1 3)) 2) - (1 + (blw (x >>> (zI 6 &&& 31)) 30)))))) H := hP
              have hD : va_D A (CW g a c ++ SW g b (tR t 1 (up2 (t.2 1) (blw (x >>> (zI 5 &&& 31)) (t.1 3)) 2 ((t.2 1 (blw (x >>> (zI 5 &&& 31)) (t.1 3)) 2) - (1 + (blw (x >>> (zI 6 &&& 31)) 30)))))) := hD
              have hB : SB A b (tR t 1 (up2 (t.2 1) (blw (x >>> (zI 5 &&& 31)) (t.1 3)) 2 ((t.2 1 (blw (x >>> (zI 5 &&& 31)) (t.1 3)) 2) - (1 + (blw (x >>> (zI 6 &&& 31)) 30))))) := hB.cnt ⟨rfl, rfl, rfl, rfl⟩
              refine lv_aload_n S.1 S.2.1 dL_act_937 rfl (lv_at hl 8 rfl) ?_
              refine z_get (v := .ref (b 4)) S inA5 hK hP 21 rfl rfl 5 (by decide) fl_L_66 rfl dL_act_938 ?_
              refine lv_iload S.1 S.2.1 dL_act_941 (lv_at hl 3 rfl) ?_
              refine y_ald2 S hK hP 25 rfl (Nat.le_refl _) (by show (t.1 5).toNat < _; omega) (by show _ ∧ _ < (((t.1 5).toNat : Nat) : Int); omega) dL_act_943 ?_
              have hb_73 := hT.q (i := ((t.1 5) - 1) - (blw (x >>> (zI 9 &&& 31)) (min 2 (t.1 5)))) (by omega)
              refine z_iconst S dL_act_944 ?_
              refine lv_iload S.1 S.2.1 dL_act_945 (lv_at hl 4 rfl) ?_
              refine z_iadd S dL_act_947 ?_
              refine y_joinV (nL := 16) (fun v => (v868 = 1 ∧ v = (1 + (blw (x >>> (zI 6 &&& 31)) 30))) ∨ (v868 = 0 ∧ v = -(1 + (blw (x >>> (zI 6 &&& 31)) 30)))) 961 (lv := [(11, .int (zI v916)), (10, .int (zI v868)), (9, .int (zI (1 + (blw (x >>> (zI 6 &&& 31)) 30)))), (8, .int (zI (((t.1 5) - 1) - (blw (x >>> (zI 9 &&& 31)) (min 2 (t.1 5)))))), (5, .int (zI (blw (x >>> (zI 5 &&& 31)) (t.1 3)))), (4, .int (zI (blw (x >>> (zI 6 &&& 31)) 20))), (3, .int (zI (blw (x >>> (zI 4 &&& 31)) 20))), (0, .ref (a 0)), (1, .ref (b 0)), (2, .int x)]) [.int (zI (4 + (blw (x >>> (zI 5 &&& 31)) (t.1 3)))), .ref (rd b 3 (((t.1 5) - 1) - (blw (x >>> (zI 9 &&& 31)) (min 2 (t.1 5)))).toNat)] (fun J961 => ?_) (fun v961 hv961 ls hl => ?_)
              · refine lv_iload S.1 S.2.1 dL_act_948 (lv_at hl 1 rfl) ?_
                refine z_if_eq (tgt := 958) S dL_act_950 (by decide) (by omega) (fun h_74 => ?_) (fun h_74 => ?_)
                · refine lv_iload S.1 S.2.1 dL_act_958 (lv_at hl 2 rfl) ?_
                  refine z_ineg S dL_act_960 ?_
                  exact J961 (-(1 + (blw (x >>> (zI 6 &&& 31)) 30))) (by omega) ls hl
                · refine lv_iload S.1 S.2.1 dL_act_953 (lv_at hl 2 rfl) ?_
                  refine z_goto (tgt := 961) S dL_act_955 (by decide) ?_
                  exact J961 (1 + (blw (x >>> (zI 6 &&& 31)) 30)) (by omega) ls hl
              · have hl : lv_has ls 16 [(11, .int (zI v916)), (10, .int (zI v868)), (9, .int (zI (1 + (blw (x >>> (zI 6 &&& 31)) 30)))), (8, .int (zI (((t.1 5) - 1) - (blw (x >>> (zI 9 &&& 31)) (min 2 (t.1 5)))))), (5, .int (zI (blw (x >>> (zI 5 &&& 31)) (t.1 3)))), (4, .int (zI (blw (x >>> (zI 6 &&& 31)) 20))), (3, .int (zI (blw (x >>> (zI 4 &&& 31)) 20))), (0, .ref (a 0)), (1, .ref (b 0)), (2, .int x)] := hl
                have hv961 : (v868 = 1 ∧ v961 = (1 + (blw (x >>> (zI 6 &&& 31)) 30))) ∨ (v868 = 0 ∧ v961 = -(1 + (blw (x >>> (zI 6 &&& 31)) 30))) := hv961
                refine y_iast S hK hP hD hS (21 + (5 + (sn (tR t 1 (up2 (t.2 1) (blw (x >>> (zI 5 &&& 31)) (t.1 3)) 2 ((t.2 1 (blw (x >>> (zI 5 &&& 31)) (t.1 3)) 2) - (1 + (blw (x >>> (zI 6 &&& 31)) 30))))) 0 + (sn (tR t 1 (up2 (t.2 1) (blw (x >>> (zI 5 &&& 31)) (t.1 3)) 2 ((t.2 1 (blw (x >>> (zI 5 &&& 31)) (t.1 3)) 2) - (1 + (blw (x >>> (zI 6 &&& 31)) 30))))) 1 + (sn (tR t 1 (up2 (t.2 1) (blw (x >>> (zI 5 &&& 31)) (t.1 3)) 2 ((t.2 1 (blw (x >>> (zI 5 &&& 31)) (t.1 3)) 2) - (1 + (blw (x >>> (zI 6 &&& 31)) 30))))) 2 + (((t.1 5) - 1) - (blw (x >>> (zI 9 &&& 31)) (min 2 (t.1 5)))).toNat))))) ((ap_at1 (a := CW g a c) rfl).trans (SW_r3 (b := b) (t := (tR t 1 (up2 (t.2 1) (blw (x >>> (zI 5 &&& 31)) (t.1 3)) 2 ((t.2 1 (blw (x >>> (zI 5 &&& 31)) (t.1 3)) 2) - (1 + (blw (x >>> (zI 6 &&& 31)) 30)))))) (i := ((t.1 5) - 1) - (blw (x >>> (zI 9 &&& 31)) (min 2 (t.1 5)))) (by show _ ∧ _ < t.1 5; omega))) (by decide) (by omega) dL_act_961 (fun H locs hP hD hS => ?_)
                rw [ap_set1 (n := 21) rfl, SW_s3 (t := (tR t 1 (up2 (t.2 1) (blw (x >>> (zI 5 &&& 31)) (t.1 3)) 2 ((t.2 1 (blw (x >>> (zI 5 &&& 31)) (t.1 3)) 2) - (1 + (blw (x >>> (zI 6 &&& 31)) 30)))))) (i := ((t.1 5) - 1) - (blw (x >>> (zI 9 &&& 31)) (min 2 (t.1 5)))) (by show _ ∧ _ < t.1 5; omega)] at hP hD
                have hP : va_P D vwCl (CW g a c ++ SW g b (tR (tR t 1 (up2 (t.2 1) (blw (x >>> (zI 5 &&& 31)) (t.1 3)) 2 ((t.2 1 (blw (x >>> (zI 5 &&& 31)) (t.1 3)) 2) - (1 + (blw (x >>> (zI 6 &&& 31)) 30))))) 3 (up2 (t.2 3) (((t.1 5) - 1) - (blw (x >>> (zI 9 &&& 31)) (min 2 (t.1 5)))) (4 + (blw (x >>> (zI 5 &&& 31)) (t.1 3))) v961))) H := hP
                have hD : va_D A (CW g a c ++ SW g b (tR (tR t 1 (up2 (t.2 1) (blw (x >>> (zI 5 &&& 31)) (t.1 3)) 2 ((t.2 1 (blw (x >>> (zI 5 &&& 31)) (t.1 3)) 2) - (1 + (blw (x >>> (zI 6 &&& 31)) 30))))) 3 (up2 (t.2 3) (((t.1 5) - 1) - (blw (x >>> (zI 9 &&& 31)) (min 2 (t.1 5)))) (4 + (blw (x >>> (zI 5 &&& 31)) (t.1 3))) v961))) := hD
                have hB : SB A b (tR (tR t 1 (up2 (t.2 1) (blw (x >>> (zI 5 &&& 31)) (t.1 3)) 2 ((t.2 1 (blw (x >>> (zI 5 &&& 31)) (t.1 3)) 2) - (1 + (blw (x >>> (zI 6 &&& 31)) 30))))) 3 (up2 (t.2 3) (((t.1 5) - 1) - (blw (x >>> (zI 9 &&& 31)) (min 2 (t.1 5)))) (4 + (blw (x >>> (zI 5 &&& 31)) (t.1 3))) v961)) := hB.cnt ⟨rfl, rfl, rfl, rfl⟩
                refine lv_aload_n S.1 S.2.1 dL_act_962 rfl (lv_at hl 7 rfl) ?_
                refine lv_iload S.1 S.2.1 dL_act_963 (lv_at hl 4 rfl) ?_
                refine lv_iload S.1 S.2.1 dL_act_965 (lv_at hl 3 rfl) ?_
                refine lv_iload S.1 S.2.1 dL_act_967 (lv_at hl 2 rfl) ?_
                refine lv_iload S.1 S.2.1 dL_act_969 (lv_at hl 1 rfl) ?_
                have hk3 := kBet_3 hR (d := (blw (x >>> (zI 5 &&& 31)) (t.1 3))) (q := (((t.1 5) - 1) - (blw (x >>> (zI 9 &&& 31)) (min 2 (t.1 5))))) (co9 := (1 + (blw (x >>> (zI 6 &&& 31)) 30))) (by omega) (by omega) (by omega) hT
                have hcoin := hR.d (blw (x >>> (zI 5 &&& 31)) (t.1 3)) (by omega) (by omega)
                have hcan : (t.2 3 (((t.1 5) - 1) - (blw (x >>> (zI 9 &&& 31)) (min 2 (t.1 5)))) 3 = 0 ∧ t.2 3 (((t.1 5) - 1) - (blw (x >>> (zI 9 &&& 31)) (min 2 (t.1 5)))) (4 + (blw (x >>> (zI 5 &&& 31)) (t.1 3))) = 0 ∧ (1 + (blw (x >>> (zI 6 &&& 31)) 30)) ≤ t.2 1 (blw (x >>> (zI 5 &&& 31)) (t.1 3)) 2) := by omega
                refine y_xC (X := []) (c1 := (betC c (blw (x >>> (zI 5 &&& 31)) (t.1 3)) (((t.1 5) - 1) - (blw (x >>> (zI 9 &&& 31)) (min 2 (t.1 5)))) (1 + (blw (x >>> (zI 6 &&& 31)) 30)) v868)) (As := [.int (zI (blw (x >>> (zI 5 &&& 31)) (t.1 3))), .int (zI (((t.1 5) - 1) - (blw (x >>> (zI 9 &&& 31)) (min 2 (t.1 5))))), .int (zI (1 + (blw (x >>> (zI 6 &&& 31)) 30))), .int (zI v868)]) (rest := []) S (m_X4_bet l D g a c hI hst hda (blw (x >>> (zI 5 &&& 31)) (t.1 3)) (((t.1 5) - 1) - (blw (x >>> (zI 9 &&& 31)) (min 2 (t.1 5)))) (1 + (blw (x >>> (zI 6 &&& 31)) 30)) v868 (by omega) (by omega) (by omega) (by omega) (by omega)) ml_L_85 im_X4_bet se_X4_bet cd_X4_bet ds_X4_bet ⟨Nat.le_of_ble_eq_true rfl, Nat.le_of_ble_eq_true rfl⟩ hX hZ hP hD hAc hS rfl hl.1 rfl (Nat.le_of_ble_eq_true rfl) ⟨(Nat.le_of_ble_eq_true rfl), (Nat.le_of_ble_eq_true rfl)⟩ dL_act_971 (fun E ce q9 H locs hx hP hS hc1 hc2 hc3 => ?_) (fun hok H locs hP hD hS => ?_)
                · rcases hx with ⟨hk, rfl⟩ | ⟨hk, rfl⟩ | ⟨hk, rfl⟩
                  · exact absurd hk (by rw [hk3]; split <;> decide)
                  · exact absurd hk (by rw [hk3]; split <;> decide)
                  · exact absurd hk (by rw [hk3, if_pos hcan]; decide)
                · have hP : va_P D vwCl (CW g a (betC c (blw (x >>> (zI 5 &&& 31)) (t.1 3)) (((t.1 5) - 1) - (blw (x >>> (zI 9 &&& 31)) (min 2 (t.1 5)))) (1 + (blw (x >>> (zI 6 &&& 31)) 30)) v868) ++ SW g b (tR (tR t 1 (up2 (t.2 1) (blw (x >>> (zI 5 &&& 31)) (t.1 3)) 2 ((t.2 1 (blw (x >>> (zI 5 &&& 31)) (t.1 3)) 2) - (1 + (blw (x >>> (zI 6 &&& 31)) 30))))) 3 (up2 (t.2 3) (((t.1 5) - 1) - (blw (x >>> (zI 9 &&& 31)) (min 2 (t.1 5)))) (4 + (blw (x >>> (zI 5 &&& 31)) (t.1 3))) v961))) H := hP
                  have hD : va_D A (CW g a (betC c (blw (x >>> (zI 5 &&& 31)) (t.1 3)) (((t.1 5) - 1) - (blw (x >>> (zI 9 &&& 31)) (min 2 (t.1 5)))) (1 + (blw (x >>> (zI 6 &&& 31)) 30)) v868) ++ SW g b (tR (tR t 1 (up2 (t.2 1) (blw (x >>> (zI 5 &&& 31)) (t.1 3)) 2 ((t.2 1 (blw (x >>> (zI 5 &&& 31)) (t.1 3)) 2) - (1 + (blw (x >>> (zI 6 &&& 31)) 30))))) 3 (up2 (t.2 3) (((t.1 5) - 1) - (blw (x >>> (zI 9 &&& 31)) (min 2 (t.1 5)))) (4 + (blw (x >>> (zI 5 &&& 31)) (t.1 3))) v961))) := hD
                  have hIv := IC_up (IC_bet hI (d := (blw (x >>> (zI 5 &&& 31)) (t.1 3))) (q := (((t.1 5) - 1) - (blw (x >>> (zI 9 &&& 31)) (min 2 (t.1 5))))) (co9 := (1 + (blw (x >>> (zI 6 &&& 31)) 30))) (f := v868) (by omega) (by omega) (by omega) (by omega) (by omega)) (show B ≤ B + 100000 ∧ B + 100000 ≤ 1000000000 by omega)
                  have hTv := IT_bet hT (d := (blw (x >>> (zI 5 &&& 31)) (t.1 3))) (q := (((t.1 5) - 1) - (blw (x >>> (zI 9 &&& 31)) (min 2 (t.1 5))))) (co9 := (1 + (blw (x >>> (zI 6 &&& 31)) 30))) (v := v961) (by omega) (by omega) (by omega) (by omega)
                  have hRv := R_bet hR hI hT (d := (blw (x >>> (zI 5 &&& 31)) (t.1 3))) (q := (((t.1 5) - 1) - (blw (x >>> (zI 9 &&& 31)) (min 2 (t.1 5))))) (co9 := (1 + (blw (x >>> (zI 6 &&& 31)) 30))) (f := v868) (v := v961) (by omega) (by omega) (by omega) (by omega) hcan.1 hcan.2.1 hcan.2.2
                  refine lv_aload_n S.1 S.2.1 dL_act_974 rfl (lv_at hl 8 rfl) ?_
                  refine z_get (v := .ref (b 2)) S inA5 hK hP 21 rfl rfl 3 (by decide) fl_L_15 rfl dL_act_975 ?_
                  refine lv_iload S.1 S.2.1 dL_act_978 (lv_at hl 4 rfl) ?_
                  refine y_ald2 S hK hP 23 rfl (Nat.le_refl _) (by show (t.1 3).toNat < _; omega) (by show _ ∧ _ < (((t.1 3).toNat : Nat) : Int); omega) dL_act_980 ?_
                  have hb_75 := hT.d (i := blw (x >>> (zI 5 &&& 31)) (t.1 3)) (by omega)
                  refine z_iconst S dL_act_981 ?_
                  refine z_iald (F := (tR t 1 (up2 (t.2 1) (blw (x >>> (zI 5 &&& 31)) (t.1 3)) 2 ((t.2 1 (blw (x >>> (zI 5 &&& 31)) (t.1 3)) 2) - (1 + (blw (x >>> (zI 6 &&& 31)) 30))))).2 1 (blw (x >>> (zI 5 &&& 31)) (t.1 3))) S hK hP (21 + (5 + (sn (tR (tR t 1 (up2 (t.2 1) (blw (x >>> (zI 5 &&& 31)) (t.1 3)) 2 ((t.2 1 (blw (x >>> (zI 5 &&& 31)) (t.1 3)) 2) - (1 + (blw (x >>> (zI 6 &&& 31)) 30))))) 3 (up2 (t.2 3) (((t.1 5) - 1) - (blw (x >>> (zI 9 &&& 31)) (min 2 (t.1 5)))) (4 + (blw (x >>> (zI 5 &&& 31)) (t.1 3))) v961)) 0 + (blw (x >>> (zI 5 &&& 31)) (t.1 3)).toNat))) ((ap_at1 (a := CW g a (betC c (blw (x >>> (zI 5 &&& 31)) (t.1 3)) (((t.1 5) - 1) - (blw (x >>> (zI 9 &&& 31)) (min 2 (t.1 5)))) (1 + (blw (x >>> (zI 6 &&& 31)) 30)) v868)) rfl).trans (SW_r1 (b := b) (t := (tR (tR t 1 (up2 (t.2 1) (blw (x >>> (zI 5 &&& 31)) (t.1 3)) 2 ((t.2 1 (blw (x >>> (zI 5 &&& 31)) (t.1 3)) 2) - (1 + (blw (x >>> (zI 6 &&& 31)) 30))))) 3 (up2 (t.2 3) (((t.1 5) - 1) - (blw (x >>> (zI 9 &&& 31)) (min 2 (t.1 5)))) (4 + (blw (x >>> (zI 5 &&& 31)) (t.1 3))) v961))) (i := blw (x >>> (zI 5 &&& 31)) (t.1 3)) (by show _ ∧ _ < t.1 3; omega))) (by decide) (by omega) dL_act_982 ?_
                  have hz9 : ((tR t 1 (up2 (t.2 1) (blw (x >>> (zI 5 &&& 31)) (t.1 3)) 2 ((t.2 1 (blw (x >>> (zI 5 &&& 31)) (t.1 3)) 2) - (1 + (blw (x >>> (zI 6 &&& 31)) 30))))).2 1 (blw (x >>> (zI 5 &&& 31)) (t.1 3)) 2) = t.2 1 (blw (x >>> (zI 5 &&& 31)) (t.1 3)) 2 - (1 + (blw (x >>> (zI 6 &&& 31)) 30)) := up2_at
                  refine z_icmp_ne (tgt := 995) S dL_act_983 (by decide) (by omega) (fun h_76 => ?_) (fun h_76 => ?_)
                  · exact absurd h_76 (by omega)
                  · refine lv_iload S.1 S.2.1 dL_act_986 (lv_at hl 0 rfl) ?_
                    refine z_if_eq (tgt := 995) S dL_act_988 (by decide) (by omega) (fun h_77 => ?_) (fun h_77 => ?_)
                    · exact absurd h_77 (by omega)
                    · refine z_iconst S dL_act_991 ?_
                      refine z_goto (tgt := 996) S dL_act_992 (by decide) ?_
                      exact y_aretA (c1 := (betC c (blw (x >>> (zI 5 &&& 31)) (t.1 3)) (((t.1 5) - 1) - (blw (x >>> (zI 9 &&& 31)) (min 2 (t.1 5)))) (1 + (blw (x >>> (zI 6 &&& 31)) 30)) v868)) (t' := (tR (tR t 1 (up2 (t.2 1) (blw (x >>> (zI 5 &&& 31)) (t.1 3)) 2 ((t.2 1 (blw (x >>> (zI 5 &&& 31)) (t.1 3)) 2) - (1 + (blw (x >>> (zI 6 &&& 31)) 30))))) 3 (up2 (t.2 3) (((t.1 5) - 1) - (blw (x >>> (zI 9 &&& 31)) (min 2 (t.1 5)))) (4 + (blw (x >>> (zI 5 &&& 31)) (t.1 3))) v961))) (b := b) S hr hlk rfl ⟨hIv, hTv, hRv, (by first | rfl | exact hn3), (by first | rfl | exact congrArg (fun z : Nat => (z : Int)) (bAdd_0 _ _ _ _ _) | exact congrArg (fun z : Nat => (z : Int)) (bDel_lo (by omega) (by omega)))⟩ hP hD hB hS ⟨Nat.le_of_ble_eq_true rfl, Nat.le_of_ble_eq_true rfl⟩ dL_act_996
      · refine z_iconst S dL_act_811 ?_
        exact y_aretA (c1 := c) (t' := t) (b := b) S hr hlk rfl ⟨IC_up hI (by omega), hT, hR, (by first | rfl | exact hn3), (by first | rfl | exact congrArg (fun z : Nat => (z : Int)) (bAdd_0 _ _ _ _ _) | exact congrArg (fun z : Nat => (z : Int)) (bDel_lo (by omega) (by omega)))⟩ hP hD hB hS ⟨Nat.le_of_ble_eq_true rfl, Nat.le_of_ble_eq_true rfl⟩ dL_act_812
  · have hl : lv_has ls 16 [(5, .int (zI (blw (x >>> (zI 5 &&& 31)) (t.1 3)))), (4, .int (zI (blw (x >>> (zI 6 &&& 31)) 20))), (3, .int (zI (blw (x >>> (zI 4 &&& 31)) 20))), (0, .ref (a 0)), (1, .ref (b 0)), (2, .int x)] := hl
    refine lv_iload_n S.1 S.2.1 dL_act_416 rfl (lv_at hl 5 rfl) ?_
    refine z_bipush S (by decide) dL_act_417 ?_
    refine lv_ishr S.1 S.2.1 dL_act_419 ?_
    refine z_bipush S (by decide) dL_act_420 ?_
    refine z_rS (As := [.int (x >>> (zI 7 &&& 31)), .int (zI 20)]) (rest := []) S (m_L_below l D g (x >>> (zI 7 &&& 31)) 20 (by omega)) ml_L_9 sm_L_below ini_L cd_L_below ds_L_below ⟨Nat.le_of_ble_eq_true rfl, Nat.le_of_ble_eq_true rfl⟩ hK va_P_nil rfl hl.1 rfl (Nat.le_of_ble_eq_true rfl) ⟨Nat.le_of_ble_eq_true rfl, Nat.le_of_ble_eq_true rfl⟩ dL_act_422 ?_
    have hb_78 := blw_b (x >>> (zI 7 &&& 31)) 20 (by omega)
    refine lv_istore (lv' := [(8, .int (zI (blw (x >>> (zI 7 &&& 31)) 20))), (5, .int (zI (blw (x >>> (zI 5 &&& 31)) (t.1 3)))), (4, .int (zI (blw (x >>> (zI 6 &&& 31)) 20))), (3, .int (zI (blw (x >>> (zI 4 &&& 31)) 20))), (0, .ref (a 0)), (1, .ref (b 0)), (2, .int x)]) S.1 S.2.1 dL_act_425 hl (by decide) rfl (fun ls hl => ?_)
    refine lv_iload_n S.1 S.2.1 dL_act_427 rfl (lv_at hl 6 rfl) ?_
    refine z_iconst S dL_act_428 ?_
    refine lv_ishr S.1 S.2.1 dL_act_429 ?_
    refine z_bipush S (by decide) dL_act_430 ?_
    refine z_rS (As := [.int (x >>> (zI 3 &&& 31)), .int (zI 20)]) (rest := []) S (m_L_below l D g (x >>> (zI 3 &&& 31)) 20 (by omega)) ml_L_9 sm_L_below ini_L cd_L_below ds_L_below ⟨Nat.le_of_ble_eq_true rfl, Nat.le_of_ble_eq_true rfl⟩ hK va_P_nil rfl hl.1 rfl (Nat.le_of_ble_eq_true rfl) ⟨Nat.le_of_ble_eq_true rfl, Nat.le_of_ble_eq_true rfl⟩ dL_act_432 ?_
    have hb_79 := blw_b (x >>> (zI 3 &&& 31)) 20 (by omega)
    refine lv_istore (lv' := [(9, .int (zI (blw (x >>> (zI 3 &&& 31)) 20))), (8, .int (zI (blw (x >>> (zI 7 &&& 31)) 20))), (5, .int (zI (blw (x >>> (zI 5 &&& 31)) (t.1 3)))), (4, .int (zI (blw (x >>> (zI 6 &&& 31)) 20))), (3, .int (zI (blw (x >>> (zI 4 &&& 31)) 20))), (0, .ref (a 0)), (1, .ref (b 0)), (2, .int x)]) S.1 S.2.1 dL_act_435 hl (by decide) rfl (fun ls hl => ?_)
    refine lv_aload_n S.1 S.2.1 dL_act_437 rfl (lv_at hl 5 rfl) ?_
    refine lv_iload S.1 S.2.1 dL_act_438 (lv_at hl 2 rfl) ?_
    refine lv_iload_n S.1 S.2.1 dL_act_440 rfl (lv_at hl 4 rfl) ?_
    refine lv_iload S.1 S.2.1 dL_act_441 (lv_at hl 3 rfl) ?_
    refine lv_iload S.1 S.2.1 dL_act_443 (lv_at hl 1 rfl) ?_
    refine lv_iload S.1 S.2.1 dL_act_445 (lv_at hl 0 rfl) ?_
    refine y_wC (X := []) (c1 := (walkC c (blw (x >>> (zI 5 &&& 31)) (t.1 3)) (blw (x >>> (zI 4 &&& 31)) 20) (blw (x >>> (zI 6 &&& 31)) 20) (blw (x >>> (zI 7 &&& 31)) 20) (blw (x >>> (zI 3 &&& 31)) 20))) (As := [.int (zI (blw (x >>> (zI 5 &&& 31)) (t.1 3))), .int (zI (blw (x >>> (zI 4 &&& 31)) 20)), .int (zI (blw (x >>> (zI 6 &&& 31)) 20)), .int (zI (blw (x >>> (zI 7 &&& 31)) 20)), .int (zI (blw (x >>> (zI 3 &&& 31)) 20))]) (rest := []) S (r_X4_walk l D g a c hI hda (blw (x >>> (zI 5 &&& 31)) (t.1 3)) (blw (x >>> (zI 4 &&& 31)) 20) (blw (x >>> (zI 6 &&& 31)) 20) (blw (x >>> (zI 7 &&& 31)) 20) (blw (x >>> (zI 3 &&& 31)) 20) (by omega) (by omega) (by omega)) ml_L_48 im_X4_walk se_X4_walk cd_X4_walk ds_X4_walk ⟨Nat.le_of_ble_eq_true rfl, Nat.le_of_ble_eq_true rfl⟩ hK hP hD hAc hS rfl hl.1 rfl (Nat.le_of_ble_eq_true rfl) ⟨Nat.le_of_ble_eq_true rfl, Nat.le_of_ble_eq_true rfl⟩ dL_act_447 (fun H locs hP hD hS => ?_)
    have hP : va_P D vwCl (CW g a (walkC c (blw (x >>> (zI 5 &&& 31)) (t.1 3)) (blw (x >>> (zI 4 &&& 31)) 20) (blw (x >>> (zI 6 &&& 31)) 20) (blw (x >>> (zI 7 &&& 31)) 20) (blw (x >>> (zI 3 &&& 31)) 20)) ++ SW g b t) H := hP
    have hD : va_D A (CW g a (walkC c (blw (x >>> (zI 5 &&& 31)) (t.1 3)) (blw (x >>> (zI 4 &&& 31)) 20) (blw (x >>> (zI 6 &&& 31)) 20) (blw (x >>> (zI 7 &&& 31)) 20) (blw (x >>> (zI 3 &&& 31)) 20)) ++ SW g b t) := hD
    refine lv_aload_n S.1 S.2.1 dL_act_450 rfl (lv_at hl 6 rfl) ?_
    refine lv_iload S.1 S.2.1 dL_act_451 (lv_at hl 2 rfl) ?_
    refine lv_iload_n S.1 S.2.1 dL_act_453 rfl (lv_at hl 4 rfl) ?_
    refine lv_iload S.1 S.2.1 dL_act_454 (lv_at hl 3 rfl) ?_
    refine lv_iload S.1 S.2.1 dL_act_456 (lv_at hl 1 rfl) ?_
    refine lv_iload S.1 S.2.1 dL_act_458 (lv_at hl 0 rfl) ?_
    refine y_sI (X := []) (PRE := CW g a (walkC c (blw (x >>> (zI 5 &&& 31)) (t.1 3)) (blw (x >>> (zI 4 &&& 31)) 20) (blw (x >>> (zI 6 &&& 31)) 20) (blw (x >>> (zI 7 &&& 31)) 20) (blw (x >>> (zI 3 &&& 31)) 20))) (As := [.int (zI (blw (x >>> (zI 5 &&& 31)) (t.1 3))), .int (zI (blw (x >>> (zI 4 &&& 31)) 20)), .int (zI (blw (x >>> (zI 6 &&& 31)) 20)), .int (zI (blw (x >>> (zI 7 &&& 31)) 20)), .int (zI (blw (x >>> (zI 3 &&& 31)) 20))]) (rest := [.int (zI (walkR c (blw (x >>> (zI 5 &&& 31)) (t.1 3)) (blw (x >>> (zI 4 &&& 31)) 20) (blw (x >>> (zI 6 &&& 31)) 20) (blw (x >>> (zI 7 &&& 31)) 20) (blw (x >>> (zI 3 &&& 31)) 20)))]) S (m_X5_walk l D g b t hT (blw (x >>> (zI 5 &&& 31)) (t.1 3)) (blw (x >>> (zI 4 &&& 31)) 20) (blw (x >>> (zI 6 &&& 31)) 20) (blw (x >>> (zI 7 &&& 31)) 20) (blw (x >>> (zI 3 &&& 31)) 20) (by omega) (by omega)) hB ml_L_52 im_X5_walk se_X5_walk cd_X5_walk ds_X5_walk ⟨Nat.le_of_ble_eq_true rfl, Nat.le_of_ble_eq_true rfl⟩ hK hP hD hA hS rfl hl.1 rfl (Nat.le_of_ble_eq_true rfl) ⟨(Nat.le_of_ble_eq_true rfl), (Nat.le_of_ble_eq_true rfl)⟩ dL_act_460 (fun u460 H locs hu460 hP hD hB hS => ?_)
    have hl : lv_has ls 16 [(9, .int (zI (blw (x >>> (zI 3 &&& 31)) 20))), (8, .int (zI (blw (x >>> (zI 7 &&& 31)) 20))), (5, .int (zI (blw (x >>> (zI 5 &&& 31)) (t.1 3)))), (4, .int (zI (blw (x >>> (zI 6 &&& 31)) 20))), (3, .int (zI (blw (x >>> (zI 4 &&& 31)) 20))), (0, .ref (a 0)), (1, .ref (u460 0)), (2, .int x)] := by rw [hu460]; exact hl
    have hP : va_P D vwCl (CW g a (walkC c (blw (x >>> (zI 5 &&& 31)) (t.1 3)) (blw (x >>> (zI 4 &&& 31)) 20) (blw (x >>> (zI 6 &&& 31)) 20) (blw (x >>> (zI 7 &&& 31)) 20) (blw (x >>> (zI 3 &&& 31)) 20)) ++ SW g u460 (skW t (blw (x >>> (zI 5 &&& 31)) (t.1 3)) (blw (x >>> (zI 4 &&& 31)) 20) (blw (x >>> (zI 6 &&& 31)) 20) (blw (x >>> (zI 7 &&& 31)) 20) (blw (x >>> (zI 3 &&& 31)) 20))) H := hP
    have hD : va_D A (CW g a (walkC c (blw (x >>> (zI 5 &&& 31)) (t.1 3)) (blw (x >>> (zI 4 &&& 31)) 20) (blw (x >>> (zI 6 &&& 31)) 20) (blw (x >>> (zI 7 &&& 31)) 20) (blw (x >>> (zI 3 &&& 31)) 20)) ++ SW g u460 (skW t (blw (x >>> (zI 5 &&& 31)) (t.1 3)) (blw (x >>> (zI 4 &&& 31)) 20) (blw (x >>> (zI 6 &&& 31)) 20) (blw (x >>> (zI 7 &&& 31)) 20) (blw (x >>> (zI 3 &&& 31)) 20))) := hD
    have hB : SB A u460 (skW t (blw (x >>> (zI 5 &&& 31)) (t.1 3)) (blw (x >>> (zI 4 &&& 31)) 20) (blw (x >>> (zI 6 &&& 31)) 20) (blw (x >>> (zI 7 &&& 31)) 20) (blw (x >>> (zI 3 &&& 31)) 20)) := hB
    have hwk := R_walk hR hI hT (d := (blw (x >>> (zI 5 &&& 31)) (t.1 3))) (x := (blw (x >>> (zI 4 &&& 31)) 20)) (y := (blw (x >>> (zI 6 &&& 31)) 20)) (tx := (blw (x >>> (zI 7 &&& 31)) 20)) (ty := (blw (x >>> (zI 3 &&& 31)) 20)) (by omega) (by omega)
    have hRv := hwk.1
    have hIv := IC_up (IC_walk hI (d := (blw (x >>> (zI 5 &&& 31)) (t.1 3))) (x := (blw (x >>> (zI 4 &&& 31)) 20)) (y := (blw (x >>> (zI 6 &&& 31)) 20)) (tx := (blw (x >>> (zI 7 &&& 31)) 20)) (ty := (blw (x >>> (zI 3 &&& 31)) 20)) (by omega)) (show B ≤ B + 100000 ∧ B + 100000 ≤ 1000000000 by omega)
    have hTv := IT_walk hT (d := (blw (x >>> (zI 5 &&& 31)) (t.1 3))) (x := (blw (x >>> (zI 4 &&& 31)) 20)) (y := (blw (x >>> (zI 6 &&& 31)) 20)) (tx := (blw (x >>> (zI 7 &&& 31)) 20)) (ty := (blw (x >>> (zI 3 &&& 31)) 20)) (by omega) (by omega)
    have hws := hTv.s
    have hn3 : (skW t (blw (x >>> (zI 5 &&& 31)) (t.1 3)) (blw (x >>> (zI 4 &&& 31)) 20) (blw (x >>> (zI 6 &&& 31)) 20) (blw (x >>> (zI 7 &&& 31)) 20) (blw (x >>> (zI 3 &&& 31)) 20)).1 3 = t.1 3 := (skC_c t _ _ _ _ _ _).2.2.2.1
    refine z_icmp_ne (tgt := 470) S dL_act_463 (by decide) (by omega) (fun h_80 => ?_) (fun h_80 => ?_)
    · exact absurd hwk.2 h_80
    · refine z_iconst S dL_act_466 ?_
      refine z_goto (tgt := 471) S dL_act_467 (by decide) ?_
      exact y_aretA (c1 := (walkC c (blw (x >>> (zI 5 &&& 31)) (t.1 3)) (blw (x >>> (zI 4 &&& 31)) 20) (blw (x >>> (zI 6 &&& 31)) 20) (blw (x >>> (zI 7 &&& 31)) 20) (blw (x >>> (zI 3 &&& 31)) 20))) (t' := (skW t (blw (x >>> (zI 5 &&& 31)) (t.1 3)) (blw (x >>> (zI 4 &&& 31)) 20) (blw (x >>> (zI 6 &&& 31)) 20) (blw (x >>> (zI 7 &&& 31)) 20) (blw (x >>> (zI 3 &&& 31)) 20))) (b := u460) S hr hlk rfl ⟨hIv, hTv, hRv, (by first | rfl | exact hn3), (by first | rfl | exact congrArg (fun z : Nat => (z : Int)) (bAdd_0 _ _ _ _ _) | exact congrArg (fun z : Nat => (z : Int)) (bDel_lo (by omega) (by omega)) | exact congrArg (fun z : Nat => (z : Int)) hu460)⟩ hP hD hB hS ⟨Nat.le_of_ble_eq_true rfl, Nat.le_of_ble_eq_true rfl⟩ dL_act_471
