/-! THE LAW, whole -/
theorem cw_apart {A : Nat → Prop} {g : ClassId × ClassId × ClassId} {a : Nat → Nat} {c : CS} (hD : va_D A (CW g a c)) : CD 21 a ∧ ∀ q, CA 21 a q → A q := by
  have at_ : ∀ i : Nat, i < 21 → ∃ x, (CW g a c)[i]? = some (a i, x) := fun i hi => by
    obtain ⟨x9, hx9, e9⟩ := CW_adr (g := g) c (q := a i) ⟨i, hi, rfl⟩
    rcases (show i = 0 ∨ i = 1 ∨ i = 2 ∨ i = 3 ∨ i = 4 ∨ i = 5 ∨ i = 6 ∨ i = 7 ∨ i = 8 ∨ i = 9 ∨ i = 10 ∨ i = 11 ∨ i = 12 ∨ i = 13 ∨ i = 14 ∨ i = 15 ∨ i = 16 ∨ i = 17 ∨ i = 18 ∨ i = 19 ∨ i = 20 by omega) with e | e | e | e | e | e | e | e | e | e | e | e | e | e | e | e | e | e | e | e | e <;> subst e <;> exact ⟨_, rfl⟩
  refine ⟨fun i j hi hj e => ?_, fun q hq => ?_⟩
  · obtain ⟨x, hx⟩ := at_ i hi
    obtain ⟨y, hy⟩ := at_ j hj
    exact hD.1 i j _ _ hx hy e
  · obtain ⟨k, hk, e⟩ := hq
    obtain ⟨x, hx⟩ := at_ k hk
    rw [e]; exact hD.2 k _ hx
section SEGM
variable {p : Program} {l : Launch} {e : Env} {s : State} {m : MethodId} {args : Array Value} {below : List Frame} {meth : Method} {co : Code} {Q : State → Prop}
variable {ls : Array Slot} {D : va_G} {A : Nat → Prop} {g : ClassId × ClassId × ClassId} {sc : Nat}
set_option maxHeartbeats 4000000 in
set_option maxRecDepth 100000 in
theorem lw_main {L : Nat} {xs : Nat → Int32} (S : CallFix p m co cL_law 31 s args AW RL) (hX : KX D g s) (hZ : ZQ A s s.heap) (hst : l.stackTraces = false) (hA : ∀ q, s.heap.size ≤ q → A q) (hXs : va_X sc L xs s s.heap) (hsc : ¬ A sc) (hL : L ≤ 260) (hNw : va_Nw (.methodLinkNest RL 97 yX5_init RL) s) (hl : lv_has ls 31 [(0, .ref sc)]) (hP : va_P D vwCl [] s.heap) (hD : va_D A []) (fin : ∀ (H : Heap) (locs : List Loc) (ls : Array Slot) (cells slots : Nat), va_S A s.heap H locs → cells ≤ 600074 → slots ≤ 7301550 → W p l e room_1 s m args below meth co H locs cells slots Q (F0 m 1479 ls [.int (zI 1)])) : W p l e room_1 s m args below meth co s.heap [] 0 0 Q (F0 m 0 ls []) := by
  have hK := hX.1
  have hS : va_S A s.heap s.heap [] := va_S.rf
  refine va_new (ci := 4) (fs := [.null, .null, .null, .null, .int (zI 0), .int (zI 0)]) (C := RX4) (T := TX4) (N := 6) S.1 S.2.1 S.2.2.2.2 inA4 tyX4 tyX4_ok S.2.2.2.1 (S.2.2.2.2 _ cl_L_34) (S.2.2.2.2 _ ins_X4) (S.2.2.2.2 _ ini_X4) hK.1 hP hD hS hA rfl (fun j hj => by rcases (show j = 0 ∨ j = 1 ∨ j = 2 ∨ j = 3 ∨ j = 4 ∨ j = 5 by omega) with rfl | rfl | rfl | rfl | rfl | rfl <;> rfl) (Nat.le_of_ble_eq_true rfl) (Nat.le_of_ble_eq_true rfl) dL_law_0 (fun q0 H hP hD hS => ?_)
  have hP : va_P D vwCl [(q0, .inr (4, [.null, .null, .null, .null, .int (zI 0), .int (zI 0)]))] H := hP
  have hD : va_D A [(q0, .inr (4, [.null, .null, .null, .null, .int (zI 0), .int (zI 0)]))] := hD
  refine lv_dup S.1 S.2.1 dL_law_3 rfl ?_
  refine n_call (rest := [.ref q0]) S (n_X4 l D g q0) ml_L_105 im_X4_init ini_X4 cd_X4_init ds_X4_init rfl ⟨Nat.le_of_ble_eq_true rfl, Nat.le_of_ble_eq_true rfl⟩ hK hP hD hS hA [] 0 [] rfl rfl (by decide) (by decide) hl.1 rfl (Nat.le_of_ble_eq_true rfl) ⟨Nat.le_of_ble_eq_true rfl, Nat.le_of_ble_eq_true rfl⟩ dL_law_4 (fun a H locs ha0 hP hD hS => ?_)
  have hP : va_P D vwCl (CW g a c00) H := hP
  have hD : va_D A (CW g a c00) := hD
  have ha0 : a 0 = q0 := ha0
  rw [← ha0]
  obtain ⟨hda, hAc⟩ := cw_apart hD
  refine W.widen (k := 21) (n := 4301) (Nat.le_of_ble_eq_true rfl) (Nat.le_of_ble_eq_true rfl) ?_
  refine lv_astore_n (lv' := [(1, .ref (a 0)), (0, .ref sc)]) S.1 S.2.1 dL_law_7 rfl hl (by decide) rfl (fun ls hl => ?_)
  refine lv_aload_n S.1 S.2.1 dL_law_8 rfl (lv_at hl 0 rfl) ?_
  refine lv_aload_n S.1 S.2.1 dL_law_9 rfl (lv_at hl 1 rfl) ?_
  refine y_build (rest := []) S hst hda hX hZ hA hXs hsc hL hNw ml_L_106 ⟨Nat.le_of_ble_eq_true rfl, Nat.le_of_ble_eq_true rfl⟩ hP hD hS hl.1 (Nat.le_of_ble_eq_true rfl) ⟨Nat.le_of_ble_eq_true rfl, Nat.le_of_ble_eq_true rfl⟩ dL_law_10 (fun c1 t1 b1 H locs hI hT hR h3 hP hD hB hS => ?_)
  have hP : va_P D vwCl (CW g a c1 ++ SW g b1 t1) H := hP
  have hD : va_D A (CW g a c1 ++ SW g b1 t1) := hD
  have hB : SB A b1 t1 := hB
  refine lv_astore_n (lv' := [(2, .ref (b1 0)), (1, .ref (a 0)), (0, .ref sc)]) S.1 S.2.1 dL_law_13 rfl hl (by decide) rfl (fun ls hl => ?_)
  refine lv_aload_n S.1 S.2.1 dL_law_14 rfl (lv_at hl 0 rfl) ?_
  refine lv_ifnonnull (tgt := 20) S.1 S.2.1 dL_law_15 (by decide) ?_
  refine z_iconst S dL_law_20 ?_
  refine lv_istore_n (lv' := [(3, .int (zI 0)), (2, .ref (b1 0)), (1, .ref (a 0)), (0, .ref sc)]) S.1 S.2.1 dL_law_21 rfl hl (by decide) rfl (fun ls hl => ?_)
  refine y_for (σ := CS × SS × (Nat → Nat)) (D := D) (A := A) (nL := 31) (H0 := s.heap) 12 (fun (u : CS × SS × (Nat → Nat)) => s) (fun (k22 : Nat) (u : CS × SS × (Nat → Nat)) => [(3, .int (zI (k22 : Int))), (2, .ref (u.2.2 0)), (1, .ref (a 0)), (0, .ref sc)]) (fun (k22 : Nat) (u : CS × SS × (Nat → Nat)) => (CW g a u.1 ++ SW g u.2.2 u.2.1)) (fun (k22 : Nat) => 52 + 330 * k22) (fun (k22 : Nat) => 4949 + 10500 * k22) (fun (k22 : Nat) (u : CS × SS × (Nat → Nat)) => IC (1000000 + 500000 * (k22 : Int)) u.1 ∧ IT u.2.1 ∧ RS u.1 u.2.1 ∧ 1 ≤ u.2.1.1 3 ∧ SB A u.2.2 u.2.1) (fun k22 hk22 u hJ22 H locs hP hD hS ls hl ih22 => ?_) (fun u hJ22 H locs hP hD hS ls hl => ?_) 0 (by omega) (⟨c1, t1, b1⟩) (⟨(by show IC (1000000 + 500000 * ((0 : Nat) : Int)) c1; exact IC_up hI (by omega)), hT, hR, h3, hB⟩) _ _ hP hD hS ls (lv_sub hl [0, 1, 2, 3] rfl)
  · have hl : lv_has ls 31 [(3, .int (zI (k22 : Int))), (2, .ref (u.2.2 0)), (1, .ref (a 0)), (0, .ref sc)] := hl
    have hP : va_P D vwCl (CW g a u.1 ++ SW g u.2.2 u.2.1) H := hP
    have hD : va_D A (CW g a u.1 ++ SW g u.2.2 u.2.1) := hD
    have hJ22 : IC (1000000 + 500000 * (k22 : Int)) u.1 ∧ IT u.2.1 ∧ RS u.1 u.2.1 ∧ 1 ≤ u.2.1.1 3 ∧ SB A u.2.2 u.2.1 := hJ22
    obtain ⟨hIu, hTu, hRu, h3u, hB⟩ := hJ22
    refine lv_iload_n S.1 S.2.1 dL_law_22 rfl (lv_at hl 0 rfl) ?_
    refine z_bipush S (by decide) dL_law_23 ?_
    refine z_icmp_ge (tgt := 1474) S dL_law_25 (by decide) (by omega) (fun h_1 => ?_) (fun h_1 => ?_)
    · exact absurd h_1 (by omega)
    · refine lv_aload_n S.1 S.2.1 dL_law_28 rfl (lv_at hl 3 rfl) ?_
      refine lv_iload_n S.1 S.2.1 dL_law_29 rfl (lv_at hl 0 rfl) ?_
      refine y_cell (rest := []) (xs := xs) (L := L) (k := (k22 : Int)) S hXs hsc hL (by omega) ml_L_98 ⟨Nat.le_of_ble_eq_true rfl, Nat.le_of_ble_eq_true rfl⟩ hK hS hl.1 (Nat.le_of_ble_eq_true rfl) ⟨by show 52 + 330 * k22 ≤ 600074; omega, by show 4949 + 10500 * k22 ≤ 7301550; omega⟩ dL_law_30 ?_
      refine z_iconst S dL_law_33 ?_
      refine lv_ishr S.1 S.2.1 dL_law_34 ?_
      refine z_bipush S (by decide) dL_law_35 ?_
      refine lv_iload_n S.1 S.2.1 dL_law_37 rfl (lv_at hl 0 rfl) ?_
      refine z_imul S dL_law_38 ?_
      refine lv_iadd S.1 S.2.1 dL_law_39 ?_
      refine lv_istore (lv' := [(4, .int (((cll xs L (k22 : Int)) >>> (zI 2 &&& 31)) + zI (53 * (k22 : Int)))), (3, .int (zI (k22 : Int))), (2, .ref (u.2.2 0)), (1, .ref (a 0)), (0, .ref sc)]) S.1 S.2.1 dL_law_40 hl (by decide) rfl (fun ls hl => ?_)
      refine z_iconst S dL_law_42 ?_
      refine lv_istore (lv' := [(5, .int (zI 0)), (4, .int (((cll xs L (k22 : Int)) >>> (zI 2 &&& 31)) + zI (53 * (k22 : Int)))), (3, .int (zI (k22 : Int))), (2, .ref (u.2.2 0)), (1, .ref (a 0)), (0, .ref sc)]) S.1 S.2.1 dL_law_43 hl (by decide) rfl (fun ls hl => ?_)
      refine y_for (σ := CS × SS × (Nat → Nat)) (D := D) (A := A) (nL := 31) (H0 := s.heap) 4 (fun (v : CS × SS × (Nat → Nat)) => s) (fun (k45 : Nat) (v : CS × SS × (Nat → Nat)) => [(5, .int (zI (k45 : Int))), (4, .int (((cll xs L (k22 : Int)) >>> (zI 2 &&& 31)) + zI (53 * (k22 : Int)))), (3, .int (zI (k22 : Int))), (2, .ref (v.2.2 0)), (1, .ref (a 0)), (0, .ref sc)]) (fun (k45 : Nat) (v : CS × SS × (Nat → Nat)) => (CW g a v.1 ++ SW g v.2.2 v.2.1)) (fun (k45 : Nat) => 52 + 330 * k22 + 80 * k45) (fun (k45 : Nat) => 4949 + 10500 * k22 + 2600 * k45) (fun (k45 : Nat) (v : CS × SS × (Nat → Nat)) => IC (1000000 + 500000 * (k22 : Int) + 100000 * (k45 : Int)) v.1 ∧ IT v.2.1 ∧ RS v.1 v.2.1 ∧ 1 ≤ v.2.1.1 3 ∧ SB A v.2.2 v.2.1) (fun k45 hk45 v hJ45 H locs hP hD hS ls hl ih45 => ?_) (fun v hJ45 H locs hP hD hS ls hl => ?_) 0 (by omega) (⟨u.1, u.2.1, u.2.2⟩) (⟨(by show IC (1000000 + 500000 * (k22 : Int) + 100000 * ((0 : Nat) : Int)) u.1; exact IC_up hIu (by omega)), hTu, hRu, h3u, hB⟩) _ _ hP hD hS ls (lv_sub hl [0, 1, 2, 3, 4, 5] rfl)
      · have hl : lv_has ls 31 [(5, .int (zI (k45 : Int))), (4, .int (((cll xs L (k22 : Int)) >>> (zI 2 &&& 31)) + zI (53 * (k22 : Int)))), (3, .int (zI (k22 : Int))), (2, .ref (v.2.2 0)), (1, .ref (a 0)), (0, .ref sc)] := hl
        have hP : va_P D vwCl (CW g a v.1 ++ SW g v.2.2 v.2.1) H := hP
        have hD : va_D A (CW g a v.1 ++ SW g v.2.2 v.2.1) := hD
        have hJ45 : IC (1000000 + 500000 * (k22 : Int) + 100000 * (k45 : Int)) v.1 ∧ IT v.2.1 ∧ RS v.1 v.2.1 ∧ 1 ≤ v.2.1.1 3 ∧ SB A v.2.2 v.2.1 := hJ45
        obtain ⟨hIv, hTv, hRv, h3v, hB⟩ := hJ45
        refine lv_iload S.1 S.2.1 dL_law_45 (lv_at hl 0 rfl) ?_
        refine z_iconst S dL_law_47 ?_
        refine z_icmp_ge (tgt := 80) S dL_law_48 (by decide) (by omega) (fun h_2 => ?_) (fun h_2 => ?_)
        · exact absurd h_2 (by omega)
        · refine lv_aload_n S.1 S.2.1 dL_law_51 rfl (lv_at hl 4 rfl) ?_
          refine lv_aload_n S.1 S.2.1 dL_law_52 rfl (lv_at hl 3 rfl) ?_
          refine lv_iload S.1 S.2.1 dL_law_53 (lv_at hl 1 rfl) ?_
          refine z_iconst S dL_law_55 ?_
          refine lv_iload S.1 S.2.1 dL_law_56 (lv_at hl 0 rfl) ?_
          refine z_imul S dL_law_58 ?_
          refine lv_ishr S.1 S.2.1 dL_law_59 ?_
          refine z_bipush S (by decide) dL_law_60 ?_
          refine lv_iload S.1 S.2.1 dL_law_62 (lv_at hl 0 rfl) ?_
          refine z_imul S dL_law_64 ?_
          refine lv_iadd S.1 S.2.1 dL_law_65 ?_
          refine y_act (B := 1000000 + 500000 * (k22 : Int) + 100000 * (k45 : Int)) (rest := []) S hst hda hX hZ hA hIv (by omega) hTv hRv h3v hB (((((cll xs L (k22 : Int)) >>> (zI 2 &&& 31)) + zI (53 * (k22 : Int))) >>> (zI (3 * (k45 : Int)) &&& 31)) + zI (29 * (k45 : Int))) ml_L_110 ⟨Nat.le_of_ble_eq_true rfl, Nat.le_of_ble_eq_true rfl⟩ hP hD hS hl.1 (Nat.le_of_ble_eq_true rfl) ⟨by show 52 + 330 * k22 + 80 * k45 + 80 ≤ 600074; omega, by show 4949 + 10500 * k22 + 2600 * k45 + 2600 ≤ 7301550; omega⟩ dL_law_66 (fun c66 t66 b66 H locs hI66 hT66 hR66 h366 hb66 hP hD hB hS => ?_)
          have hl : lv_has ls 31 [(5, .int (zI (k45 : Int))), (4, .int (((cll xs L (k22 : Int)) >>> (zI 2 &&& 31)) + zI (53 * (k22 : Int)))), (3, .int (zI (k22 : Int))), (2, .ref (b66 0)), (1, .ref (a 0)), (0, .ref sc)] := by rw [hb66]; exact hl
          have hP : va_P D vwCl (CW g a c66 ++ SW g b66 t66) H := hP
          have hD : va_D A (CW g a c66 ++ SW g b66 t66) := hD
          have hB : SB A b66 t66 := hB
          refine z_if_ne (tgt := 74) S dL_law_69 (by decide) (by omega) (fun h_3 => ?_) (fun h_3 => ?_)
          · refine z_iinc (lv' := [(5, .int (zI ((k45 : Int) + 1))), (4, .int (((cll xs L (k22 : Int)) >>> (zI 2 &&& 31)) + zI (53 * (k22 : Int)))), (3, .int (zI (k22 : Int))), (2, .ref (b66 0)), (1, .ref (a 0)), (0, .ref sc)]) S dL_law_74 hl (k := 0) rfl (by decide) rfl (fun ls hl => ?_)
            refine z_goto (tgt := 45) S dL_law_77 (by decide) ?_
            refine W.widen (k := 52 + 330 * k22 + 80 * (k45 + 1)) (n := 4949 + 10500 * k22 + 2600 * (k45 + 1)) (by omega) (by omega) ?_
            exact ih45 (⟨c66, t66, b66⟩) (⟨IC_up hI66 (by omega), hT66, hR66, (by show 1 ≤ t66.1 3; omega), hB⟩) _ _ hP hD hS _ (lv_sub hl [0, 1, 2, 3, 4, 5] rfl)
          · exact absurd h_3 (by omega)
      · have hl : lv_has ls 31 [(5, .int (zI ((4 : Nat) : Int))), (4, .int (((cll xs L (k22 : Int)) >>> (zI 2 &&& 31)) + zI (53 * (k22 : Int)))), (3, .int (zI (k22 : Int))), (2, .ref (v.2.2 0)), (1, .ref (a 0)), (0, .ref sc)] := hl
        have hP : va_P D vwCl (CW g a v.1 ++ SW g v.2.2 v.2.1) H := hP
        have hD : va_D A (CW g a v.1 ++ SW g v.2.2 v.2.1) := hD
        have hJ45 : IC (1000000 + 500000 * (k22 : Int) + 100000 * ((4 : Nat) : Int)) v.1 ∧ IT v.2.1 ∧ RS v.1 v.2.1 ∧ 1 ≤ v.2.1.1 3 ∧ SB A v.2.2 v.2.1 := hJ45
        obtain ⟨hIv, hTv, hRv, h3v, hB⟩ := hJ45
        refine lv_iload S.1 S.2.1 dL_law_45 (lv_at hl 0 rfl) ?_
        refine z_iconst S dL_law_47 ?_
        refine z_icmp_ge (tgt := 80) S dL_law_48 (by decide) (by omega) (fun h_4 => ?_) (fun h_4 => ?_)
        · have hB8 : 1000000 + 500000 * (k22 : Int) + 100000 * ((4 : Nat) : Int) ≤ 800000000 := by omega
          refine lw_C S hX hZ hst hda hA hAc hIv hB8 hTv hRv h3v hB ⟨by omega, by omega⟩ hP hD hS (lv_sub hl [5, 4, 3, 2, 1] rfl) (fun H locs ls hP hD hS hl => ?_)
          refine lw_D S hX hZ hst hda hA hAc hIv hB8 hTv hRv h3v hB ⟨by omega, by omega⟩ hP hD hS hl (fun q297 q303 H locs ls hP hD hS hl => ?_)
          refine lw_E S hX hZ hst hda hA hAc hIv hB8 hTv hRv h3v hB ⟨by omega, by omega⟩ hP hD hS hl (fun c9 d H locs ls hI9 hR9 hd hP hD hS hl => ?_)
          refine lw_F S hX hZ hst hda hA hAc hI9 hB8 hTv hR9 h3v hB hd ⟨by omega, by omega⟩ hP hD hS hl (fun H locs ls hP hD hS hl => ?_)
          refine lw_G S hX hZ hst hda hA hAc hI9 hB8 hTv hR9 h3v hB ⟨by omega, by omega⟩ hP hD hS hl (fun H locs ls hP hD hS hl => ?_)
          refine lw_H S hX hZ hst hda hA hAc hI9 hB8 hTv hR9 h3v hB ⟨by omega, by omega⟩ hP hD hS hl (fun c2 t2 H locs ls hI2 hT2 hR2 h32 hB2 hP hD hS hl => ?_)
          have hB := hB2
          refine W.widen (k := 52 + 330 * k22 + 80 * 4 + 6) (n := 4949 + 10500 * k22 + 2600 * 4 + 58) (by omega) (by omega) ?_
          have hP : va_P D vwCl (CW g a c2 ++ SW g v.2.2 t2) H := hP
          have hD : va_D A (CW g a c2 ++ SW g v.2.2 t2) := hD
          have hl : lv_has ls 31 [(0, .ref sc), (1, .ref (a 0)), (2, .ref (v.2.2 0)), (3, .int (zI (k22 : Int))), (4, .int (((cll xs L (k22 : Int)) >>> (zI 2 &&& 31)) + zI (53 * (k22 : Int))))] := hl
          refine z_iinc (lv' := [(3, .int (zI ((k22 : Int) + 1))), (0, .ref sc), (1, .ref (a 0)), (2, .ref (v.2.2 0)), (4, .int (((cll xs L (k22 : Int)) >>> (zI 2 &&& 31)) + zI (53 * (k22 : Int))))]) S dL_law_1468 hl (k := 3) rfl (by decide) rfl (fun ls hl => ?_)
          refine z_goto (tgt := 22) S dL_law_1471 (by decide) ?_
          refine W.widen (k := 52 + 330 * (k22 + 1)) (n := 4949 + 10500 * (k22 + 1)) (by omega) (by omega) ?_
          exact ih22 (⟨c2, t2, v.2.2⟩) (⟨IC_up hI2 (by omega), hT2, hR2, (by show 1 ≤ t2.1 3; omega), hB⟩) _ _ hP hD hS _ (lv_sub hl [0, 3, 2, 1] rfl)
        · exact absurd h_4 (by omega)
  · have hl : lv_has ls 31 [(3, .int (zI ((12 : Nat) : Int))), (2, .ref (u.2.2 0)), (1, .ref (a 0)), (0, .ref sc)] := hl
    have hP : va_P D vwCl (CW g a u.1 ++ SW g u.2.2 u.2.1) H := hP
    have hD : va_D A (CW g a u.1 ++ SW g u.2.2 u.2.1) := hD
    have hJ22 : IC (1000000 + 500000 * ((12 : Nat) : Int)) u.1 ∧ IT u.2.1 ∧ RS u.1 u.2.1 ∧ 1 ≤ u.2.1.1 3 ∧ SB A u.2.2 u.2.1 := hJ22
    obtain ⟨hIu, hTu, hRu, h3u, hB⟩ := hJ22
    refine lv_iload_n S.1 S.2.1 dL_law_22 rfl (lv_at hl 0 rfl) ?_
    refine z_bipush S (by decide) dL_law_23 ?_
    refine z_icmp_ge (tgt := 1474) S dL_law_25 (by decide) (by omega) (fun h_5 => ?_) (fun h_5 => ?_)
    · refine lv_aload_n S.1 S.2.1 dL_law_1474 rfl (lv_at hl 1 rfl) ?_
      refine lv_aload_n S.1 S.2.1 dL_law_1475 rfl (lv_at hl 2 rfl) ?_
      refine y_look (rest := []) S hX hA hIu hTu hRu ml_L_149 ⟨Nat.le_of_ble_eq_true rfl, Nat.le_of_ble_eq_true rfl⟩ hP hD hS hl.1 (Nat.le_of_ble_eq_true rfl) ⟨by show 52 + 330 * 12 + 22 ≤ 600074; omega, by show 4949 + 10500 * 12 + 134 ≤ 7301550; omega⟩ dL_law_1476 (fun H locs hS => ?_)
      exact fin _ _ _ _ _ hS (by omega) (by omega)
    · exact absurd h_5 (by omega)
end SEGM
