/-! THE LAST LOOK -/
set_option maxHeartbeats 4000000 in
set_option maxRecDepth 100000 in
theorem m_X5_isSame (l : Launch) (D : va_G) (g : ClassId × ClassId × ClassId) (a b : Nat → Nat) {B : Int} (c : CS) (t : SS) (hI : IC B c) (hT : IT t) (hR : RS c t) : ∀ (sz : Nat) (A : Nat → Prop), A = va_A (CW g a c ++ SW g b t) sz → va_D A (CW g a c ++ SW g b t) → Met l yX5_isSame (WS yX5_isSame cX5_isSame 10 (some .boolean)) { frames := 6, cells := 22, slots := 134, locals := 133 } (va_Pc [.ref (b 0), .ref (a 0)] (NP D g (CW g a c ++ SW g b t) sz)) (va_Qi (fun v (_ : Unit) => v = zI 1) (fun _ _ => True) A) 22 134 A := by
  intro sz A hAe hDs
  refine v_enter RX5 (by decide) rfl (Nat.le_of_ble_eq_true rfl) ?_
  intro p e s m args below meth co S hr hlk hz hK hP ls hl
  have hA : ∀ q, s.heap.size ≤ q → A q := by rw [hAe]; intro q h; exact Or.inr (by omega)
  have hS : va_S A s.heap s.heap [] := va_S.rf
  have hD := hDs
  have hs := hT.s
  have hc := hI.s
  have hn := hR.n
  have hl : lv_has ls 10 [(0, .ref (b 0)), (1, .ref (a 0))] := hl
  refine z_bipush S (by decide) dX5_isSame_0 ?_
  refine y_newi S hK hP hD hS (fun q9 h9 => hA q9 (Nat.le_trans hS.1 h9)) 9 (by decide) (Nat.le_of_ble_eq_true rfl) (Nat.le_of_ble_eq_true rfl) dX5_isSame_2 (fun q2 H hq9 hk9 hP hD hS => ?_)
  have hP : va_P D vwCl ([(q2, .inl (g.1, 9, .inl (zA (fun _ => 0))))] ++ (CW g a c ++ SW g b t)) H := hP
  have hD : va_D A ([(q2, .inl (g.1, 9, .inl (zA (fun _ => 0))))] ++ (CW g a c ++ SW g b t)) := hD
  refine lv_dup S.1 S.2.1 dX5_isSame_4 rfl ?_
  refine z_iconst S dX5_isSame_5 ?_
  refine lv_aload_n S.1 S.2.1 dX5_isSame_6 rfl (lv_at hl 0 rfl) ?_
  refine z_get (v := .ref (b 1)) S inA5 hK hP 22 rfl rfl 2 (by decide) fl_X5_15 rfl dX5_isSame_7 ?_
  refine y_alen S hK hP 23 rfl (v := t.1 2) (by show (((t.1 2).toNat : Nat) : Int) = _; omega) dX5_isSame_10 ?_
  refine y_iast (F := fun _ => 0) S hK hP hD hS 0 rfl (by decide) (by omega) dX5_isSame_11 (fun H locs hP hD hS => ?_)
  have hP : va_P D vwCl ([(q2, .inl (g.1, 9, .inl (zA (upZ (fun _ => 0) 0 (t.1 2)))))] ++ (CW g a c ++ SW g b t)) H := hP
  have hD : va_D A ([(q2, .inl (g.1, 9, .inl (zA (upZ (fun _ => 0) 0 (t.1 2)))))] ++ (CW g a c ++ SW g b t)) := hD
  refine lv_dup S.1 S.2.1 dX5_isSame_12 rfl ?_
  refine z_iconst S dX5_isSame_13 ?_
  refine lv_aload_n S.1 S.2.1 dX5_isSame_14 rfl (lv_at hl 0 rfl) ?_
  refine z_get (v := .ref (b 2)) S inA5 hK hP 22 rfl rfl 3 (by decide) fl_X5_19 rfl dX5_isSame_15 ?_
  refine y_alen S hK hP 24 rfl (v := t.1 3) (by show (((t.1 3).toNat : Nat) : Int) = _; omega) dX5_isSame_18 ?_
  refine y_iast (F := upZ (fun _ => 0) 0 (t.1 2)) S hK hP hD hS 0 rfl (by decide) (by omega) dX5_isSame_19 (fun H locs hP hD hS => ?_)
  have hP : va_P D vwCl ([(q2, .inl (g.1, 9, .inl (zA (upZ (upZ (fun _ => 0) 0 (t.1 2)) 1 (t.1 3)))))] ++ (CW g a c ++ SW g b t)) H := hP
  have hD : va_D A ([(q2, .inl (g.1, 9, .inl (zA (upZ (upZ (fun _ => 0) 0 (t.1 2)) 1 (t.1 3)))))] ++ (CW g a c ++ SW g b t)) := hD
  refine lv_dup S.1 S.2.1 dX5_isSame_20 rfl ?_
  refine z_iconst S dX5_isSame_21 ?_
  refine lv_aload_n S.1 S.2.1 dX5_isSame_22 rfl (lv_at hl 0 rfl) ?_
  refine z_get (v := .ref (b 3)) S inA5 hK hP 22 rfl rfl 4 (by decide) fl_X5_22 rfl dX5_isSame_23 ?_
  refine y_alen S hK hP 25 rfl (v := t.1 4) (by show (((t.1 4).toNat : Nat) : Int) = _; omega) dX5_isSame_26 ?_
  refine y_iast (F := upZ (upZ (fun _ => 0) 0 (t.1 2)) 1 (t.1 3)) S hK hP hD hS 0 rfl (by decide) (by omega) dX5_isSame_27 (fun H locs hP hD hS => ?_)
  have hP : va_P D vwCl ([(q2, .inl (g.1, 9, .inl (zA (upZ (upZ (upZ (fun _ => 0) 0 (t.1 2)) 1 (t.1 3)) 2 (t.1 4)))))] ++ (CW g a c ++ SW g b t)) H := hP
  have hD : va_D A ([(q2, .inl (g.1, 9, .inl (zA (upZ (upZ (upZ (fun _ => 0) 0 (t.1 2)) 1 (t.1 3)) 2 (t.1 4)))))] ++ (CW g a c ++ SW g b t)) := hD
  refine lv_dup S.1 S.2.1 dX5_isSame_28 rfl ?_
  refine z_iconst S dX5_isSame_29 ?_
  refine lv_aload_n S.1 S.2.1 dX5_isSame_30 rfl (lv_at hl 0 rfl) ?_
  refine z_get (v := .ref (b 4)) S inA5 hK hP 22 rfl rfl 5 (by decide) fl_X5_25 rfl dX5_isSame_31 ?_
  refine y_alen S hK hP 26 rfl (v := t.1 5) (by show (((t.1 5).toNat : Nat) : Int) = _; omega) dX5_isSame_34 ?_
  refine y_iast (F := upZ (upZ (upZ (fun _ => 0) 0 (t.1 2)) 1 (t.1 3)) 2 (t.1 4)) S hK hP hD hS 0 rfl (by decide) (by omega) dX5_isSame_35 (fun H locs hP hD hS => ?_)
  have hP : va_P D vwCl ([(q2, .inl (g.1, 9, .inl (zA (upZ (upZ (upZ (upZ (fun _ => 0) 0 (t.1 2)) 1 (t.1 3)) 2 (t.1 4)) 3 (t.1 5)))))] ++ (CW g a c ++ SW g b t)) H := hP
  have hD : va_D A ([(q2, .inl (g.1, 9, .inl (zA (upZ (upZ (upZ (upZ (fun _ => 0) 0 (t.1 2)) 1 (t.1 3)) 2 (t.1 4)) 3 (t.1 5)))))] ++ (CW g a c ++ SW g b t)) := hD
  refine lv_dup S.1 S.2.1 dX5_isSame_36 rfl ?_
  refine z_iconst S dX5_isSame_37 ?_
  refine lv_aload_n S.1 S.2.1 dX5_isSame_38 rfl (lv_at hl 0 rfl) ?_
  refine z_get (v := .int (zI (t.1 0))) S inA5 hK hP 22 rfl rfl 0 (by decide) fl_X5_7 rfl dX5_isSame_39 ?_
  refine y_iast (F := upZ (upZ (upZ (upZ (fun _ => 0) 0 (t.1 2)) 1 (t.1 3)) 2 (t.1 4)) 3 (t.1 5)) S hK hP hD hS 0 rfl (by decide) (by omega) dX5_isSame_42 (fun H locs hP hD hS => ?_)
  have hP : va_P D vwCl ([(q2, .inl (g.1, 9, .inl (zA (upZ (upZ (upZ (upZ (upZ (fun _ => 0) 0 (t.1 2)) 1 (t.1 3)) 2 (t.1 4)) 3 (t.1 5)) 4 (t.1 0)))))] ++ (CW g a c ++ SW g b t)) H := hP
  have hD : va_D A ([(q2, .inl (g.1, 9, .inl (zA (upZ (upZ (upZ (upZ (upZ (fun _ => 0) 0 (t.1 2)) 1 (t.1 3)) 2 (t.1 4)) 3 (t.1 5)) 4 (t.1 0)))))] ++ (CW g a c ++ SW g b t)) := hD
  refine lv_dup S.1 S.2.1 dX5_isSame_43 rfl ?_
  refine z_iconst S dX5_isSame_44 ?_
  refine z_iconst S dX5_isSame_45 ?_
  refine y_iast (F := upZ (upZ (upZ (upZ (upZ (fun _ => 0) 0 (t.1 2)) 1 (t.1 3)) 2 (t.1 4)) 3 (t.1 5)) 4 (t.1 0)) S hK hP hD hS 0 rfl (by decide) (by omega) dX5_isSame_46 (fun H locs hP hD hS => ?_)
  have hP : va_P D vwCl ([(q2, .inl (g.1, 9, .inl (zA (upZ (upZ (upZ (upZ (upZ (upZ (fun _ => 0) 0 (t.1 2)) 1 (t.1 3)) 2 (t.1 4)) 3 (t.1 5)) 4 (t.1 0)) 5 0))))] ++ (CW g a c ++ SW g b t)) H := hP
  have hD : va_D A ([(q2, .inl (g.1, 9, .inl (zA (upZ (upZ (upZ (upZ (upZ (upZ (fun _ => 0) 0 (t.1 2)) 1 (t.1 3)) 2 (t.1 4)) 3 (t.1 5)) 4 (t.1 0)) 5 0))))] ++ (CW g a c ++ SW g b t)) := hD
  refine lv_dup S.1 S.2.1 dX5_isSame_47 rfl ?_
  refine z_bipush S (by decide) dX5_isSame_48 ?_
  refine z_iconst S dX5_isSame_50 ?_
  refine y_iast (F := upZ (upZ (upZ (upZ (upZ (upZ (fun _ => 0) 0 (t.1 2)) 1 (t.1 3)) 2 (t.1 4)) 3 (t.1 5)) 4 (t.1 0)) 5 0) S hK hP hD hS 0 rfl (by decide) (by omega) dX5_isSame_51 (fun H locs hP hD hS => ?_)
  have hP : va_P D vwCl ([(q2, .inl (g.1, 9, .inl (zA (upZ (upZ (upZ (upZ (upZ (upZ (upZ (fun _ => 0) 0 (t.1 2)) 1 (t.1 3)) 2 (t.1 4)) 3 (t.1 5)) 4 (t.1 0)) 5 0) 6 0))))] ++ (CW g a c ++ SW g b t)) H := hP
  have hD : va_D A ([(q2, .inl (g.1, 9, .inl (zA (upZ (upZ (upZ (upZ (upZ (upZ (upZ (fun _ => 0) 0 (t.1 2)) 1 (t.1 3)) 2 (t.1 4)) 3 (t.1 5)) 4 (t.1 0)) 5 0) 6 0))))] ++ (CW g a c ++ SW g b t)) := hD
  refine lv_dup S.1 S.2.1 dX5_isSame_52 rfl ?_
  refine z_bipush S (by decide) dX5_isSame_53 ?_
  refine lv_aload_n S.1 S.2.1 dX5_isSame_55 rfl (lv_at hl 0 rfl) ?_
  refine z_get (v := .int (zI (t.1 1))) S inA5 hK hP 22 rfl rfl 1 (by decide) fl_X5_72 rfl dX5_isSame_56 ?_
  refine y_iast (F := upZ (upZ (upZ (upZ (upZ (upZ (upZ (fun _ => 0) 0 (t.1 2)) 1 (t.1 3)) 2 (t.1 4)) 3 (t.1 5)) 4 (t.1 0)) 5 0) 6 0) S hK hP hD hS 0 rfl (by decide) (by omega) dX5_isSame_59 (fun H locs hP hD hS => ?_)
  have hP : va_P D vwCl ([(q2, .inl (g.1, 9, .inl (zA (upZ (upZ (upZ (upZ (upZ (upZ (upZ (upZ (fun _ => 0) 0 (t.1 2)) 1 (t.1 3)) 2 (t.1 4)) 3 (t.1 5)) 4 (t.1 0)) 5 0) 6 0) 7 (t.1 1)))))] ++ (CW g a c ++ SW g b t)) H := hP
  have hD : va_D A ([(q2, .inl (g.1, 9, .inl (zA (upZ (upZ (upZ (upZ (upZ (upZ (upZ (upZ (fun _ => 0) 0 (t.1 2)) 1 (t.1 3)) 2 (t.1 4)) 3 (t.1 5)) 4 (t.1 0)) 5 0) 6 0) 7 (t.1 1)))))] ++ (CW g a c ++ SW g b t)) := hD
  refine lv_dup S.1 S.2.1 dX5_isSame_60 rfl ?_
  refine z_bipush S (by decide) dX5_isSame_61 ?_
  refine z_iconst S dX5_isSame_63 ?_
  refine y_iast (F := upZ (upZ (upZ (upZ (upZ (upZ (upZ (upZ (fun _ => 0) 0 (t.1 2)) 1 (t.1 3)) 2 (t.1 4)) 3 (t.1 5)) 4 (t.1 0)) 5 0) 6 0) 7 (t.1 1)) S hK hP hD hS 0 rfl (by decide) (by omega) dX5_isSame_64 (fun H locs hP hD hS => ?_)
  have hP : va_P D vwCl ([(q2, .inl (g.1, 9, .inl (zA (upZ (upZ (upZ (upZ (upZ (upZ (upZ (upZ (upZ (fun _ => 0) 0 (t.1 2)) 1 (t.1 3)) 2 (t.1 4)) 3 (t.1 5)) 4 (t.1 0)) 5 0) 6 0) 7 (t.1 1)) 8 0))))] ++ (CW g a c ++ SW g b t)) H := hP
  have hD : va_D A ([(q2, .inl (g.1, 9, .inl (zA (upZ (upZ (upZ (upZ (upZ (upZ (upZ (upZ (upZ (fun _ => 0) 0 (t.1 2)) 1 (t.1 3)) 2 (t.1 4)) 3 (t.1 5)) 4 (t.1 0)) 5 0) 6 0) 7 (t.1 1)) 8 0))))] ++ (CW g a c ++ SW g b t)) := hD
  have hw : ([(q2, .inl (g.1, 9, .inl (zA (upZ (upZ (upZ (upZ (upZ (upZ (upZ (upZ (upZ (fun _ => 0) 0 (t.1 2)) 1 (t.1 3)) 2 (t.1 4)) 3 (t.1 5)) 4 (t.1 0)) 5 0) 6 0) 7 (t.1 1)) 8 0))))] ++ (CW g a c ++ SW g b t)) = ([(q2, .inl (g.1, 9, .inl (zA (cF t 0 0 0))))] ++ (CW g a c ++ SW g b t)) := by rw [← cF_0]; rfl
  rw [hw] at hP hD; clear hw
  refine lv_astore_n (lv' := [(2, .ref q2), (0, .ref (b 0)), (1, .ref (a 0))]) S.1 S.2.1 dX5_isSame_65 rfl hl (by decide) rfl (fun ls hl => ?_)
  refine z_iconst S dX5_isSame_66 ?_
  refine lv_istore_n (lv' := [(3, .int (zI 0)), (2, .ref q2), (0, .ref (b 0)), (1, .ref (a 0))]) S.1 S.2.1 dX5_isSame_67 rfl hl (by decide) rfl (fun ls hl => ?_)
  refine y_for (σ := Unit) (D := D) (A := A) (nL := 10) (H0 := s.heap) 20 (fun (_u : Unit) => s) (fun (k68 : Nat) (_u : Unit) => [(3, .int (zI (k68 : Int))), (2, .ref q2), (0, .ref (b 0)), (1, .ref (a 0))]) (fun (k68 : Nat) (_u : Unit) => ([(q2, .inl (g.1, 9, .inl (zA (cF t (wcS t (20 * k68)) 0 0))))] ++ (CW g a c ++ SW g b t))) (fun _ => 1) (fun _ => 9) (fun (k68 : Nat) (_u : Unit) => True) (fun k68 hk68 _u hJ68 H locs hP hD hS ls hl ih68 => ?_) (fun _u hJ68 H locs hP hD hS ls hl => ?_) 0 (by omega) () trivial _ _ hP hD hS ls (lv_sub hl [0, 1, 2, 3] rfl)
  · have hl : lv_has ls 10 [(3, .int (zI (k68 : Int))), (2, .ref q2), (0, .ref (b 0)), (1, .ref (a 0))] := hl
    have hP : va_P D vwCl ([(q2, .inl (g.1, 9, .inl (zA (cF t (wcS t (20 * k68)) 0 0))))] ++ (CW g a c ++ SW g b t)) H := hP
    have hD : va_D A ([(q2, .inl (g.1, 9, .inl (zA (cF t (wcS t (20 * k68)) 0 0))))] ++ (CW g a c ++ SW g b t)) := hD
    refine lv_iload_n S.1 S.2.1 dX5_isSame_68 rfl (lv_at hl 0 rfl) ?_
    refine z_bipush S (by decide) dX5_isSame_69 ?_
    refine z_icmp_ge (tgt := 215) S dX5_isSame_71 (by decide) (by omega) (fun h_1 => ?_) (fun h_1 => ?_)
    · exact absurd h_1 (by omega)
    · refine z_iconst S dX5_isSame_74 ?_
      refine lv_istore (lv' := [(4, .int (zI 0)), (3, .int (zI (k68 : Int))), (2, .ref q2), (0, .ref (b 0)), (1, .ref (a 0))]) S.1 S.2.1 dX5_isSame_75 hl (by decide) rfl (fun ls hl => ?_)
      refine y_for (σ := Unit) (D := D) (A := A) (nL := 10) (H0 := s.heap) 20 (fun (_u : Unit) => s) (fun (k77 : Nat) (_u : Unit) => [(4, .int (zI (k77 : Int))), (3, .int (zI (k68 : Int))), (2, .ref q2), (0, .ref (b 0)), (1, .ref (a 0))]) (fun (k77 : Nat) (_u : Unit) => ([(q2, .inl (g.1, 9, .inl (zA (cF t (wcS t (20 * k68 + k77)) 0 0))))] ++ (CW g a c ++ SW g b t))) (fun _ => 1) (fun _ => 9) (fun (k77 : Nat) (_u : Unit) => True) (fun k77 hk77 _u hJ77 H locs hP hD hS ls hl ih77 => ?_) (fun _u hJ77 H locs hP hD hS ls hl => ?_) 0 (by omega) () trivial _ _ hP hD hS ls (lv_sub hl [0, 1, 2, 3, 4] rfl)
      · have hl : lv_has ls 10 [(4, .int (zI (k77 : Int))), (3, .int (zI (k68 : Int))), (2, .ref q2), (0, .ref (b 0)), (1, .ref (a 0))] := hl
        have hP : va_P D vwCl ([(q2, .inl (g.1, 9, .inl (zA (cF t (wcS t (20 * k68 + k77)) 0 0))))] ++ (CW g a c ++ SW g b t)) H := hP
        have hD : va_D A ([(q2, .inl (g.1, 9, .inl (zA (cF t (wcS t (20 * k68 + k77)) 0 0))))] ++ (CW g a c ++ SW g b t)) := hD
        refine lv_iload S.1 S.2.1 dX5_isSame_77 (lv_at hl 0 rfl) ?_
        refine z_bipush S (by decide) dX5_isSame_79 ?_
        refine z_icmp_ge (tgt := 209) S dX5_isSame_81 (by decide) (by omega) (fun h_2 => ?_) (fun h_2 => ?_)
        · exact absurd h_2 (by omega)
        · refine lv_aload_n S.1 S.2.1 dX5_isSame_84 rfl (lv_at hl 3 rfl) ?_
          refine lv_iload_n S.1 S.2.1 dX5_isSame_85 rfl (lv_at hl 1 rfl) ?_
          refine lv_iload S.1 S.2.1 dX5_isSame_86 (lv_at hl 0 rfl) ?_
          refine z_rV (As := [.int (zI (k68 : Int)), .int (zI (k77 : Int))]) (rest := []) S (m_X5_water l D g b t hT (k68 : Int) (k77 : Int) (by omega)) ml_X5_79 im_X5_water se_X5_water ini_X5 cd_X5_water ds_X5_water ⟨Nat.le_of_ble_eq_true rfl, Nat.le_of_ble_eq_true rfl⟩ hK (va_P_r (va_P_r hP)) (va_recv hK.1 (va_P_r (va_P_r hP)) (ci := 5) (q0 := 0) rfl rfl) rfl hl.1 rfl (Nat.le_of_ble_eq_true rfl) ⟨Nat.le_of_ble_eq_true rfl, Nat.le_of_ble_eq_true rfl⟩ dX5_isSame_88 ?_
          refine lv_istore (lv' := [(5, .int (zI (sWat t (k68 : Int) (k77 : Int)))), (4, .int (zI (k77 : Int))), (3, .int (zI (k68 : Int))), (2, .ref q2), (0, .ref (b 0)), (1, .ref (a 0))]) S.1 S.2.1 dX5_isSame_91 hl (by decide) rfl (fun ls hl => ?_)
          have hwb := sWat_b hT (k68 : Int) (k77 : Int) (t.1 2).toNat (by omega)
          have hwb : 0 ≤ sWat t (k68 : Int) (k77 : Int) ∧ sWat t (k68 : Int) (k77 : Int) ≤ 54 := hwb
          refine lv_aload_n S.1 S.2.1 dX5_isSame_93 rfl (lv_at hl 3 rfl) ?_
          refine z_iconst S dX5_isSame_94 ?_
          refine lv_dup2_11 S.1 S.2.1 dX5_isSame_95 rfl rfl ?_
          refine z_iald (F := cF t (wcS t (20 * k68 + k77)) 0 0) S hK hP 0 rfl (by decide) (by omega) dX5_isSame_96 ?_
          refine z_top (wcS t (20 * k68 + k77)) (by rfl) ?_
          refine y_joinV (nL := 10) (fun v => v = b01 (0 < (sWat t (k68 : Int) (k77 : Int)))) 107 (lv := [(5, .int (zI (sWat t (k68 : Int) (k77 : Int)))), (4, .int (zI (k77 : Int))), (3, .int (zI (k68 : Int))), (2, .ref q2), (0, .ref (b 0)), (1, .ref (a 0))]) [.int (zI (wcS t (20 * k68 + k77))), .int (zI 5), .ref q2] (fun J107 => ?_) (fun v107 hv107 ls hl => ?_)
          · refine lv_iload S.1 S.2.1 dX5_isSame_97 (lv_at hl 0 rfl) ?_
            refine z_if_le (tgt := 106) S dX5_isSame_99 (by decide) (by omega) (fun h_3 => ?_) (fun h_3 => ?_)
            · refine z_iconst S dX5_isSame_106 ?_
              exact J107 0 (b01_is (by omega)) ls hl
            · refine z_iconst S dX5_isSame_102 ?_
              refine z_goto (tgt := 107) S dX5_isSame_103 (by decide) ?_
              exact J107 1 (b01_is (by omega)) ls hl
          · have hl : lv_has ls 10 [(5, .int (zI (sWat t (k68 : Int) (k77 : Int)))), (4, .int (zI (k77 : Int))), (3, .int (zI (k68 : Int))), (2, .ref q2), (0, .ref (b 0)), (1, .ref (a 0))] := hl
            have hv107 : v107 = b01 (0 < (sWat t (k68 : Int) (k77 : Int))) := hv107
            refine z_iadd S dX5_isSame_107 ?_
            refine y_iast (F := cF t (wcS t (20 * k68 + k77)) 0 0) S hK hP hD hS 0 rfl (by decide) (by omega) dX5_isSame_108 (fun H locs hP hD hS => ?_)
            have hP : va_P D vwCl ([(q2, .inl (g.1, 9, .inl (zA (upZ (cF t (wcS t (20 * k68 + k77)) 0 0) 5 ((wcS t (20 * k68 + k77)) + v107)))))] ++ (CW g a c ++ SW g b t)) H := hP
            have hD : va_D A ([(q2, .inl (g.1, 9, .inl (zA (upZ (cF t (wcS t (20 * k68 + k77)) 0 0) 5 ((wcS t (20 * k68 + k77)) + v107)))))] ++ (CW g a c ++ SW g b t)) := hD
            rw [cF_5] at hP hD
            refine lv_iload_n S.1 S.2.1 dX5_isSame_109 rfl (lv_at hl 2 rfl) ?_
            refine lv_iload S.1 S.2.1 dX5_isSame_110 (lv_at hl 1 rfl) ?_
            refine z_iadd S dX5_isSame_112 ?_
            refine z_iconst S dX5_isSame_113 ?_
            refine z_iremn S (by omega) dX5_isSame_114 ?_
            refine z_if_ne (tgt := 203) S dX5_isSame_115 (by decide) (by omega) (fun h_4 => ?_) (fun h_4 => ?_)
            · refine z_iinc (lv' := [(4, .int (zI ((k77 : Int) + 1))), (5, .int (zI (sWat t (k68 : Int) (k77 : Int)))), (3, .int (zI (k68 : Int))), (2, .ref q2), (0, .ref (b 0)), (1, .ref (a 0))]) S dX5_isSame_203 hl (k := 1) rfl (by decide) rfl (fun ls hl => ?_)
              refine z_goto (tgt := 77) S dX5_isSame_206 (by decide) ?_
              have hw : ([(q2, .inl (g.1, 9, .inl (zA (cF t ((wcS t (20 * k68 + k77)) + v107) 0 0))))] ++ (CW g a c ++ SW g b t)) = ([(q2, .inl (g.1, 9, .inl (zA (cF t (wcS t (20 * k68 + (k77 + 1))) 0 0))))] ++ (CW g a c ++ SW g b t)) := by rw [wcS_step (by omega) hv107]
              rw [hw] at hP hD
              exact ih77 () trivial _ _ hP hD hS _ (lv_sub hl [0, 2, 3, 4, 5] rfl)
            · obtain ⟨hq0, hq1, hq3, hq2, hq2b, hq0b, hq1b, hq3b⟩ := S_spot hR hI hT (x := (k68 : Int)) (y := (k77 : Int)) (by omega)
              have hpab := sPA_b hT (k68 : Int) (k77 : Int)
              refine lv_aload_n S.1 S.2.1 dX5_isSame_118 rfl (lv_at hl 5 rfl) ?_
              refine lv_iload_n S.1 S.2.1 dX5_isSame_119 rfl (lv_at hl 2 rfl) ?_
              refine lv_iload S.1 S.2.1 dX5_isSame_120 (lv_at hl 1 rfl) ?_
              refine z_iconst S dX5_isSame_122 ?_
              refine z_rV (As := [.int (zI (k68 : Int)), .int (zI (k77 : Int)), .int (zI 0)]) (rest := []) S (r_X4_spot l D g a c hI (k68 : Int) (k77 : Int) 0 (by omega) (by omega)) ml_X5_82 im_X4_spot se_X4_spot ini_X4 cd_X4_spot ds_X4_spot ⟨Nat.le_of_ble_eq_true rfl, Nat.le_of_ble_eq_true rfl⟩ hK (va_P_l (va_P_r hP)) (va_recv hK.1 (va_P_l (va_P_r hP)) (ci := 4) (q0 := 0) rfl rfl) rfl hl.1 rfl (Nat.le_of_ble_eq_true rfl) ⟨Nat.le_of_ble_eq_true rfl, Nat.le_of_ble_eq_true rfl⟩ dX5_isSame_123 ?_
              refine lv_iload S.1 S.2.1 dX5_isSame_126 (lv_at hl 0 rfl) ?_
              refine z_icmp_ne (tgt := 201) S dX5_isSame_128 (by decide) (by omega) (fun h_5 => ?_) (fun h_5 => ?_)
              · exact absurd h_5 (by omega)
              · refine lv_aload_n S.1 S.2.1 dX5_isSame_131 rfl (lv_at hl 5 rfl) ?_
                refine lv_iload_n S.1 S.2.1 dX5_isSame_132 rfl (lv_at hl 2 rfl) ?_
                refine lv_iload S.1 S.2.1 dX5_isSame_133 (lv_at hl 1 rfl) ?_
                refine z_iconst S dX5_isSame_135 ?_
                refine z_rV (As := [.int (zI (k68 : Int)), .int (zI (k77 : Int)), .int (zI 1)]) (rest := []) S (r_X4_spot l D g a c hI (k68 : Int) (k77 : Int) 1 (by omega) (by omega)) ml_X5_82 im_X4_spot se_X4_spot ini_X4 cd_X4_spot ds_X4_spot ⟨Nat.le_of_ble_eq_true rfl, Nat.le_of_ble_eq_true rfl⟩ hK (va_P_l (va_P_r hP)) (va_recv hK.1 (va_P_l (va_P_r hP)) (ci := 4) (q0 := 0) rfl rfl) rfl hl.1 rfl (Nat.le_of_ble_eq_true rfl) ⟨Nat.le_of_ble_eq_true rfl, Nat.le_of_ble_eq_true rfl⟩ dX5_isSame_136 ?_
                refine lv_aload_n S.1 S.2.1 dX5_isSame_139 rfl (lv_at hl 4 rfl) ?_
                refine lv_iload_n S.1 S.2.1 dX5_isSame_140 rfl (lv_at hl 2 rfl) ?_
                refine lv_iload S.1 S.2.1 dX5_isSame_141 (lv_at hl 1 rfl) ?_
                refine z_rV (As := [.int (zI (k68 : Int)), .int (zI (k77 : Int))]) (rest := [.int (zI (spotT c ((k77 : Int) * 20 + (k68 : Int)) 1))]) S (m_X5_depth l D g b t hT (k68 : Int) (k77 : Int) (by omega)) ml_X5_87 im_X5_depth se_X5_depth ini_X5 cd_X5_depth ds_X5_depth ⟨Nat.le_of_ble_eq_true rfl, Nat.le_of_ble_eq_true rfl⟩ hK (va_P_r (va_P_r hP)) (va_recv hK.1 (va_P_r (va_P_r hP)) (ci := 5) (q0 := 0) rfl rfl) rfl hl.1 rfl (Nat.le_of_ble_eq_true rfl) ⟨Nat.le_of_ble_eq_true rfl, Nat.le_of_ble_eq_true rfl⟩ dX5_isSame_143 ?_
                refine z_icmp_ne (tgt := 201) S dX5_isSame_146 (by decide) (by omega) (fun h_6 => ?_) (fun h_6 => ?_)
                · exact absurd h_6 (by omega)
                · refine y_joinV (nL := 10) (fun v => (0 ≤ spotT c ((k77 : Int) * 20 + (k68 : Int)) 2 ∧ v = 1) ∨ (spotT c ((k77 : Int) * 20 + (k68 : Int)) 2 < 0 ∧ v = 0)) 165 (lv := [(5, .int (zI (sWat t (k68 : Int) (k77 : Int)))), (4, .int (zI (k77 : Int))), (3, .int (zI (k68 : Int))), (2, .ref q2), (0, .ref (b 0)), (1, .ref (a 0))]) [] (fun J165 => ?_) (fun v165 hv165 ls hl => ?_)
                  · refine lv_aload_n S.1 S.2.1 dX5_isSame_149 rfl (lv_at hl 5 rfl) ?_
                    refine lv_iload_n S.1 S.2.1 dX5_isSame_150 rfl (lv_at hl 2 rfl) ?_
                    refine lv_iload S.1 S.2.1 dX5_isSame_151 (lv_at hl 1 rfl) ?_
                    refine z_iconst S dX5_isSame_153 ?_
                    refine z_rV (As := [.int (zI (k68 : Int)), .int (zI (k77 : Int)), .int (zI 2)]) (rest := []) S (r_X4_spot l D g a c hI (k68 : Int) (k77 : Int) 2 (by omega) (by omega)) ml_X5_82 im_X4_spot se_X4_spot ini_X4 cd_X4_spot ds_X4_spot ⟨Nat.le_of_ble_eq_true rfl, Nat.le_of_ble_eq_true rfl⟩ hK (va_P_l (va_P_r hP)) (va_recv hK.1 (va_P_l (va_P_r hP)) (ci := 4) (q0 := 0) rfl rfl) rfl hl.1 rfl (Nat.le_of_ble_eq_true rfl) ⟨Nat.le_of_ble_eq_true rfl, Nat.le_of_ble_eq_true rfl⟩ dX5_isSame_154 ?_
                    refine z_if_lt (tgt := 164) S dX5_isSame_157 (by decide) (by omega) (fun h_7 => ?_) (fun h_7 => ?_)
                    · refine z_iconst S dX5_isSame_164 ?_
                      exact J165 0 (by omega) ls hl
                    · refine z_iconst S dX5_isSame_160 ?_
                      refine z_goto (tgt := 165) S dX5_isSame_161 (by decide) ?_
                      exact J165 1 (by omega) ls hl
                  · have hl : lv_has ls 10 [(5, .int (zI (sWat t (k68 : Int) (k77 : Int)))), (4, .int (zI (k77 : Int))), (3, .int (zI (k68 : Int))), (2, .ref q2), (0, .ref (b 0)), (1, .ref (a 0))] := hl
                    have hv165 : (0 ≤ spotT c ((k77 : Int) * 20 + (k68 : Int)) 2 ∧ v165 = 1) ∨ (spotT c ((k77 : Int) * 20 + (k68 : Int)) 2 < 0 ∧ v165 = 0) := hv165
                    refine y_joinV (nL := 10) (fun v => (0 ≤ sPA t (k68 : Int) (k77 : Int) ∧ v = 1) ∨ (sPA t (k68 : Int) (k77 : Int) < 0 ∧ v = 0)) 180 (lv := [(5, .int (zI (sWat t (k68 : Int) (k77 : Int)))), (4, .int (zI (k77 : Int))), (3, .int (zI (k68 : Int))), (2, .ref q2), (0, .ref (b 0)), (1, .ref (a 0))]) [.int (zI v165)] (fun J180 => ?_) (fun v180 hv180 ls hl => ?_)
                    · refine lv_aload_n S.1 S.2.1 dX5_isSame_165 rfl (lv_at hl 4 rfl) ?_
                      refine lv_iload_n S.1 S.2.1 dX5_isSame_166 rfl (lv_at hl 2 rfl) ?_
                      refine lv_iload S.1 S.2.1 dX5_isSame_167 (lv_at hl 1 rfl) ?_
                      refine z_rV (As := [.int (zI (k68 : Int)), .int (zI (k77 : Int))]) (rest := [.int (zI v165)]) S (m_X5_pegAt l D g b t hT (k68 : Int) (k77 : Int) (by omega)) ml_X5_57 im_X5_pegAt se_X5_pegAt ini_X5 cd_X5_pegAt ds_X5_pegAt ⟨Nat.le_of_ble_eq_true rfl, Nat.le_of_ble_eq_true rfl⟩ hK (va_P_r (va_P_r hP)) (va_recv hK.1 (va_P_r (va_P_r hP)) (ci := 5) (q0 := 0) rfl rfl) rfl hl.1 rfl (Nat.le_of_ble_eq_true rfl) ⟨Nat.le_of_ble_eq_true rfl, Nat.le_of_ble_eq_true rfl⟩ dX5_isSame_169 ?_
                      refine z_if_lt (tgt := 179) S dX5_isSame_172 (by decide) (by omega) (fun h_8 => ?_) (fun h_8 => ?_)
                      · refine z_iconst S dX5_isSame_179 ?_
                        exact J180 0 (by omega) ls hl
                      · refine z_iconst S dX5_isSame_175 ?_
                        refine z_goto (tgt := 180) S dX5_isSame_176 (by decide) ?_
                        exact J180 1 (by omega) ls hl
                    · have hl : lv_has ls 10 [(5, .int (zI (sWat t (k68 : Int) (k77 : Int)))), (4, .int (zI (k77 : Int))), (3, .int (zI (k68 : Int))), (2, .ref q2), (0, .ref (b 0)), (1, .ref (a 0))] := hl
                      have hv180 : (0 ≤ sPA t (k68 : Int) (k77 : Int) ∧ v180 = 1) ∨ (sPA t (k68 : Int) (k77 : Int) < 0 ∧ v180 = 0) := hv180
                      refine z_icmp_ne (tgt := 201) S dX5_isSame_180 (by decide) (by omega) (fun h_9 => ?_) (fun h_9 => ?_)
                      · exact absurd h_9 (by omega)
                      · refine lv_aload_n S.1 S.2.1 dX5_isSame_183 rfl (lv_at hl 5 rfl) ?_
                        refine lv_iload_n S.1 S.2.1 dX5_isSame_184 rfl (lv_at hl 2 rfl) ?_
                        refine lv_iload S.1 S.2.1 dX5_isSame_185 (lv_at hl 1 rfl) ?_
                        refine z_iconst S dX5_isSame_187 ?_
                        refine z_rV (As := [.int (zI (k68 : Int)), .int (zI (k77 : Int)), .int (zI 3)]) (rest := []) S (r_X4_spot l D g a c hI (k68 : Int) (k77 : Int) 3 (by omega) (by omega)) ml_X5_82 im_X4_spot se_X4_spot ini_X4 cd_X4_spot ds_X4_spot ⟨Nat.le_of_ble_eq_true rfl, Nat.le_of_ble_eq_true rfl⟩ hK (va_P_l (va_P_r hP)) (va_recv hK.1 (va_P_l (va_P_r hP)) (ci := 4) (q0 := 0) rfl rfl) rfl hl.1 rfl (Nat.le_of_ble_eq_true rfl) ⟨Nat.le_of_ble_eq_true rfl, Nat.le_of_ble_eq_true rfl⟩ dX5_isSame_188 ?_
                        refine lv_aload_n S.1 S.2.1 dX5_isSame_191 rfl (lv_at hl 4 rfl) ?_
                        refine lv_iload_n S.1 S.2.1 dX5_isSame_192 rfl (lv_at hl 2 rfl) ?_
                        refine lv_iload S.1 S.2.1 dX5_isSame_193 (lv_at hl 1 rfl) ?_
                        refine z_rV (As := [.int (zI (k68 : Int)), .int (zI (k77 : Int))]) (rest := [.int (zI (spotT c ((k77 : Int) * 20 + (k68 : Int)) 3))]) S (m_X5_pitAt l D g b t hT (k68 : Int) (k77 : Int) (by omega)) ml_X5_90 im_X5_pitAt se_X5_pitAt ini_X5 cd_X5_pitAt ds_X5_pitAt ⟨Nat.le_of_ble_eq_true rfl, Nat.le_of_ble_eq_true rfl⟩ hK (va_P_r (va_P_r hP)) (va_recv hK.1 (va_P_r (va_P_r hP)) (ci := 5) (q0 := 0) rfl rfl) rfl hl.1 rfl (Nat.le_of_ble_eq_true rfl) ⟨Nat.le_of_ble_eq_true rfl, Nat.le_of_ble_eq_true rfl⟩ dX5_isSame_195 ?_
                        refine z_icmp_eq (tgt := 203) S dX5_isSame_198 (by decide) (by omega) (fun h_10 => ?_) (fun h_10 => ?_)
                        · refine z_iinc (lv' := [(4, .int (zI ((k77 : Int) + 1))), (5, .int (zI (sWat t (k68 : Int) (k77 : Int)))), (3, .int (zI (k68 : Int))), (2, .ref q2), (0, .ref (b 0)), (1, .ref (a 0))]) S dX5_isSame_203 hl (k := 1) rfl (by decide) rfl (fun ls hl => ?_)
                          refine z_goto (tgt := 77) S dX5_isSame_206 (by decide) ?_
                          have hw : ([(q2, .inl (g.1, 9, .inl (zA (cF t ((wcS t (20 * k68 + k77)) + v107) 0 0))))] ++ (CW g a c ++ SW g b t)) = ([(q2, .inl (g.1, 9, .inl (zA (cF t (wcS t (20 * k68 + (k77 + 1))) 0 0))))] ++ (CW g a c ++ SW g b t)) := by rw [wcS_step (by omega) hv107]
                          rw [hw] at hP hD
                          exact ih77 () trivial _ _ hP hD hS _ (lv_sub hl [0, 2, 3, 4, 5] rfl)
                        · exact absurd h_10 (by omega)
      · have hl : lv_has ls 10 [(4, .int (zI ((20 : Nat) : Int))), (3, .int (zI (k68 : Int))), (2, .ref q2), (0, .ref (b 0)), (1, .ref (a 0))] := hl
        have hP : va_P D vwCl ([(q2, .inl (g.1, 9, .inl (zA (cF t (wcS t (20 * k68 + 20)) 0 0))))] ++ (CW g a c ++ SW g b t)) H := hP
        have hD : va_D A ([(q2, .inl (g.1, 9, .inl (zA (cF t (wcS t (20 * k68 + 20)) 0 0))))] ++ (CW g a c ++ SW g b t)) := hD
        refine lv_iload S.1 S.2.1 dX5_isSame_77 (lv_at hl 0 rfl) ?_
        refine z_bipush S (by decide) dX5_isSame_79 ?_
        refine z_icmp_ge (tgt := 209) S dX5_isSame_81 (by decide) (by omega) (fun h_11 => ?_) (fun h_11 => ?_)
        · refine z_iinc (lv' := [(3, .int (zI ((k68 : Int) + 1))), (4, .int (zI ((20 : Nat) : Int))), (2, .ref q2), (0, .ref (b 0)), (1, .ref (a 0))]) S dX5_isSame_209 hl (k := 1) rfl (by decide) rfl (fun ls hl => ?_)
          refine z_goto (tgt := 68) S dX5_isSame_212 (by decide) ?_
          have hw : ([(q2, .inl (g.1, 9, .inl (zA (cF t (wcS t (20 * k68 + 20)) 0 0))))] ++ (CW g a c ++ SW g b t)) = ([(q2, .inl (g.1, 9, .inl (zA (cF t (wcS t (20 * (k68 + 1))) 0 0))))] ++ (CW g a c ++ SW g b t)) := by exact rfl
          rw [hw] at hP hD
          exact ih68 () trivial _ _ hP hD hS _ (lv_sub hl [0, 2, 3, 4] rfl)
        · exact absurd h_11 (by omega)
  · have hl : lv_has ls 10 [(3, .int (zI ((20 : Nat) : Int))), (2, .ref q2), (0, .ref (b 0)), (1, .ref (a 0))] := hl
    have hP : va_P D vwCl ([(q2, .inl (g.1, 9, .inl (zA (cF t (wcS t (20 * 20)) 0 0))))] ++ (CW g a c ++ SW g b t)) H := hP
    have hD : va_D A ([(q2, .inl (g.1, 9, .inl (zA (cF t (wcS t (20 * 20)) 0 0))))] ++ (CW g a c ++ SW g b t)) := hD
    refine lv_iload_n S.1 S.2.1 dX5_isSame_68 rfl (lv_at hl 0 rfl) ?_
    refine z_bipush S (by decide) dX5_isSame_69 ?_
    refine z_icmp_ge (tgt := 215) S dX5_isSame_71 (by decide) (by omega) (fun h_12 => ?_) (fun h_12 => ?_)
    · refine z_iconst S dX5_isSame_215 ?_
      refine z_iconst S dX5_isSame_216 ?_
      refine y_mna (N := 5) (K := 2) S cl_X5_93 hK hP hD hS hA (by omega) (by omega) (Nat.le_of_ble_eq_true rfl) (Nat.le_of_ble_eq_true rfl) dX5_isSame_217 (fun q217 r217 H hP hD hS => ?_)
      refine W.widen (k := 7) (n := 24) (by show _ + 1 + 5 ≤ _; omega) (by show _ + 5 + 5 * (2 : Int).toNat ≤ _; omega) ?_
      have hP : va_P D vwCl ([(q217, .inl (g.2.2, 5, .inr (.inr (.inr (.inr (rfs 5 r217))))))] ++ (rwW g r217 2 (fun _ _ => 0) 5 ++ ([(q2, .inl (g.1, 9, .inl (zA (cF t (wcS t (20 * 20)) 0 0))))] ++ (CW g a c ++ SW g b t)))) H := hP
      have hD : va_D A ([(q217, .inl (g.2.2, 5, .inr (.inr (.inr (.inr (rfs 5 r217))))))] ++ (rwW g r217 2 (fun _ _ => 0) 5 ++ ([(q2, .inl (g.1, 9, .inl (zA (cF t (wcS t (20 * 20)) 0 0))))] ++ (CW g a c ++ SW g b t)))) := hD
      refine lv_astore_n (lv' := [(3, .ref q217), (2, .ref q2), (0, .ref (b 0)), (1, .ref (a 0))]) S.1 S.2.1 dX5_isSame_221 rfl hl (by decide) rfl (fun ls hl => ?_)
      refine z_iconst S dX5_isSame_222 ?_
      refine lv_istore (lv' := [(4, .int (zI 0)), (3, .ref q217), (2, .ref q2), (0, .ref (b 0)), (1, .ref (a 0))]) S.1 S.2.1 dX5_isSame_223 hl (by decide) rfl (fun ls hl => ?_)
      refine lv_aload_n S.1 S.2.1 dX5_isSame_225 rfl (lv_at hl 3 rfl) ?_
      refine z_get (v := .ref (b 3)) S inA5 hK hP 28 rfl rfl 4 (by decide) fl_X5_22 rfl dX5_isSame_226 ?_
      refine lv_astore (lv' := [(5, .ref (b 3)), (4, .int (zI 0)), (3, .ref q217), (2, .ref q2), (0, .ref (b 0)), (1, .ref (a 0))]) S.1 S.2.1 dX5_isSame_229 hl (by decide) rfl (fun ls hl => ?_)
      refine lv_aload S.1 S.2.1 dX5_isSame_231 (lv_at hl 0 rfl) ?_
      refine y_alen S hK hP 31 rfl (v := t.1 4) (by show (((t.1 4).toNat : Nat) : Int) = _; omega) dX5_isSame_233 ?_
      refine lv_istore (lv' := [(6, .int (zI (t.1 4))), (5, .ref (b 3)), (4, .int (zI 0)), (3, .ref q217), (2, .ref q2), (0, .ref (b 0)), (1, .ref (a 0))]) S.1 S.2.1 dX5_isSame_234 hl (by decide) rfl (fun ls hl => ?_)
      refine z_iconst S dX5_isSame_236 ?_
      refine lv_istore (lv' := [(7, .int (zI 0)), (6, .int (zI (t.1 4))), (5, .ref (b 3)), (4, .int (zI 0)), (3, .ref q217), (2, .ref q2), (0, .ref (b 0)), (1, .ref (a 0))]) S.1 S.2.1 dX5_isSame_237 hl (by decide) rfl (fun ls hl => ?_)
      refine y_for (σ := Unit) (D := D) (A := A) (nL := 10) (H0 := s.heap) ((t.1 4).toNat) (fun (_u : Unit) => s) (fun (k239 : Nat) (_u : Unit) => [(7, .int (zI (k239 : Int))), (6, .int (zI (t.1 4))), (5, .ref (b 3)), (4, .int (zI (watS t k239))), (3, .ref q217), (2, .ref q2), (0, .ref (b 0)), (1, .ref (a 0))]) (fun (k239 : Nat) (_u : Unit) => ([(q217, .inl (g.2.2, 5, .inr (.inr (.inr (.inr (rfs 5 r217))))))] ++ (rwW g r217 2 (hasF t k239) 5 ++ ([(q2, .inl (g.1, 9, .inl (zA (cF t (wcS t (20 * 20)) (peg6 t k239) 0))))] ++ (CW g a c ++ SW g b t))))) (fun _ => 7) (fun _ => 24) (fun (k239 : Nat) (_u : Unit) => True) (fun k239 hk239 _u hJ239 H locs hP hD hS ls hl ih239 => ?_) (fun _u hJ239 H locs hP hD hS ls hl => ?_) 0 (by omega) () trivial _ _ (by rw [hasF_0]; exact hP) (by rw [hasF_0]; exact hD) hS ls (lv_sub hl [0, 1, 2, 3, 4, 5, 6, 7] rfl)
      · have hl : lv_has ls 10 [(7, .int (zI (k239 : Int))), (6, .int (zI (t.1 4))), (5, .ref (b 3)), (4, .int (zI (watS t k239))), (3, .ref q217), (2, .ref q2), (0, .ref (b 0)), (1, .ref (a 0))] := hl
        have hP : va_P D vwCl ([(q217, .inl (g.2.2, 5, .inr (.inr (.inr (.inr (rfs 5 r217))))))] ++ (rwW g r217 2 (hasF t k239) 5 ++ ([(q2, .inl (g.1, 9, .inl (zA (cF t (wcS t (20 * 20)) (peg6 t k239) 0))))] ++ (CW g a c ++ SW g b t)))) H := hP
        have hD : va_D A ([(q217, .inl (g.2.2, 5, .inr (.inr (.inr (.inr (rfs 5 r217))))))] ++ (rwW g r217 2 (hasF t k239) 5 ++ ([(q2, .inl (g.1, 9, .inl (zA (cF t (wcS t (20 * 20)) (peg6 t k239) 0))))] ++ (CW g a c ++ SW g b t)))) := hD
        refine lv_iload S.1 S.2.1 dX5_isSame_239 (lv_at hl 0 rfl) ?_
        refine lv_iload S.1 S.2.1 dX5_isSame_241 (lv_at hl 1 rfl) ?_
        refine z_icmp_ge (tgt := 352) S dX5_isSame_243 (by decide) (by omega) (fun h_13 => ?_) (fun h_13 => ?_)
        · exact absurd h_13 (by omega)
        · refine lv_aload S.1 S.2.1 dX5_isSame_246 (lv_at hl 2 rfl) ?_
          refine lv_iload S.1 S.2.1 dX5_isSame_248 (lv_at hl 0 rfl) ?_
          refine y_ald2 S hK hP 31 rfl (Nat.le_refl _) (by show (t.1 4).toNat < _; omega) (by show _ ∧ _ < (((t.1 4).toNat : Nat) : Int); omega) dX5_isSame_250 ?_
          have hb_14 := hT.p (i := (k239 : Int)) (by omega)
          refine lv_astore (lv' := [(8, .ref (rd b 2 ((k239 : Int)).toNat)), (7, .int (zI (k239 : Int))), (6, .int (zI (t.1 4))), (5, .ref (b 3)), (4, .int (zI (watS t k239))), (3, .ref q217), (2, .ref q2), (0, .ref (b 0)), (1, .ref (a 0))]) S.1 S.2.1 dX5_isSame_251 hl (by decide) rfl (fun ls hl => ?_)
          refine lv_aload_n S.1 S.2.1 dX5_isSame_253 rfl (lv_at hl 7 rfl) ?_
          refine lv_aload S.1 S.2.1 dX5_isSame_254 (lv_at hl 0 rfl) ?_
          refine z_iconst S dX5_isSame_256 ?_
          refine z_iald (F := t.2 2 (k239 : Int)) S hK hP (1 + (5 + (1 + (21 + (5 + (sn t 0 + (sn t 1 + ((k239 : Int)).toNat))))))) ((ap_at1 (n := 1) rfl).trans ((ap_at1 (n := 5) (rwW_len _ _ _ _ _)).trans ((ap_at1 (n := 1) rfl).trans ((ap_at1 (a := CW g a c) rfl).trans (SW_r2 (b := b) (t := t) (i := (k239 : Int)) (by show _ ∧ _ < t.1 4; omega)))))) (by decide) (by omega) dX5_isSame_257 ?_
          refine lv_aload S.1 S.2.1 dX5_isSame_258 (lv_at hl 0 rfl) ?_
          refine z_iconst S dX5_isSame_260 ?_
          refine z_iald (F := t.2 2 (k239 : Int)) S hK hP (1 + (5 + (1 + (21 + (5 + (sn t 0 + (sn t 1 + ((k239 : Int)).toNat))))))) ((ap_at1 (n := 1) rfl).trans ((ap_at1 (n := 5) (rwW_len _ _ _ _ _)).trans ((ap_at1 (n := 1) rfl).trans ((ap_at1 (a := CW g a c) rfl).trans (SW_r2 (b := b) (t := t) (i := (k239 : Int)) (by show _ ∧ _ < t.1 4; omega)))))) (by decide) (by omega) dX5_isSame_261 ?_
          refine z_rV (As := [.int (zI (t.2 2 (k239 : Int) 0)), .int (zI (t.2 2 (k239 : Int) 1))]) (rest := []) S (m_X5_water l D g b t hT (t.2 2 (k239 : Int) 0) (t.2 2 (k239 : Int) 1) (by omega)) ml_X5_79 im_X5_water se_X5_water ini_X5 cd_X5_water ds_X5_water ⟨Nat.le_of_ble_eq_true rfl, Nat.le_of_ble_eq_true rfl⟩ hK (va_P_r (va_P_r (va_P_r (va_P_r hP)))) (va_recv hK.1 (va_P_r (va_P_r (va_P_r (va_P_r hP)))) (ci := 5) (q0 := 0) rfl rfl) rfl hl.1 rfl (Nat.le_of_ble_eq_true rfl) ⟨Nat.le_of_ble_eq_true rfl, Nat.le_of_ble_eq_true rfl⟩ dX5_isSame_262 ?_
          refine lv_istore (lv' := [(9, .int (zI (sWat t (t.2 2 (k239 : Int) 0) (t.2 2 (k239 : Int) 1)))), (8, .ref (rd b 2 ((k239 : Int)).toNat)), (7, .int (zI (k239 : Int))), (6, .int (zI (t.1 4))), (5, .ref (b 3)), (4, .int (zI (watS t k239))), (3, .ref q217), (2, .ref q2), (0, .ref (b 0)), (1, .ref (a 0))]) S.1 S.2.1 dX5_isSame_265 hl (by decide) rfl (fun ls hl => ?_)
          have hpk := S_pegk hR hI hT (k := (k239 : Int)) (by omega)
          have hwb : 0 ≤ sWat t (t.2 2 (k239 : Int) 0) (t.2 2 (k239 : Int) 1) ∧ sWat t (t.2 2 (k239 : Int) 0) (t.2 2 (k239 : Int) 1) ≤ 54 := sWat_b hT (t.2 2 (k239 : Int) 0) (t.2 2 (k239 : Int) 1) (t.1 2).toNat (by omega)
          refine lv_aload_n S.1 S.2.1 dX5_isSame_267 rfl (lv_at hl 9 rfl) ?_
          refine lv_aload S.1 S.2.1 dX5_isSame_268 (lv_at hl 1 rfl) ?_
          refine z_iconst S dX5_isSame_270 ?_
          refine z_iald (F := t.2 2 (k239 : Int)) S hK hP (1 + (5 + (1 + (21 + (5 + (sn t 0 + (sn t 1 + ((k239 : Int)).toNat))))))) ((ap_at1 (n := 1) rfl).trans ((ap_at1 (n := 5) (rwW_len _ _ _ _ _)).trans ((ap_at1 (n := 1) rfl).trans ((ap_at1 (a := CW g a c) rfl).trans (SW_r2 (b := b) (t := t) (i := (k239 : Int)) (by show _ ∧ _ < t.1 4; omega)))))) (by decide) (by omega) dX5_isSame_271 ?_
          refine lv_aload S.1 S.2.1 dX5_isSame_272 (lv_at hl 1 rfl) ?_
          refine z_iconst S dX5_isSame_274 ?_
          refine z_iald (F := t.2 2 (k239 : Int)) S hK hP (1 + (5 + (1 + (21 + (5 + (sn t 0 + (sn t 1 + ((k239 : Int)).toNat))))))) ((ap_at1 (n := 1) rfl).trans ((ap_at1 (n := 5) (rwW_len _ _ _ _ _)).trans ((ap_at1 (n := 1) rfl).trans ((ap_at1 (a := CW g a c) rfl).trans (SW_r2 (b := b) (t := t) (i := (k239 : Int)) (by show _ ∧ _ < t.1 4; omega)))))) (by decide) (by omega) dX5_isSame_275 ?_
          refine z_iconst S dX5_isSame_276 ?_
          refine z_rV (As := [.int (zI (t.2 2 (k239 : Int) 0)), .int (zI (t.2 2 (k239 : Int) 1)), .int (zI 2)]) (rest := []) S (r_X4_spot l D g a c hI (t.2 2 (k239 : Int) 0) (t.2 2 (k239 : Int) 1) 2 (by omega) (by omega)) ml_X5_82 im_X4_spot se_X4_spot ini_X4 cd_X4_spot ds_X4_spot ⟨Nat.le_of_ble_eq_true rfl, Nat.le_of_ble_eq_true rfl⟩ hK (va_P_l (va_P_r (va_P_r (va_P_r hP)))) (va_recv hK.1 (va_P_l (va_P_r (va_P_r (va_P_r hP)))) (ci := 4) (q0 := 0) rfl rfl) rfl hl.1 rfl (Nat.le_of_ble_eq_true rfl) ⟨Nat.le_of_ble_eq_true rfl, Nat.le_of_ble_eq_true rfl⟩ dX5_isSame_277 ?_
          refine lv_aload S.1 S.2.1 dX5_isSame_280 (lv_at hl 1 rfl) ?_
          refine z_iconst S dX5_isSame_282 ?_
          refine z_iald (F := t.2 2 (k239 : Int)) S hK hP (1 + (5 + (1 + (21 + (5 + (sn t 0 + (sn t 1 + ((k239 : Int)).toNat))))))) ((ap_at1 (n := 1) rfl).trans ((ap_at1 (n := 5) (rwW_len _ _ _ _ _)).trans ((ap_at1 (n := 1) rfl).trans ((ap_at1 (a := CW g a c) rfl).trans (SW_r2 (b := b) (t := t) (i := (k239 : Int)) (by show _ ∧ _ < t.1 4; omega)))))) (by decide) (by omega) dX5_isSame_283 ?_
          refine z_icmp_eq (tgt := 289) S dX5_isSame_284 (by decide) (by omega) (fun h_15 => ?_) (fun h_15 => ?_)
          · refine lv_aload_n S.1 S.2.1 dX5_isSame_289 rfl (lv_at hl 6 rfl) ?_
            refine lv_aload S.1 S.2.1 dX5_isSame_290 (lv_at hl 1 rfl) ?_
            refine z_iconst S dX5_isSame_292 ?_
            refine z_iald (F := t.2 2 (k239 : Int)) S hK hP (1 + (5 + (1 + (21 + (5 + (sn t 0 + (sn t 1 + ((k239 : Int)).toNat))))))) ((ap_at1 (n := 1) rfl).trans ((ap_at1 (n := 5) (rwW_len _ _ _ _ _)).trans ((ap_at1 (n := 1) rfl).trans ((ap_at1 (a := CW g a c) rfl).trans (SW_r2 (b := b) (t := t) (i := (k239 : Int)) (by show _ ∧ _ < t.1 4; omega)))))) (by decide) (by omega) dX5_isSame_293 ?_
            refine y_ald2 S hK hP 0 rfl (Nat.le_refl _) (by decide) (by omega) dX5_isSame_294 ?_
            refine z_iconst S dX5_isSame_295 ?_
            refine lv_dup2_11 S.1 S.2.1 dX5_isSame_296 rfl rfl ?_
            refine z_iald (F := (hasF t k239) (t.2 2 (k239 : Int) 2)) S hK hP (1 + ((t.2 2 (k239 : Int) 2).toNat)) ((ap_at1 (n := 1) rfl).trans (rw_at (i := t.2 2 (k239 : Int) 2) (by omega))) (by omega) (by omega) dX5_isSame_297 ?_
            refine z_iconst S dX5_isSame_298 ?_
            refine z_iadd S dX5_isSame_299 ?_
            refine y_iast S hK hP hD hS (1 + ((t.2 2 (k239 : Int) 2).toNat)) ((ap_at1 (n := 1) rfl).trans (rw_at (i := t.2 2 (k239 : Int) 2) (by omega))) (by omega) (by omega) dX5_isSame_300 (fun H locs hP hD hS => ?_)
            rw [ap_set1 (n := 1) rfl, rw_set (i := t.2 2 (k239 : Int) 2) (by omega)] at hP hD
            have hP : va_P D vwCl ([(q217, .inl (g.2.2, 5, .inr (.inr (.inr (.inr (rfs 5 r217))))))] ++ (rwW g r217 2 (up2 (hasF t k239) (t.2 2 (k239 : Int) 2) 0 (((hasF t k239) (t.2 2 (k239 : Int) 2) 0) + 1)) 5 ++ ([(q2, .inl (g.1, 9, .inl (zA (cF t (wcS t (20 * 20)) (peg6 t k239) 0))))] ++ (CW g a c ++ SW g b t)))) H := hP
            have hD : va_D A ([(q217, .inl (g.2.2, 5, .inr (.inr (.inr (.inr (rfs 5 r217))))))] ++ (rwW g r217 2 (up2 (hasF t k239) (t.2 2 (k239 : Int) 2) 0 (((hasF t k239) (t.2 2 (k239 : Int) 2) 0) + 1)) 5 ++ ([(q2, .inl (g.1, 9, .inl (zA (cF t (wcS t (20 * 20)) (peg6 t k239) 0))))] ++ (CW g a c ++ SW g b t)))) := hD
            refine lv_aload_n S.1 S.2.1 dX5_isSame_301 rfl (lv_at hl 6 rfl) ?_
            refine lv_aload S.1 S.2.1 dX5_isSame_302 (lv_at hl 1 rfl) ?_
            refine z_iconst S dX5_isSame_304 ?_
            refine z_iald (F := t.2 2 (k239 : Int)) S hK hP (1 + (5 + (1 + (21 + (5 + (sn t 0 + (sn t 1 + ((k239 : Int)).toNat))))))) ((ap_at1 (n := 1) rfl).trans ((ap_at1 (n := 5) (rwW_len _ _ _ _ _)).trans ((ap_at1 (n := 1) rfl).trans ((ap_at1 (a := CW g a c) rfl).trans (SW_r2 (b := b) (t := t) (i := (k239 : Int)) (by show _ ∧ _ < t.1 4; omega)))))) (by decide) (by omega) dX5_isSame_305 ?_
            refine y_ald2 S hK hP 0 rfl (Nat.le_refl _) (by decide) (by omega) dX5_isSame_306 ?_
            refine z_iconst S dX5_isSame_307 ?_
            refine lv_dup2_11 S.1 S.2.1 dX5_isSame_308 rfl rfl ?_
            refine z_iald (F := (up2 (hasF t k239) (t.2 2 (k239 : Int) 2) 0 (((hasF t k239) (t.2 2 (k239 : Int) 2) 0) + 1)) (t.2 2 (k239 : Int) 2)) S hK hP (1 + ((t.2 2 (k239 : Int) 2).toNat)) ((ap_at1 (n := 1) rfl).trans (rw_at (i := t.2 2 (k239 : Int) 2) (by omega))) (by omega) (by omega) dX5_isSame_309 ?_
            refine y_joinV (nL := 10) (fun v => v = b01 (0 < (sWat t (t.2 2 (k239 : Int) 0) (t.2 2 (k239 : Int) 1)))) 320 (lv := [(9, .int (zI (sWat t (t.2 2 (k239 : Int) 0) (t.2 2 (k239 : Int) 1)))), (8, .ref (rd b 2 ((k239 : Int)).toNat)), (7, .int (zI (k239 : Int))), (6, .int (zI (t.1 4))), (5, .ref (b 3)), (4, .int (zI (watS t k239))), (3, .ref q217), (2, .ref q2), (0, .ref (b 0)), (1, .ref (a 0))]) [.int (zI ((up2 (hasF t k239) (t.2 2 (k239 : Int) 2) 0 (((hasF t k239) (t.2 2 (k239 : Int) 2) 0) + 1)) (t.2 2 (k239 : Int) 2) 1)), .int (zI 1), .ref (r217 (t.2 2 (k239 : Int) 2).toNat)] (fun J320 => ?_) (fun v320 hv320 ls hl => ?_)
            · refine lv_iload S.1 S.2.1 dX5_isSame_310 (lv_at hl 0 rfl) ?_
              refine z_if_le (tgt := 319) S dX5_isSame_312 (by decide) (by omega) (fun h_16 => ?_) (fun h_16 => ?_)
              · refine z_iconst S dX5_isSame_319 ?_
                exact J320 0 (b01_is (by omega)) ls hl
              · refine z_iconst S dX5_isSame_315 ?_
                refine z_goto (tgt := 320) S dX5_isSame_316 (by decide) ?_
                exact J320 1 (b01_is (by omega)) ls hl
            · have hl : lv_has ls 10 [(9, .int (zI (sWat t (t.2 2 (k239 : Int) 0) (t.2 2 (k239 : Int) 1)))), (8, .ref (rd b 2 ((k239 : Int)).toNat)), (7, .int (zI (k239 : Int))), (6, .int (zI (t.1 4))), (5, .ref (b 3)), (4, .int (zI (watS t k239))), (3, .ref q217), (2, .ref q2), (0, .ref (b 0)), (1, .ref (a 0))] := hl
              have hv320 : v320 = b01 (0 < (sWat t (t.2 2 (k239 : Int) 0) (t.2 2 (k239 : Int) 1))) := hv320
              refine z_iadd S dX5_isSame_320 ?_
              refine y_iast S hK hP hD hS (1 + ((t.2 2 (k239 : Int) 2).toNat)) ((ap_at1 (n := 1) rfl).trans (rw_at (i := t.2 2 (k239 : Int) 2) (by omega))) (by omega) (by omega) dX5_isSame_321 (fun H locs hP hD hS => ?_)
              rw [ap_set1 (n := 1) rfl, rw_set (i := t.2 2 (k239 : Int) 2) (by omega)] at hP hD
              have hP : va_P D vwCl ([(q217, .inl (g.2.2, 5, .inr (.inr (.inr (.inr (rfs 5 r217))))))] ++ (rwW g r217 2 (up2 (up2 (hasF t k239) (t.2 2 (k239 : Int) 2) 0 (((hasF t k239) (t.2 2 (k239 : Int) 2) 0) + 1)) (t.2 2 (k239 : Int) 2) 1 (((up2 (hasF t k239) (t.2 2 (k239 : Int) 2) 0 (((hasF t k239) (t.2 2 (k239 : Int) 2) 0) + 1)) (t.2 2 (k239 : Int) 2) 1) + v320)) 5 ++ ([(q2, .inl (g.1, 9, .inl (zA (cF t (wcS t (20 * 20)) (peg6 t k239) 0))))] ++ (CW g a c ++ SW g b t)))) H := hP
              have hD : va_D A ([(q217, .inl (g.2.2, 5, .inr (.inr (.inr (.inr (rfs 5 r217))))))] ++ (rwW g r217 2 (up2 (up2 (hasF t k239) (t.2 2 (k239 : Int) 2) 0 (((hasF t k239) (t.2 2 (k239 : Int) 2) 0) + 1)) (t.2 2 (k239 : Int) 2) 1 (((up2 (hasF t k239) (t.2 2 (k239 : Int) 2) 0 (((hasF t k239) (t.2 2 (k239 : Int) 2) 0) + 1)) (t.2 2 (k239 : Int) 2) 1) + v320)) 5 ++ ([(q2, .inl (g.1, 9, .inl (zA (cF t (wcS t (20 * 20)) (peg6 t k239) 0))))] ++ (CW g a c ++ SW g b t)))) := hD
              refine lv_aload_n S.1 S.2.1 dX5_isSame_322 rfl (lv_at hl 7 rfl) ?_
              refine z_bipush S (by decide) dX5_isSame_323 ?_
              refine lv_dup2_11 S.1 S.2.1 dX5_isSame_325 rfl rfl ?_
              refine z_iald (F := cF t (wcS t (20 * 20)) (peg6 t k239) 0) S hK hP 6 rfl (by decide) (by omega) dX5_isSame_326 ?_
              refine z_top (peg6 t k239) (by rfl) ?_
              refine y_joinV (nL := 10) (fun v => v = b01 (0 < (sWat t (t.2 2 (k239 : Int) 0) (t.2 2 (k239 : Int) 1)))) 337 (lv := [(9, .int (zI (sWat t (t.2 2 (k239 : Int) 0) (t.2 2 (k239 : Int) 1)))), (8, .ref (rd b 2 ((k239 : Int)).toNat)), (7, .int (zI (k239 : Int))), (6, .int (zI (t.1 4))), (5, .ref (b 3)), (4, .int (zI (watS t k239))), (3, .ref q217), (2, .ref q2), (0, .ref (b 0)), (1, .ref (a 0))]) [.int (zI (peg6 t k239)), .int (zI 6), .ref q2] (fun J337 => ?_) (fun v337 hv337 ls hl => ?_)
              · refine lv_iload S.1 S.2.1 dX5_isSame_327 (lv_at hl 0 rfl) ?_
                refine z_if_le (tgt := 336) S dX5_isSame_329 (by decide) (by omega) (fun h_17 => ?_) (fun h_17 => ?_)
                · refine z_iconst S dX5_isSame_336 ?_
                  exact J337 0 (b01_is (by omega)) ls hl
                · refine z_iconst S dX5_isSame_332 ?_
                  refine z_goto (tgt := 337) S dX5_isSame_333 (by decide) ?_
                  exact J337 1 (b01_is (by omega)) ls hl
              · have hl : lv_has ls 10 [(9, .int (zI (sWat t (t.2 2 (k239 : Int) 0) (t.2 2 (k239 : Int) 1)))), (8, .ref (rd b 2 ((k239 : Int)).toNat)), (7, .int (zI (k239 : Int))), (6, .int (zI (t.1 4))), (5, .ref (b 3)), (4, .int (zI (watS t k239))), (3, .ref q217), (2, .ref q2), (0, .ref (b 0)), (1, .ref (a 0))] := hl
                have hv337 : v337 = b01 (0 < (sWat t (t.2 2 (k239 : Int) 0) (t.2 2 (k239 : Int) 1))) := hv337
                refine z_iadd S dX5_isSame_337 ?_
                refine y_iast (F := cF t (wcS t (20 * 20)) (peg6 t k239) 0) S hK hP hD hS 6 rfl (by decide) (by omega) dX5_isSame_338 (fun H locs hP hD hS => ?_)
                have hP : va_P D vwCl ([(q217, .inl (g.2.2, 5, .inr (.inr (.inr (.inr (rfs 5 r217))))))] ++ (rwW g r217 2 (up2 (up2 (hasF t k239) (t.2 2 (k239 : Int) 2) 0 (((hasF t k239) (t.2 2 (k239 : Int) 2) 0) + 1)) (t.2 2 (k239 : Int) 2) 1 (((up2 (hasF t k239) (t.2 2 (k239 : Int) 2) 0 (((hasF t k239) (t.2 2 (k239 : Int) 2) 0) + 1)) (t.2 2 (k239 : Int) 2) 1) + v320)) 5 ++ ([(q2, .inl (g.1, 9, .inl (zA (upZ (cF t (wcS t (20 * 20)) (peg6 t k239) 0) 6 ((peg6 t k239) + v337)))))] ++ (CW g a c ++ SW g b t)))) H := hP
                have hD : va_D A ([(q217, .inl (g.2.2, 5, .inr (.inr (.inr (.inr (rfs 5 r217))))))] ++ (rwW g r217 2 (up2 (up2 (hasF t k239) (t.2 2 (k239 : Int) 2) 0 (((hasF t k239) (t.2 2 (k239 : Int) 2) 0) + 1)) (t.2 2 (k239 : Int) 2) 1 (((up2 (hasF t k239) (t.2 2 (k239 : Int) 2) 0 (((hasF t k239) (t.2 2 (k239 : Int) 2) 0) + 1)) (t.2 2 (k239 : Int) 2) 1) + v320)) 5 ++ ([(q2, .inl (g.1, 9, .inl (zA (upZ (cF t (wcS t (20 * 20)) (peg6 t k239) 0) 6 ((peg6 t k239) + v337)))))] ++ (CW g a c ++ SW g b t)))) := hD
                rw [cF_6] at hP hD
                refine lv_iload S.1 S.2.1 dX5_isSame_339 (lv_at hl 5 rfl) ?_
                refine lv_iload S.1 S.2.1 dX5_isSame_341 (lv_at hl 0 rfl) ?_
                refine z_iadd S dX5_isSame_343 ?_
                refine lv_istore (lv' := [(4, .int (zI ((watS t k239) + (sWat t (t.2 2 (k239 : Int) 0) (t.2 2 (k239 : Int) 1))))), (9, .int (zI (sWat t (t.2 2 (k239 : Int) 0) (t.2 2 (k239 : Int) 1)))), (8, .ref (rd b 2 ((k239 : Int)).toNat)), (7, .int (zI (k239 : Int))), (6, .int (zI (t.1 4))), (5, .ref (b 3)), (3, .ref q217), (2, .ref q2), (0, .ref (b 0)), (1, .ref (a 0))]) S.1 S.2.1 dX5_isSame_344 hl (by decide) rfl (fun ls hl => ?_)
                refine z_iinc (lv' := [(7, .int (zI ((k239 : Int) + 1))), (4, .int (zI ((watS t k239) + (sWat t (t.2 2 (k239 : Int) 0) (t.2 2 (k239 : Int) 1))))), (9, .int (zI (sWat t (t.2 2 (k239 : Int) 0) (t.2 2 (k239 : Int) 1)))), (8, .ref (rd b 2 ((k239 : Int)).toNat)), (6, .int (zI (t.1 4))), (5, .ref (b 3)), (3, .ref q217), (2, .ref q2), (0, .ref (b 0)), (1, .ref (a 0))]) S dX5_isSame_346 hl (k := 3) rfl (by decide) rfl (fun ls hl => ?_)
                refine z_goto (tgt := 239) S dX5_isSame_349 (by decide) ?_
                have hw : ([(q217, .inl (g.2.2, 5, .inr (.inr (.inr (.inr (rfs 5 r217))))))] ++ (rwW g r217 2 (up2 (up2 (hasF t k239) (t.2 2 (k239 : Int) 2) 0 (((hasF t k239) (t.2 2 (k239 : Int) 2) 0) + 1)) (t.2 2 (k239 : Int) 2) 1 (((up2 (hasF t k239) (t.2 2 (k239 : Int) 2) 0 (((hasF t k239) (t.2 2 (k239 : Int) 2) 0) + 1)) (t.2 2 (k239 : Int) 2) 1) + v320)) 5 ++ ([(q2, .inl (g.1, 9, .inl (zA (cF t (wcS t (20 * 20)) ((peg6 t k239) + v337) 0))))] ++ (CW g a c ++ SW g b t)))) = ([(q217, .inl (g.2.2, 5, .inr (.inr (.inr (.inr (rfs 5 r217))))))] ++ (rwW g r217 2 (hasF t (k239 + 1)) 5 ++ ([(q2, .inl (g.1, 9, .inl (zA (cF t (wcS t (20 * 20)) (peg6 t (k239 + 1)) 0))))] ++ (CW g a c ++ SW g b t)))) := by rw [has_step hv320, hv337]; rfl
                rw [hw] at hP hD
                exact ih239 () trivial _ _ hP hD hS _ (lv_sub hl [0, 4, 5, 1, 6, 7, 8, 9] rfl)
          · exact absurd h_15 (by omega)
      · have hl : lv_has ls 10 [(7, .int (zI (((t.1 4).toNat : Nat) : Int))), (6, .int (zI (t.1 4))), (5, .ref (b 3)), (4, .int (zI (watS t ((t.1 4).toNat)))), (3, .ref q217), (2, .ref q2), (0, .ref (b 0)), (1, .ref (a 0))] := hl
        have hP : va_P D vwCl ([(q217, .inl (g.2.2, 5, .inr (.inr (.inr (.inr (rfs 5 r217))))))] ++ (rwW g r217 2 (hasF t ((t.1 4).toNat)) 5 ++ ([(q2, .inl (g.1, 9, .inl (zA (cF t (wcS t (20 * 20)) (peg6 t ((t.1 4).toNat)) 0))))] ++ (CW g a c ++ SW g b t)))) H := hP
        have hD : va_D A ([(q217, .inl (g.2.2, 5, .inr (.inr (.inr (.inr (rfs 5 r217))))))] ++ (rwW g r217 2 (hasF t ((t.1 4).toNat)) 5 ++ ([(q2, .inl (g.1, 9, .inl (zA (cF t (wcS t (20 * 20)) (peg6 t ((t.1 4).toNat)) 0))))] ++ (CW g a c ++ SW g b t)))) := hD
        refine lv_iload S.1 S.2.1 dX5_isSame_239 (lv_at hl 0 rfl) ?_
        refine lv_iload S.1 S.2.1 dX5_isSame_241 (lv_at hl 1 rfl) ?_
        refine z_icmp_ge (tgt := 352) S dX5_isSame_243 (by decide) (by omega) (fun h_18 => ?_) (fun h_18 => ?_)
        · refine z_iconst S dX5_isSame_352 ?_
          refine lv_istore (lv' := [(5, .int (zI 0)), (7, .int (zI (((t.1 4).toNat : Nat) : Int))), (6, .int (zI (t.1 4))), (4, .int (zI (watS t ((t.1 4).toNat)))), (3, .ref q217), (2, .ref q2), (0, .ref (b 0)), (1, .ref (a 0))]) S.1 S.2.1 dX5_isSame_353 hl (by decide) rfl (fun ls hl => ?_)
          refine y_for (σ := Unit) (D := D) (A := A) (nL := 10) (H0 := s.heap) ((t.1 3).toNat) (fun (_u : Unit) => s) (fun (k355 : Nat) (_u : Unit) => [(5, .int (zI (k355 : Int))), (4, .int (zI (watS t ((t.1 4).toNat)))), (3, .ref q217), (2, .ref q2), (0, .ref (b 0)), (1, .ref (a 0))]) (fun (k355 : Nat) (_u : Unit) => ([(q217, .inl (g.2.2, 5, .inr (.inr (.inr (.inr (rfs 5 r217))))))] ++ (rwW g r217 2 (hasF t ((t.1 4).toNat)) 5 ++ ([(q2, .inl (g.1, 9, .inl (zA (cF t (wcS t (20 * 20)) (peg6 t (t.1 4).toNat) (coin t k355)))))] ++ (CW g a c ++ SW g b t))))) (fun (k355 : Nat) => 7 + k355) (fun (k355 : Nat) => 24 + 8 * k355) (fun (k355 : Nat) (_u : Unit) => True) (fun k355 hk355 _u hJ355 H locs hP hD hS ls hl ih355 => ?_) (fun _u hJ355 H locs hP hD hS ls hl => ?_) 0 (by omega) () trivial _ _ hP hD hS ls (lv_sub hl [0, 3, 4, 5, 6, 7] rfl)
          · have hl : lv_has ls 10 [(5, .int (zI (k355 : Int))), (4, .int (zI (watS t ((t.1 4).toNat)))), (3, .ref q217), (2, .ref q2), (0, .ref (b 0)), (1, .ref (a 0))] := hl
            have hP : va_P D vwCl ([(q217, .inl (g.2.2, 5, .inr (.inr (.inr (.inr (rfs 5 r217))))))] ++ (rwW g r217 2 (hasF t ((t.1 4).toNat)) 5 ++ ([(q2, .inl (g.1, 9, .inl (zA (cF t (wcS t (20 * 20)) (peg6 t (t.1 4).toNat) (coin t k355)))))] ++ (CW g a c ++ SW g b t)))) H := hP
            have hD : va_D A ([(q217, .inl (g.2.2, 5, .inr (.inr (.inr (.inr (rfs 5 r217))))))] ++ (rwW g r217 2 (hasF t ((t.1 4).toNat)) 5 ++ ([(q2, .inl (g.1, 9, .inl (zA (cF t (wcS t (20 * 20)) (peg6 t (t.1 4).toNat) (coin t k355)))))] ++ (CW g a c ++ SW g b t)))) := hD
            refine lv_iload S.1 S.2.1 dX5_isSame_355 (lv_at hl 0 rfl) ?_
            refine lv_aload_n S.1 S.2.1 dX5_isSame_357 rfl (lv_at hl 4 rfl) ?_
            refine z_get (v := .ref (b 2)) S inA5 hK hP 28 rfl rfl 3 (by decide) fl_X5_19 rfl dX5_isSame_358 ?_
            refine y_alen S hK hP 30 rfl (v := t.1 3) (by show (((t.1 3).toNat : Nat) : Int) = _; omega) dX5_isSame_361 ?_
            refine z_icmp_ge (tgt := 546) S dX5_isSame_362 (by decide) (by omega) (fun h_19 => ?_) (fun h_19 => ?_)
            · exact absurd h_19 (by omega)
            · refine z_iconst S dX5_isSame_365 ?_
              refine lv_istore (lv' := [(6, .int (zI 0)), (5, .int (zI (k355 : Int))), (4, .int (zI (watS t ((t.1 4).toNat)))), (3, .ref q217), (2, .ref q2), (0, .ref (b 0)), (1, .ref (a 0))]) S.1 S.2.1 dX5_isSame_366 hl (by decide) rfl (fun ls hl => ?_)
              refine z_iconst S dX5_isSame_368 ?_
              refine lv_istore (lv' := [(7, .int (zI 0)), (6, .int (zI 0)), (5, .int (zI (k355 : Int))), (4, .int (zI (watS t ((t.1 4).toNat)))), (3, .ref q217), (2, .ref q2), (0, .ref (b 0)), (1, .ref (a 0))]) S.1 S.2.1 dX5_isSame_369 hl (by decide) rfl (fun ls hl => ?_)
              refine y_for (σ := Unit) (D := D) (A := A) (nL := 10) (H0 := s.heap) ((t.1 5).toNat) (fun (_u : Unit) => s) (fun (k371 : Nat) (_u : Unit) => [(7, .int (zI (k371 : Int))), (6, .int (zI (inS t (k355 : Int) k371))), (5, .int (zI (k355 : Int))), (4, .int (zI (watS t ((t.1 4).toNat)))), (3, .ref q217), (2, .ref q2), (0, .ref (b 0)), (1, .ref (a 0))]) (fun (k371 : Nat) (_u : Unit) => ([(q217, .inl (g.2.2, 5, .inr (.inr (.inr (.inr (rfs 5 r217))))))] ++ (rwW g r217 2 (hasF t ((t.1 4).toNat)) 5 ++ ([(q2, .inl (g.1, 9, .inl (zA (cF t (wcS t (20 * 20)) (peg6 t (t.1 4).toNat) (coin t k355)))))] ++ (CW g a c ++ SW g b t))))) (fun _ => 7 + k355) (fun _ => 24 + 8 * k355) (fun (k371 : Nat) (_u : Unit) => True) (fun k371 hk371 _u hJ371 H locs hP hD hS ls hl ih371 => ?_) (fun _u hJ371 H locs hP hD hS ls hl => ?_) 0 (by omega) () trivial _ _ hP hD hS ls (lv_sub hl [0, 1, 2, 3, 4, 5, 6, 7] rfl)
              · have hl : lv_has ls 10 [(7, .int (zI (k371 : Int))), (6, .int (zI (inS t (k355 : Int) k371))), (5, .int (zI (k355 : Int))), (4, .int (zI (watS t ((t.1 4).toNat)))), (3, .ref q217), (2, .ref q2), (0, .ref (b 0)), (1, .ref (a 0))] := hl
                have hP : va_P D vwCl ([(q217, .inl (g.2.2, 5, .inr (.inr (.inr (.inr (rfs 5 r217))))))] ++ (rwW g r217 2 (hasF t ((t.1 4).toNat)) 5 ++ ([(q2, .inl (g.1, 9, .inl (zA (cF t (wcS t (20 * 20)) (peg6 t (t.1 4).toNat) (coin t k355)))))] ++ (CW g a c ++ SW g b t)))) H := hP
                have hD : va_D A ([(q217, .inl (g.2.2, 5, .inr (.inr (.inr (.inr (rfs 5 r217))))))] ++ (rwW g r217 2 (hasF t ((t.1 4).toNat)) 5 ++ ([(q2, .inl (g.1, 9, .inl (zA (cF t (wcS t (20 * 20)) (peg6 t (t.1 4).toNat) (coin t k355)))))] ++ (CW g a c ++ SW g b t)))) := hD
                refine lv_iload S.1 S.2.1 dX5_isSame_371 (lv_at hl 0 rfl) ?_
                refine lv_aload_n S.1 S.2.1 dX5_isSame_373 rfl (lv_at hl 6 rfl) ?_
                refine z_get (v := .ref (b 4)) S inA5 hK hP 28 rfl rfl 5 (by decide) fl_X5_25 rfl dX5_isSame_374 ?_
                refine y_alen S hK hP 32 rfl (v := t.1 5) (by show (((t.1 5).toNat : Nat) : Int) = _; omega) dX5_isSame_377 ?_
                refine z_icmp_ge (tgt := 420) S dX5_isSame_378 (by decide) (by omega) (fun h_20 => ?_) (fun h_20 => ?_)
                · exact absurd h_20 (by omega)
                · refine lv_iload S.1 S.2.1 dX5_isSame_381 (lv_at hl 1 rfl) ?_
                  refine lv_aload_n S.1 S.2.1 dX5_isSame_383 rfl (lv_at hl 6 rfl) ?_
                  refine lv_iload S.1 S.2.1 dX5_isSame_384 (lv_at hl 0 rfl) ?_
                  refine z_rV (As := [.int (zI (k371 : Int))]) (rest := [.int (zI (inS t (k355 : Int) k371))]) S (m_X5_isOver l D g b t hT (k371 : Int) (by omega)) ml_X5_68 im_X5_isOver se_X5_isOver ini_X5 cd_X5_isOver ds_X5_isOver ⟨Nat.le_of_ble_eq_true rfl, Nat.le_of_ble_eq_true rfl⟩ hK (va_P_r (va_P_r (va_P_r (va_P_r hP)))) (va_recv hK.1 (va_P_r (va_P_r (va_P_r (va_P_r hP)))) (ci := 5) (q0 := 0) rfl rfl) rfl hl.1 rfl (Nat.le_of_ble_eq_true rfl) ⟨by show 7 + k355 ≤ 22; omega, by show 24 + 8 * k355 ≤ 134; omega⟩ dX5_isSame_386 ?_
                  refine z_ifb_eq (tgt := 396) S dX5_isSame_389 (by decide) (fun h_21 => ?_) (fun h_21 => ?_)
                  · refine lv_aload_n S.1 S.2.1 dX5_isSame_396 rfl (lv_at hl 6 rfl) ?_
                    refine z_get (v := .ref (b 4)) S inA5 hK hP 28 rfl rfl 5 (by decide) fl_X5_25 rfl dX5_isSame_397 ?_
                    refine lv_iload S.1 S.2.1 dX5_isSame_400 (lv_at hl 0 rfl) ?_
                    refine y_ald2 S hK hP 32 rfl (Nat.le_refl _) (by show (t.1 5).toNat < _; omega) (by show _ ∧ _ < (((t.1 5).toNat : Nat) : Int); omega) dX5_isSame_402 ?_
                    have hb_22 := hT.q (i := (k371 : Int)) (by omega)
                    have hqb9 := (hT.q (i := (k371 : Int)) (by omega)).b (d := 4 + (k355 : Int)) (by omega)
                    refine z_iconst S dX5_isSame_403 ?_
                    refine lv_iload S.1 S.2.1 dX5_isSame_404 (lv_at hl 2 rfl) ?_
                    refine z_iadd S dX5_isSame_406 ?_
                    refine z_iald (F := t.2 3 (k371 : Int)) S hK hP (1 + (5 + (1 + (21 + (5 + (sn t 0 + (sn t 1 + (sn t 2 + ((k371 : Int)).toNat)))))))) ((ap_at1 (n := 1) rfl).trans ((ap_at1 (n := 5) (rwW_len _ _ _ _ _)).trans ((ap_at1 (n := 1) rfl).trans ((ap_at1 (a := CW g a c) rfl).trans (SW_r3 (b := b) (t := t) (i := (k371 : Int)) (by show _ ∧ _ < t.1 5; omega)))))) (by decide) (by omega) dX5_isSame_407 ?_
                    refine z_abs S ml_X5_28 hl.1 (Nat.le_of_ble_eq_true rfl) (Nat.le_of_ble_eq_true rfl) ⟨by show 7 + k355 ≤ 22; omega, by show 24 + 8 * k355 ≤ 134; omega⟩ (by omega) dX5_isSame_408 ?_
                    refine z_iadd S dX5_isSame_411 ?_
                    refine lv_istore (lv' := [(6, .int (zI ((inS t (k355 : Int) k371) + (ab (t.2 3 (k371 : Int) (4 + (k355 : Int))))))), (7, .int (zI (k371 : Int))), (5, .int (zI (k355 : Int))), (4, .int (zI (watS t ((t.1 4).toNat)))), (3, .ref q217), (2, .ref q2), (0, .ref (b 0)), (1, .ref (a 0))]) S.1 S.2.1 dX5_isSame_412 hl (by decide) rfl (fun ls hl => ?_)
                    refine z_iinc (lv' := [(7, .int (zI ((k371 : Int) + 1))), (6, .int (zI ((inS t (k355 : Int) k371) + (ab (t.2 3 (k371 : Int) (4 + (k355 : Int))))))), (5, .int (zI (k355 : Int))), (4, .int (zI (watS t ((t.1 4).toNat)))), (3, .ref q217), (2, .ref q2), (0, .ref (b 0)), (1, .ref (a 0))]) S dX5_isSame_414 hl (k := 1) rfl (by decide) rfl (fun ls hl => ?_)
                    refine z_goto (tgt := 371) S dX5_isSame_417 (by decide) ?_
                    have e_23 : inS t (k355 : Int) (k371 + 1) = (inS t (k355 : Int) k371) + (ab (t.2 3 (k371 : Int) (4 + (k355 : Int)))) := by first | (show _ + (if _ then _ else _ : Int) = _; rw [if_pos (show sOv t (k371 : Int) by assumption)]; rfl) | (show _ + (if _ then _ else _ : Int) = _; rw [if_neg (show ¬ sOv t (k371 : Int) by assumption)]; rfl)
                    exact ih371 () trivial _ _ hP hD hS _ (lv_sub hl [0, 1, 2, 3, 4, 5, 6, 7] (by show _ = ([(7, .int (zI ((k371 + 1 : Nat) : Int))), (6, .int (zI (inS t (k355 : Int) (k371 + 1)))), (5, .int (zI (k355 : Int))), (4, .int (zI (watS t ((t.1 4).toNat)))), (3, .ref q217), (2, .ref q2), (0, .ref (b 0)), (1, .ref (a 0))] : List (Nat × Value)); rw [e_23]; first | done | rfl))
                  · refine z_iconst S dX5_isSame_392 ?_
                    refine z_goto (tgt := 411) S dX5_isSame_393 (by decide) ?_
                    refine z_iadd S dX5_isSame_411 ?_
                    refine lv_istore (lv' := [(6, .int (zI ((inS t (k355 : Int) k371) + 0))), (7, .int (zI (k371 : Int))), (5, .int (zI (k355 : Int))), (4, .int (zI (watS t ((t.1 4).toNat)))), (3, .ref q217), (2, .ref q2), (0, .ref (b 0)), (1, .ref (a 0))]) S.1 S.2.1 dX5_isSame_412 hl (by decide) rfl (fun ls hl => ?_)
                    refine z_iinc (lv' := [(7, .int (zI ((k371 : Int) + 1))), (6, .int (zI ((inS t (k355 : Int) k371) + 0))), (5, .int (zI (k355 : Int))), (4, .int (zI (watS t ((t.1 4).toNat)))), (3, .ref q217), (2, .ref q2), (0, .ref (b 0)), (1, .ref (a 0))]) S dX5_isSame_414 hl (k := 1) rfl (by decide) rfl (fun ls hl => ?_)
                    refine z_goto (tgt := 371) S dX5_isSame_417 (by decide) ?_
                    have e_24 : inS t (k355 : Int) (k371 + 1) = (inS t (k355 : Int) k371) + 0 := by first | (show _ + (if _ then _ else _ : Int) = _; rw [if_pos (show sOv t (k371 : Int) by assumption)]; rfl) | (show _ + (if _ then _ else _ : Int) = _; rw [if_neg (show ¬ sOv t (k371 : Int) by assumption)]; rfl)
                    exact ih371 () trivial _ _ hP hD hS _ (lv_sub hl [0, 1, 2, 3, 4, 5, 6, 7] (by show _ = ([(7, .int (zI ((k371 + 1 : Nat) : Int))), (6, .int (zI (inS t (k355 : Int) (k371 + 1)))), (5, .int (zI (k355 : Int))), (4, .int (zI (watS t ((t.1 4).toNat)))), (3, .ref q217), (2, .ref q2), (0, .ref (b 0)), (1, .ref (a 0))] : List (Nat × Value)); rw [e_24]; first | done | rfl))
              · have hl : lv_has ls 10 [(7, .int (zI (((t.1 5).toNat : Nat) : Int))), (6, .int (zI (inS t (k355 : Int) ((t.1 5).toNat)))), (5, .int (zI (k355 : Int))), (4, .int (zI (watS t ((t.1 4).toNat)))), (3, .ref q217), (2, .ref q2), (0, .ref (b 0)), (1, .ref (a 0))] := hl
                have hP : va_P D vwCl ([(q217, .inl (g.2.2, 5, .inr (.inr (.inr (.inr (rfs 5 r217))))))] ++ (rwW g r217 2 (hasF t ((t.1 4).toNat)) 5 ++ ([(q2, .inl (g.1, 9, .inl (zA (cF t (wcS t (20 * 20)) (peg6 t (t.1 4).toNat) (coin t k355)))))] ++ (CW g a c ++ SW g b t)))) H := hP
                have hD : va_D A ([(q217, .inl (g.2.2, 5, .inr (.inr (.inr (.inr (rfs 5 r217))))))] ++ (rwW g r217 2 (hasF t ((t.1 4).toNat)) 5 ++ ([(q2, .inl (g.1, 9, .inl (zA (cF t (wcS t (20 * 20)) (peg6 t (t.1 4).toNat) (coin t k355)))))] ++ (CW g a c ++ SW g b t)))) := hD
                refine lv_iload S.1 S.2.1 dX5_isSame_371 (lv_at hl 0 rfl) ?_
                refine lv_aload_n S.1 S.2.1 dX5_isSame_373 rfl (lv_at hl 6 rfl) ?_
                refine z_get (v := .ref (b 4)) S inA5 hK hP 28 rfl rfl 5 (by decide) fl_X5_25 rfl dX5_isSame_374 ?_
                refine y_alen S hK hP 32 rfl (v := t.1 5) (by show (((t.1 5).toNat : Nat) : Int) = _; omega) dX5_isSame_377 ?_
                refine z_icmp_ge (tgt := 420) S dX5_isSame_378 (by decide) (by omega) (fun h_25 => ?_) (fun h_25 => ?_)
                · refine lv_aload_n S.1 S.2.1 dX5_isSame_420 rfl (lv_at hl 6 rfl) ?_
                  refine z_get (v := .ref (b 2)) S inA5 hK hP 28 rfl rfl 3 (by decide) fl_X5_19 rfl dX5_isSame_421 ?_
                  refine lv_iload S.1 S.2.1 dX5_isSame_424 (lv_at hl 2 rfl) ?_
                  refine y_ald2 S hK hP 30 rfl (Nat.le_refl _) (by show (t.1 3).toNat < _; omega) (by show _ ∧ _ < (((t.1 3).toNat : Nat) : Int); omega) dX5_isSame_426 ?_
                  have hb_26 := hT.d (i := (k355 : Int)) (by omega)
                  refine lv_astore (lv' := [(7, .ref (rd b 1 ((k355 : Int)).toNat)), (6, .int (zI (inS t (k355 : Int) ((t.1 5).toNat)))), (5, .int (zI (k355 : Int))), (4, .int (zI (watS t ((t.1 4).toNat)))), (3, .ref q217), (2, .ref q2), (0, .ref (b 0)), (1, .ref (a 0))]) S.1 S.2.1 dX5_isSame_427 hl (by decide) rfl (fun ls hl => ?_)
                  refine z_bipush S (by decide) dX5_isSame_429 ?_
                  refine y_newi S hK hP hD hS (fun q9 h9 => hA q9 (Nat.le_trans hS.1 h9)) 8 (by decide) (by show 7 + k355 + 1 ≤ 22; omega) (by show 24 + 8 * k355 + 8 ≤ 134; omega) dX5_isSame_431 (fun q431 H hq9 hk9 hP hD hS => ?_)
                  have hP : va_P D vwCl ([(q431, .inl (g.1, 8, .inl (zA (fun _ => 0)))), (q217, .inl (g.2.2, 5, .inr (.inr (.inr (.inr (rfs 5 r217))))))] ++ (rwW g r217 2 (hasF t ((t.1 4).toNat)) 5 ++ ([(q2, .inl (g.1, 9, .inl (zA (cF t (wcS t (20 * 20)) (peg6 t (t.1 4).toNat) (coin t k355)))))] ++ (CW g a c ++ SW g b t)))) H := hP
                  have hD : va_D A ([(q431, .inl (g.1, 8, .inl (zA (fun _ => 0)))), (q217, .inl (g.2.2, 5, .inr (.inr (.inr (.inr (rfs 5 r217))))))] ++ (rwW g r217 2 (hasF t ((t.1 4).toNat)) 5 ++ ([(q2, .inl (g.1, 9, .inl (zA (cF t (wcS t (20 * 20)) (peg6 t (t.1 4).toNat) (coin t k355)))))] ++ (CW g a c ++ SW g b t)))) := hD
                  refine lv_dup S.1 S.2.1 dX5_isSame_433 rfl ?_
                  refine z_iconst S dX5_isSame_434 ?_
                  refine lv_aload S.1 S.2.1 dX5_isSame_435 (lv_at hl 0 rfl) ?_
                  refine z_iconst S dX5_isSame_437 ?_
                  refine z_iald (F := t.2 1 (k355 : Int)) S hK hP (2 + (5 + (1 + (21 + (5 + (sn t 0 + ((k355 : Int)).toNat)))))) ((ap_at1 (n := 2) rfl).trans ((ap_at1 (n := 5) (rwW_len _ _ _ _ _)).trans ((ap_at1 (n := 1) rfl).trans ((ap_at1 (a := CW g a c) rfl).trans (SW_r1 (b := b) (t := t) (i := (k355 : Int)) (by show _ ∧ _ < t.1 3; omega)))))) (by decide) (by omega) dX5_isSame_438 ?_
                  refine y_iast (F := fun _ => 0) S hK hP hD hS 0 rfl (by decide) (by omega) dX5_isSame_439 (fun H locs hP hD hS => ?_)
                  have hP : va_P D vwCl ([(q431, .inl (g.1, 8, .inl (zA (upZ (fun _ => 0) 0 (t.2 1 (k355 : Int) 0))))), (q217, .inl (g.2.2, 5, .inr (.inr (.inr (.inr (rfs 5 r217))))))] ++ (rwW g r217 2 (hasF t ((t.1 4).toNat)) 5 ++ ([(q2, .inl (g.1, 9, .inl (zA (cF t (wcS t (20 * 20)) (peg6 t (t.1 4).toNat) (coin t k355)))))] ++ (CW g a c ++ SW g b t)))) H := hP
                  have hD : va_D A ([(q431, .inl (g.1, 8, .inl (zA (upZ (fun _ => 0) 0 (t.2 1 (k355 : Int) 0))))), (q217, .inl (g.2.2, 5, .inr (.inr (.inr (.inr (rfs 5 r217))))))] ++ (rwW g r217 2 (hasF t ((t.1 4).toNat)) 5 ++ ([(q2, .inl (g.1, 9, .inl (zA (cF t (wcS t (20 * 20)) (peg6 t (t.1 4).toNat) (coin t k355)))))] ++ (CW g a c ++ SW g b t)))) := hD
                  refine lv_dup S.1 S.2.1 dX5_isSame_440 rfl ?_
                  refine z_iconst S dX5_isSame_441 ?_
                  refine lv_aload S.1 S.2.1 dX5_isSame_442 (lv_at hl 0 rfl) ?_
                  refine z_iconst S dX5_isSame_444 ?_
                  refine z_iald (F := t.2 1 (k355 : Int)) S hK hP (2 + (5 + (1 + (21 + (5 + (sn t 0 + ((k355 : Int)).toNat)))))) ((ap_at1 (n := 2) rfl).trans ((ap_at1 (n := 5) (rwW_len _ _ _ _ _)).trans ((ap_at1 (n := 1) rfl).trans ((ap_at1 (a := CW g a c) rfl).trans (SW_r1 (b := b) (t := t) (i := (k355 : Int)) (by show _ ∧ _ < t.1 3; omega)))))) (by decide) (by omega) dX5_isSame_445 ?_
                  refine y_iast (F := upZ (fun _ => 0) 0 (t.2 1 (k355 : Int) 0)) S hK hP hD hS 0 rfl (by decide) (by omega) dX5_isSame_446 (fun H locs hP hD hS => ?_)
                  have hP : va_P D vwCl ([(q431, .inl (g.1, 8, .inl (zA (upZ (upZ (fun _ => 0) 0 (t.2 1 (k355 : Int) 0)) 1 (t.2 1 (k355 : Int) 1))))), (q217, .inl (g.2.2, 5, .inr (.inr (.inr (.inr (rfs 5 r217))))))] ++ (rwW g r217 2 (hasF t ((t.1 4).toNat)) 5 ++ ([(q2, .inl (g.1, 9, .inl (zA (cF t (wcS t (20 * 20)) (peg6 t (t.1 4).toNat) (coin t k355)))))] ++ (CW g a c ++ SW g b t)))) H := hP
                  have hD : va_D A ([(q431, .inl (g.1, 8, .inl (zA (upZ (upZ (fun _ => 0) 0 (t.2 1 (k355 : Int) 0)) 1 (t.2 1 (k355 : Int) 1))))), (q217, .inl (g.2.2, 5, .inr (.inr (.inr (.inr (rfs 5 r217))))))] ++ (rwW g r217 2 (hasF t ((t.1 4).toNat)) 5 ++ ([(q2, .inl (g.1, 9, .inl (zA (cF t (wcS t (20 * 20)) (peg6 t (t.1 4).toNat) (coin t k355)))))] ++ (CW g a c ++ SW g b t)))) := hD
                  refine lv_dup S.1 S.2.1 dX5_isSame_447 rfl ?_
                  refine z_iconst S dX5_isSame_448 ?_
                  refine lv_aload S.1 S.2.1 dX5_isSame_449 (lv_at hl 0 rfl) ?_
                  refine z_iconst S dX5_isSame_451 ?_
                  refine z_iald (F := t.2 1 (k355 : Int)) S hK hP (2 + (5 + (1 + (21 + (5 + (sn t 0 + ((k355 : Int)).toNat)))))) ((ap_at1 (n := 2) rfl).trans ((ap_at1 (n := 5) (rwW_len _ _ _ _ _)).trans ((ap_at1 (n := 1) rfl).trans ((ap_at1 (a := CW g a c) rfl).trans (SW_r1 (b := b) (t := t) (i := (k355 : Int)) (by show _ ∧ _ < t.1 3; omega)))))) (by decide) (by omega) dX5_isSame_452 ?_
                  refine y_iast (F := upZ (upZ (fun _ => 0) 0 (t.2 1 (k355 : Int) 0)) 1 (t.2 1 (k355 : Int) 1)) S hK hP hD hS 0 rfl (by decide) (by omega) dX5_isSame_453 (fun H locs hP hD hS => ?_)
                  have hP : va_P D vwCl ([(q431, .inl (g.1, 8, .inl (zA (upZ (upZ (upZ (fun _ => 0) 0 (t.2 1 (k355 : Int) 0)) 1 (t.2 1 (k355 : Int) 1)) 2 (t.2 1 (k355 : Int) 2))))), (q217, .inl (g.2.2, 5, .inr (.inr (.inr (.inr (rfs 5 r217))))))] ++ (rwW g r217 2 (hasF t ((t.1 4).toNat)) 5 ++ ([(q2, .inl (g.1, 9, .inl (zA (cF t (wcS t (20 * 20)) (peg6 t (t.1 4).toNat) (coin t k355)))))] ++ (CW g a c ++ SW g b t)))) H := hP
                  have hD : va_D A ([(q431, .inl (g.1, 8, .inl (zA (upZ (upZ (upZ (fun _ => 0) 0 (t.2 1 (k355 : Int) 0)) 1 (t.2 1 (k355 : Int) 1)) 2 (t.2 1 (k355 : Int) 2))))), (q217, .inl (g.2.2, 5, .inr (.inr (.inr (.inr (rfs 5 r217))))))] ++ (rwW g r217 2 (hasF t ((t.1 4).toNat)) 5 ++ ([(q2, .inl (g.1, 9, .inl (zA (cF t (wcS t (20 * 20)) (peg6 t (t.1 4).toNat) (coin t k355)))))] ++ (CW g a c ++ SW g b t)))) := hD
                  refine lv_dup S.1 S.2.1 dX5_isSame_454 rfl ?_
                  refine z_iconst S dX5_isSame_455 ?_
                  refine lv_aload_n S.1 S.2.1 dX5_isSame_456 rfl (lv_at hl 4 rfl) ?_
                  refine lv_iload S.1 S.2.1 dX5_isSame_457 (lv_at hl 2 rfl) ?_
                  refine y_ald2 S hK hP 1 rfl (Nat.le_refl _) (by decide) (by omega) dX5_isSame_459 ?_
                  refine z_iconst S dX5_isSame_460 ?_
                  refine z_iald (F := (hasF t ((t.1 4).toNat)) (k355 : Int)) S hK hP (2 + (((k355 : Int)).toNat)) ((ap_at1 (n := 2) rfl).trans (rw_at (i := (k355 : Int)) (by omega))) (by omega) (by omega) dX5_isSame_461 ?_
                  refine y_iast (F := upZ (upZ (upZ (fun _ => 0) 0 (t.2 1 (k355 : Int) 0)) 1 (t.2 1 (k355 : Int) 1)) 2 (t.2 1 (k355 : Int) 2)) S hK hP hD hS 0 rfl (by decide) (by omega) dX5_isSame_462 (fun H locs hP hD hS => ?_)
                  have hP : va_P D vwCl ([(q431, .inl (g.1, 8, .inl (zA (upZ (upZ (upZ (upZ (fun _ => 0) 0 (t.2 1 (k355 : Int) 0)) 1 (t.2 1 (k355 : Int) 1)) 2 (t.2 1 (k355 : Int) 2)) 3 ((hasF t ((t.1 4).toNat)) (k355 : Int) 0))))), (q217, .inl (g.2.2, 5, .inr (.inr (.inr (.inr (rfs 5 r217))))))] ++ (rwW g r217 2 (hasF t ((t.1 4).toNat)) 5 ++ ([(q2, .inl (g.1, 9, .inl (zA (cF t (wcS t (20 * 20)) (peg6 t (t.1 4).toNat) (coin t k355)))))] ++ (CW g a c ++ SW g b t)))) H := hP
                  have hD : va_D A ([(q431, .inl (g.1, 8, .inl (zA (upZ (upZ (upZ (upZ (fun _ => 0) 0 (t.2 1 (k355 : Int) 0)) 1 (t.2 1 (k355 : Int) 1)) 2 (t.2 1 (k355 : Int) 2)) 3 ((hasF t ((t.1 4).toNat)) (k355 : Int) 0))))), (q217, .inl (g.2.2, 5, .inr (.inr (.inr (.inr (rfs 5 r217))))))] ++ (rwW g r217 2 (hasF t ((t.1 4).toNat)) 5 ++ ([(q2, .inl (g.1, 9, .inl (zA (cF t (wcS t (20 * 20)) (peg6 t (t.1 4).toNat) (coin t k355)))))] ++ (CW g a c ++ SW g b t)))) := hD
                  refine lv_dup S.1 S.2.1 dX5_isSame_463 rfl ?_
                  refine z_iconst S dX5_isSame_464 ?_
                  refine lv_aload_n S.1 S.2.1 dX5_isSame_465 rfl (lv_at hl 4 rfl) ?_
                  refine lv_iload S.1 S.2.1 dX5_isSame_466 (lv_at hl 2 rfl) ?_
                  refine y_ald2 S hK hP 1 rfl (Nat.le_refl _) (by decide) (by omega) dX5_isSame_468 ?_
                  refine z_iconst S dX5_isSame_469 ?_
                  refine z_iald (F := (hasF t ((t.1 4).toNat)) (k355 : Int)) S hK hP (2 + (((k355 : Int)).toNat)) ((ap_at1 (n := 2) rfl).trans (rw_at (i := (k355 : Int)) (by omega))) (by omega) (by omega) dX5_isSame_470 ?_
                  refine y_iast (F := upZ (upZ (upZ (upZ (fun _ => 0) 0 (t.2 1 (k355 : Int) 0)) 1 (t.2 1 (k355 : Int) 1)) 2 (t.2 1 (k355 : Int) 2)) 3 ((hasF t ((t.1 4).toNat)) (k355 : Int) 0)) S hK hP hD hS 0 rfl (by decide) (by omega) dX5_isSame_471 (fun H locs hP hD hS => ?_)
                  have hP : va_P D vwCl ([(q431, .inl (g.1, 8, .inl (zA (upZ (upZ (upZ (upZ (upZ (fun _ => 0) 0 (t.2 1 (k355 : Int) 0)) 1 (t.2 1 (k355 : Int) 1)) 2 (t.2 1 (k355 : Int) 2)) 3 ((hasF t ((t.1 4).toNat)) (k355 : Int) 0)) 4 ((hasF t ((t.1 4).toNat)) (k355 : Int) 1))))), (q217, .inl (g.2.2, 5, .inr (.inr (.inr (.inr (rfs 5 r217))))))] ++ (rwW g r217 2 (hasF t ((t.1 4).toNat)) 5 ++ ([(q2, .inl (g.1, 9, .inl (zA (cF t (wcS t (20 * 20)) (peg6 t (t.1 4).toNat) (coin t k355)))))] ++ (CW g a c ++ SW g b t)))) H := hP
                  have hD : va_D A ([(q431, .inl (g.1, 8, .inl (zA (upZ (upZ (upZ (upZ (upZ (fun _ => 0) 0 (t.2 1 (k355 : Int) 0)) 1 (t.2 1 (k355 : Int) 1)) 2 (t.2 1 (k355 : Int) 2)) 3 ((hasF t ((t.1 4).toNat)) (k355 : Int) 0)) 4 ((hasF t ((t.1 4).toNat)) (k355 : Int) 1))))), (q217, .inl (g.2.2, 5, .inr (.inr (.inr (.inr (rfs 5 r217))))))] ++ (rwW g r217 2 (hasF t ((t.1 4).toNat)) 5 ++ ([(q2, .inl (g.1, 9, .inl (zA (cF t (wcS t (20 * 20)) (peg6 t (t.1 4).toNat) (coin t k355)))))] ++ (CW g a c ++ SW g b t)))) := hD
                  refine lv_dup S.1 S.2.1 dX5_isSame_472 rfl ?_
                  refine z_iconst S dX5_isSame_473 ?_
                  refine lv_iload S.1 S.2.1 dX5_isSame_474 (lv_at hl 1 rfl) ?_
                  refine y_iast (F := upZ (upZ (upZ (upZ (upZ (fun _ => 0) 0 (t.2 1 (k355 : Int) 0)) 1 (t.2 1 (k355 : Int) 1)) 2 (t.2 1 (k355 : Int) 2)) 3 ((hasF t ((t.1 4).toNat)) (k355 : Int) 0)) 4 ((hasF t ((t.1 4).toNat)) (k355 : Int) 1)) S hK hP hD hS 0 rfl (by decide) (by omega) dX5_isSame_476 (fun H locs hP hD hS => ?_)
                  have hP : va_P D vwCl ([(q431, .inl (g.1, 8, .inl (zA (upZ (upZ (upZ (upZ (upZ (upZ (fun _ => 0) 0 (t.2 1 (k355 : Int) 0)) 1 (t.2 1 (k355 : Int) 1)) 2 (t.2 1 (k355 : Int) 2)) 3 ((hasF t ((t.1 4).toNat)) (k355 : Int) 0)) 4 ((hasF t ((t.1 4).toNat)) (k355 : Int) 1)) 5 (inS t (k355 : Int) ((t.1 5).toNat)))))), (q217, .inl (g.2.2, 5, .inr (.inr (.inr (.inr (rfs 5 r217))))))] ++ (rwW g r217 2 (hasF t ((t.1 4).toNat)) 5 ++ ([(q2, .inl (g.1, 9, .inl (zA (cF t (wcS t (20 * 20)) (peg6 t (t.1 4).toNat) (coin t k355)))))] ++ (CW g a c ++ SW g b t)))) H := hP
                  have hD : va_D A ([(q431, .inl (g.1, 8, .inl (zA (upZ (upZ (upZ (upZ (upZ (upZ (fun _ => 0) 0 (t.2 1 (k355 : Int) 0)) 1 (t.2 1 (k355 : Int) 1)) 2 (t.2 1 (k355 : Int) 2)) 3 ((hasF t ((t.1 4).toNat)) (k355 : Int) 0)) 4 ((hasF t ((t.1 4).toNat)) (k355 : Int) 1)) 5 (inS t (k355 : Int) ((t.1 5).toNat)))))), (q217, .inl (g.2.2, 5, .inr (.inr (.inr (.inr (rfs 5 r217))))))] ++ (rwW g r217 2 (hasF t ((t.1 4).toNat)) 5 ++ ([(q2, .inl (g.1, 9, .inl (zA (cF t (wcS t (20 * 20)) (peg6 t (t.1 4).toNat) (coin t k355)))))] ++ (CW g a c ++ SW g b t)))) := hD
                  refine lv_dup S.1 S.2.1 dX5_isSame_477 rfl ?_
                  refine z_bipush S (by decide) dX5_isSame_478 ?_
                  refine lv_aload S.1 S.2.1 dX5_isSame_480 (lv_at hl 0 rfl) ?_
                  refine z_iconst S dX5_isSame_482 ?_
                  refine z_iald (F := t.2 1 (k355 : Int)) S hK hP (2 + (5 + (1 + (21 + (5 + (sn t 0 + ((k355 : Int)).toNat)))))) ((ap_at1 (n := 2) rfl).trans ((ap_at1 (n := 5) (rwW_len _ _ _ _ _)).trans ((ap_at1 (n := 1) rfl).trans ((ap_at1 (a := CW g a c) rfl).trans (SW_r1 (b := b) (t := t) (i := (k355 : Int)) (by show _ ∧ _ < t.1 3; omega)))))) (by decide) (by omega) dX5_isSame_483 ?_
                  refine y_iast (F := upZ (upZ (upZ (upZ (upZ (upZ (fun _ => 0) 0 (t.2 1 (k355 : Int) 0)) 1 (t.2 1 (k355 : Int) 1)) 2 (t.2 1 (k355 : Int) 2)) 3 ((hasF t ((t.1 4).toNat)) (k355 : Int) 0)) 4 ((hasF t ((t.1 4).toNat)) (k355 : Int) 1)) 5 (inS t (k355 : Int) ((t.1 5).toNat))) S hK hP hD hS 0 rfl (by decide) (by omega) dX5_isSame_484 (fun H locs hP hD hS => ?_)
                  have hP : va_P D vwCl ([(q431, .inl (g.1, 8, .inl (zA (upZ (upZ (upZ (upZ (upZ (upZ (upZ (fun _ => 0) 0 (t.2 1 (k355 : Int) 0)) 1 (t.2 1 (k355 : Int) 1)) 2 (t.2 1 (k355 : Int) 2)) 3 ((hasF t ((t.1 4).toNat)) (k355 : Int) 0)) 4 ((hasF t ((t.1 4).toNat)) (k355 : Int) 1)) 5 (inS t (k355 : Int) ((t.1 5).toNat))) 6 (t.2 1 (k355 : Int) 3))))), (q217, .inl (g.2.2, 5, .inr (.inr (.inr (.inr (rfs 5 r217))))))] ++ (rwW g r217 2 (hasF t ((t.1 4).toNat)) 5 ++ ([(q2, .inl (g.1, 9, .inl (zA (cF t (wcS t (20 * 20)) (peg6 t (t.1 4).toNat) (coin t k355)))))] ++ (CW g a c ++ SW g b t)))) H := hP
                  have hD : va_D A ([(q431, .inl (g.1, 8, .inl (zA (upZ (upZ (upZ (upZ (upZ (upZ (upZ (fun _ => 0) 0 (t.2 1 (k355 : Int) 0)) 1 (t.2 1 (k355 : Int) 1)) 2 (t.2 1 (k355 : Int) 2)) 3 ((hasF t ((t.1 4).toNat)) (k355 : Int) 0)) 4 ((hasF t ((t.1 4).toNat)) (k355 : Int) 1)) 5 (inS t (k355 : Int) ((t.1 5).toNat))) 6 (t.2 1 (k355 : Int) 3))))), (q217, .inl (g.2.2, 5, .inr (.inr (.inr (.inr (rfs 5 r217))))))] ++ (rwW g r217 2 (hasF t ((t.1 4).toNat)) 5 ++ ([(q2, .inl (g.1, 9, .inl (zA (cF t (wcS t (20 * 20)) (peg6 t (t.1 4).toNat) (coin t k355)))))] ++ (CW g a c ++ SW g b t)))) := hD
                  refine lv_dup S.1 S.2.1 dX5_isSame_485 rfl ?_
                  refine z_bipush S (by decide) dX5_isSame_486 ?_
                  refine lv_aload S.1 S.2.1 dX5_isSame_488 (lv_at hl 0 rfl) ?_
                  refine z_iconst S dX5_isSame_490 ?_
                  refine z_iald (F := t.2 1 (k355 : Int)) S hK hP (2 + (5 + (1 + (21 + (5 + (sn t 0 + ((k355 : Int)).toNat)))))) ((ap_at1 (n := 2) rfl).trans ((ap_at1 (n := 5) (rwW_len _ _ _ _ _)).trans ((ap_at1 (n := 1) rfl).trans ((ap_at1 (a := CW g a c) rfl).trans (SW_r1 (b := b) (t := t) (i := (k355 : Int)) (by show _ ∧ _ < t.1 3; omega)))))) (by decide) (by omega) dX5_isSame_491 ?_
                  refine y_iast (F := upZ (upZ (upZ (upZ (upZ (upZ (upZ (fun _ => 0) 0 (t.2 1 (k355 : Int) 0)) 1 (t.2 1 (k355 : Int) 1)) 2 (t.2 1 (k355 : Int) 2)) 3 ((hasF t ((t.1 4).toNat)) (k355 : Int) 0)) 4 ((hasF t ((t.1 4).toNat)) (k355 : Int) 1)) 5 (inS t (k355 : Int) ((t.1 5).toNat))) 6 (t.2 1 (k355 : Int) 3)) S hK hP hD hS 0 rfl (by decide) (by omega) dX5_isSame_492 (fun H locs hP hD hS => ?_)
                  have hP : va_P D vwCl ([(q431, .inl (g.1, 8, .inl (zA (upZ (upZ (upZ (upZ (upZ (upZ (upZ (upZ (fun _ => 0) 0 (t.2 1 (k355 : Int) 0)) 1 (t.2 1 (k355 : Int) 1)) 2 (t.2 1 (k355 : Int) 2)) 3 ((hasF t ((t.1 4).toNat)) (k355 : Int) 0)) 4 ((hasF t ((t.1 4).toNat)) (k355 : Int) 1)) 5 (inS t (k355 : Int) ((t.1 5).toNat))) 6 (t.2 1 (k355 : Int) 3)) 7 (t.2 1 (k355 : Int) 4))))), (q217, .inl (g.2.2, 5, .inr (.inr (.inr (.inr (rfs 5 r217))))))] ++ (rwW g r217 2 (hasF t ((t.1 4).toNat)) 5 ++ ([(q2, .inl (g.1, 9, .inl (zA (cF t (wcS t (20 * 20)) (peg6 t (t.1 4).toNat) (coin t k355)))))] ++ (CW g a c ++ SW g b t)))) H := hP
                  have hD : va_D A ([(q431, .inl (g.1, 8, .inl (zA (upZ (upZ (upZ (upZ (upZ (upZ (upZ (upZ (fun _ => 0) 0 (t.2 1 (k355 : Int) 0)) 1 (t.2 1 (k355 : Int) 1)) 2 (t.2 1 (k355 : Int) 2)) 3 ((hasF t ((t.1 4).toNat)) (k355 : Int) 0)) 4 ((hasF t ((t.1 4).toNat)) (k355 : Int) 1)) 5 (inS t (k355 : Int) ((t.1 5).toNat))) 6 (t.2 1 (k355 : Int) 3)) 7 (t.2 1 (k355 : Int) 4))))), (q217, .inl (g.2.2, 5, .inr (.inr (.inr (.inr (rfs 5 r217))))))] ++ (rwW g r217 2 (hasF t ((t.1 4).toNat)) 5 ++ ([(q2, .inl (g.1, 9, .inl (zA (cF t (wcS t (20 * 20)) (peg6 t (t.1 4).toNat) (coin t k355)))))] ++ (CW g a c ++ SW g b t)))) := hD
                  have hw : ([(q431, .inl (g.1, 8, .inl (zA (upZ (upZ (upZ (upZ (upZ (upZ (upZ (upZ (fun _ => 0) 0 (t.2 1 (k355 : Int) 0)) 1 (t.2 1 (k355 : Int) 1)) 2 (t.2 1 (k355 : Int) 2)) 3 ((hasF t ((t.1 4).toNat)) (k355 : Int) 0)) 4 ((hasF t ((t.1 4).toNat)) (k355 : Int) 1)) 5 (inS t (k355 : Int) ((t.1 5).toNat))) 6 (t.2 1 (k355 : Int) 3)) 7 (t.2 1 (k355 : Int) 4))))), (q217, .inl (g.2.2, 5, .inr (.inr (.inr (.inr (rfs 5 r217))))))] ++ (rwW g r217 2 (hasF t ((t.1 4).toNat)) 5 ++ ([(q2, .inl (g.1, 9, .inl (zA (cF t (wcS t (20 * 20)) (peg6 t (t.1 4).toNat) (coin t k355)))))] ++ (CW g a c ++ SW g b t)))) = ([(q431, .inl (g.1, 8, .inl (zA (dueF t (k355 : Int))))), (q217, .inl (g.2.2, 5, .inr (.inr (.inr (.inr (rfs 5 r217))))))] ++ (rwW g r217 2 (hasF t ((t.1 4).toNat)) 5 ++ ([(q2, .inl (g.1, 9, .inl (zA (cF t (wcS t (20 * 20)) (peg6 t (t.1 4).toNat) (coin t k355)))))] ++ (CW g a c ++ SW g b t)))) := by rfl
                  rw [hw] at hP hD; clear hw
                  refine lv_astore (lv' := [(8, .ref q431), (7, .ref (rd b 1 ((k355 : Int)).toNat)), (6, .int (zI (inS t (k355 : Int) ((t.1 5).toNat)))), (5, .int (zI (k355 : Int))), (4, .int (zI (watS t ((t.1 4).toNat)))), (3, .ref q217), (2, .ref q2), (0, .ref (b 0)), (1, .ref (a 0))]) S.1 S.2.1 dX5_isSame_493 hl (by decide) rfl (fun ls hl => ?_)
                  refine z_iconst S dX5_isSame_495 ?_
                  refine lv_istore (lv' := [(9, .int (zI 0)), (8, .ref q431), (7, .ref (rd b 1 ((k355 : Int)).toNat)), (6, .int (zI (inS t (k355 : Int) ((t.1 5).toNat)))), (5, .int (zI (k355 : Int))), (4, .int (zI (watS t ((t.1 4).toNat)))), (3, .ref q217), (2, .ref q2), (0, .ref (b 0)), (1, .ref (a 0))]) S.1 S.2.1 dX5_isSame_496 hl (by decide) rfl (fun ls hl => ?_)
                  refine y_for (σ := Unit) (D := D) (A := A) (nL := 10) (H0 := s.heap) 8 (fun (_u : Unit) => s) (fun (k498 : Nat) (_u : Unit) => [(9, .int (zI (k498 : Int))), (8, .ref q431), (7, .ref (rd b 1 ((k355 : Int)).toNat)), (6, .int (zI (inS t (k355 : Int) ((t.1 5).toNat)))), (5, .int (zI (k355 : Int))), (4, .int (zI (watS t ((t.1 4).toNat)))), (3, .ref q217), (2, .ref q2), (0, .ref (b 0)), (1, .ref (a 0))]) (fun (k498 : Nat) (_u : Unit) => ([(q431, .inl (g.1, 8, .inl (zA (dueF t (k355 : Int))))), (q217, .inl (g.2.2, 5, .inr (.inr (.inr (.inr (rfs 5 r217))))))] ++ (rwW g r217 2 (hasF t ((t.1 4).toNat)) 5 ++ ([(q2, .inl (g.1, 9, .inl (zA (cF t (wcS t (20 * 20)) (peg6 t (t.1 4).toNat) (coin t k355)))))] ++ (CW g a c ++ SW g b t))))) (fun _ => 7 + k355 + 1) (fun _ => 24 + 8 * k355 + 8) (fun (k498 : Nat) (_u : Unit) => True) (fun k498 hk498 _u hJ498 H locs hP hD hS ls hl ih498 => ?_) (fun _u hJ498 H locs hP hD hS ls hl => ?_) 0 (by omega) () trivial _ _ hP hD hS ls (lv_sub hl [0, 1, 2, 3, 4, 5, 6, 7, 8, 9] rfl)
                  · have hl : lv_has ls 10 [(9, .int (zI (k498 : Int))), (8, .ref q431), (7, .ref (rd b 1 ((k355 : Int)).toNat)), (6, .int (zI (inS t (k355 : Int) ((t.1 5).toNat)))), (5, .int (zI (k355 : Int))), (4, .int (zI (watS t ((t.1 4).toNat)))), (3, .ref q217), (2, .ref q2), (0, .ref (b 0)), (1, .ref (a 0))] := hl
                    have hP : va_P D vwCl ([(q431, .inl (g.1, 8, .inl (zA (dueF t (k355 : Int))))), (q217, .inl (g.2.2, 5, .inr (.inr (.inr (.inr (rfs 5 r217))))))] ++ (rwW g r217 2 (hasF t ((t.1 4).toNat)) 5 ++ ([(q2, .inl (g.1, 9, .inl (zA (cF t (wcS t (20 * 20)) (peg6 t (t.1 4).toNat) (coin t k355)))))] ++ (CW g a c ++ SW g b t)))) H := hP
                    have hD : va_D A ([(q431, .inl (g.1, 8, .inl (zA (dueF t (k355 : Int))))), (q217, .inl (g.2.2, 5, .inr (.inr (.inr (.inr (rfs 5 r217))))))] ++ (rwW g r217 2 (hasF t ((t.1 4).toNat)) 5 ++ ([(q2, .inl (g.1, 9, .inl (zA (cF t (wcS t (20 * 20)) (peg6 t (t.1 4).toNat) (coin t k355)))))] ++ (CW g a c ++ SW g b t)))) := hD
                    refine lv_iload S.1 S.2.1 dX5_isSame_498 (lv_at hl 0 rfl) ?_
                    refine z_bipush S (by decide) dX5_isSame_500 ?_
                    refine z_icmp_ge (tgt := 529) S dX5_isSame_502 (by decide) (by omega) (fun h_27 => ?_) (fun h_27 => ?_)
                    · exact absurd h_27 (by omega)
                    · have htd := S_told hR hI hT (d := (k355 : Int)) (w := (k498 : Int)) (by omega) (by omega)
                      refine lv_aload_n S.1 S.2.1 dX5_isSame_505 rfl (lv_at hl 9 rfl) ?_
                      refine lv_iload S.1 S.2.1 dX5_isSame_506 (lv_at hl 4 rfl) ?_
                      refine lv_iload S.1 S.2.1 dX5_isSame_508 (lv_at hl 0 rfl) ?_
                      refine z_rV (As := [.int (zI (k355 : Int)), .int (zI (k498 : Int))]) (rest := []) S (r_X4_told l D g a c hI (k355 : Int) (k498 : Int) (by omega) (by omega)) ml_X5_94 im_X4_told se_X4_told ini_X4 cd_X4_told ds_X4_told ⟨Nat.le_of_ble_eq_true rfl, Nat.le_of_ble_eq_true rfl⟩ hK (va_P_l (va_P_r (va_P_r (va_P_r hP)))) (va_recv hK.1 (va_P_l (va_P_r (va_P_r (va_P_r hP)))) (ci := 4) (q0 := 0) rfl rfl) rfl hl.1 rfl (Nat.le_of_ble_eq_true rfl) ⟨by show 7 + k355 + 1 ≤ 22; omega, by show 24 + 8 * k355 + 8 ≤ 134; omega⟩ dX5_isSame_510 ?_
                      refine lv_aload S.1 S.2.1 dX5_isSame_513 (lv_at hl 1 rfl) ?_
                      refine lv_iload S.1 S.2.1 dX5_isSame_515 (lv_at hl 0 rfl) ?_
                      refine z_iald (F := dueF t (k355 : Int)) S hK hP 0 rfl (by decide) (by omega) dX5_isSame_517 ?_
                      refine z_icmp_eq (tgt := 523) S dX5_isSame_518 (by decide) (by omega) (fun h_28 => ?_) (fun h_28 => ?_)
                      · refine z_iinc (lv' := [(9, .int (zI ((k498 : Int) + 1))), (8, .ref q431), (7, .ref (rd b 1 ((k355 : Int)).toNat)), (6, .int (zI (inS t (k355 : Int) ((t.1 5).toNat)))), (5, .int (zI (k355 : Int))), (4, .int (zI (watS t ((t.1 4).toNat)))), (3, .ref q217), (2, .ref q2), (0, .ref (b 0)), (1, .ref (a 0))]) S dX5_isSame_523 hl (k := 0) rfl (by decide) rfl (fun ls hl => ?_)
                        refine z_goto (tgt := 498) S dX5_isSame_526 (by decide) ?_
                        exact ih498 () trivial _ _ hP hD hS _ (lv_sub hl [0, 1, 2, 3, 4, 5, 6, 7, 8, 9] rfl)
                      · exact absurd h_28 (by omega)
                  · have hl : lv_has ls 10 [(9, .int (zI ((8 : Nat) : Int))), (8, .ref q431), (7, .ref (rd b 1 ((k355 : Int)).toNat)), (6, .int (zI (inS t (k355 : Int) ((t.1 5).toNat)))), (5, .int (zI (k355 : Int))), (4, .int (zI (watS t ((t.1 4).toNat)))), (3, .ref q217), (2, .ref q2), (0, .ref (b 0)), (1, .ref (a 0))] := hl
                    have hP : va_P D vwCl ([(q431, .inl (g.1, 8, .inl (zA (dueF t (k355 : Int))))), (q217, .inl (g.2.2, 5, .inr (.inr (.inr (.inr (rfs 5 r217))))))] ++ (rwW g r217 2 (hasF t ((t.1 4).toNat)) 5 ++ ([(q2, .inl (g.1, 9, .inl (zA (cF t (wcS t (20 * 20)) (peg6 t (t.1 4).toNat) (coin t k355)))))] ++ (CW g a c ++ SW g b t)))) H := hP
                    have hD : va_D A ([(q431, .inl (g.1, 8, .inl (zA (dueF t (k355 : Int))))), (q217, .inl (g.2.2, 5, .inr (.inr (.inr (.inr (rfs 5 r217))))))] ++ (rwW g r217 2 (hasF t ((t.1 4).toNat)) 5 ++ ([(q2, .inl (g.1, 9, .inl (zA (cF t (wcS t (20 * 20)) (peg6 t (t.1 4).toNat) (coin t k355)))))] ++ (CW g a c ++ SW g b t)))) := hD
                    refine lv_iload S.1 S.2.1 dX5_isSame_498 (lv_at hl 0 rfl) ?_
                    refine z_bipush S (by decide) dX5_isSame_500 ?_
                    refine z_icmp_ge (tgt := 529) S dX5_isSame_502 (by decide) (by omega) (fun h_29 => ?_) (fun h_29 => ?_)
                    · refine lv_aload_n S.1 S.2.1 dX5_isSame_529 rfl (lv_at hl 7 rfl) ?_
                      refine z_bipush S (by decide) dX5_isSame_530 ?_
                      refine lv_dup2_11 S.1 S.2.1 dX5_isSame_532 rfl rfl ?_
                      refine z_iald (F := cF t (wcS t (20 * 20)) (peg6 t (t.1 4).toNat) (coin t k355)) S hK hP 7 rfl (by decide) (by omega) dX5_isSame_533 ?_
                      refine z_top (coin t k355) (by rfl) ?_
                      refine lv_aload S.1 S.2.1 dX5_isSame_534 (lv_at hl 2 rfl) ?_
                      refine z_iconst S dX5_isSame_536 ?_
                      refine z_iald (F := t.2 1 (k355 : Int)) S hK hP (2 + (5 + (1 + (21 + (5 + (sn t 0 + ((k355 : Int)).toNat)))))) ((ap_at1 (n := 2) rfl).trans ((ap_at1 (n := 5) (rwW_len _ _ _ _ _)).trans ((ap_at1 (n := 1) rfl).trans ((ap_at1 (a := CW g a c) rfl).trans (SW_r1 (b := b) (t := t) (i := (k355 : Int)) (by show _ ∧ _ < t.1 3; omega)))))) (by decide) (by omega) dX5_isSame_537 ?_
                      refine z_iadd S dX5_isSame_538 ?_
                      refine y_iast (F := cF t (wcS t (20 * 20)) (peg6 t (t.1 4).toNat) (coin t k355)) S hK hP hD hS 7 rfl (by decide) (by omega) dX5_isSame_539 (fun H locs hP hD hS => ?_)
                      have hP : va_P D vwCl ([(q431, .inl (g.1, 8, .inl (zA (dueF t (k355 : Int))))), (q217, .inl (g.2.2, 5, .inr (.inr (.inr (.inr (rfs 5 r217))))))] ++ (rwW g r217 2 (hasF t ((t.1 4).toNat)) 5 ++ ([(q2, .inl (g.1, 9, .inl (zA (upZ (cF t (wcS t (20 * 20)) (peg6 t (t.1 4).toNat) (coin t k355)) 8 ((coin t k355) + (t.2 1 (k355 : Int) 2))))))] ++ (CW g a c ++ SW g b t)))) H := hP
                      have hD : va_D A ([(q431, .inl (g.1, 8, .inl (zA (dueF t (k355 : Int))))), (q217, .inl (g.2.2, 5, .inr (.inr (.inr (.inr (rfs 5 r217))))))] ++ (rwW g r217 2 (hasF t ((t.1 4).toNat)) 5 ++ ([(q2, .inl (g.1, 9, .inl (zA (upZ (cF t (wcS t (20 * 20)) (peg6 t (t.1 4).toNat) (coin t k355)) 8 ((coin t k355) + (t.2 1 (k355 : Int) 2))))))] ++ (CW g a c ++ SW g b t)))) := hD
                      rw [cF_8] at hP hD
                      refine z_iinc (lv' := [(5, .int (zI ((k355 : Int) + 1))), (9, .int (zI ((8 : Nat) : Int))), (8, .ref q431), (7, .ref (rd b 1 ((k355 : Int)).toNat)), (6, .int (zI (inS t (k355 : Int) ((t.1 5).toNat)))), (4, .int (zI (watS t ((t.1 4).toNat)))), (3, .ref q217), (2, .ref q2), (0, .ref (b 0)), (1, .ref (a 0))]) S dX5_isSame_540 hl (k := 4) rfl (by decide) rfl (fun ls hl => ?_)
                      refine z_goto (tgt := 355) S dX5_isSame_543 (by decide) ?_
                      have hP : va_P D vwCl ([(q431, .inl (g.1, 8, .inl (zA (dueF t (k355 : Int)))))] ++ ([(q217, .inl (g.2.2, 5, .inr (.inr (.inr (.inr (rfs 5 r217))))))] ++ (rwW g r217 2 (hasF t ((t.1 4).toNat)) 5 ++ ([(q2, .inl (g.1, 9, .inl (zA (cF t (wcS t (20 * 20)) (peg6 t (t.1 4).toNat) ((coin t k355) + (t.2 1 (k355 : Int) 2))))))] ++ (CW g a c ++ SW g b t))))) H := hP
                      have hD : va_D A ([(q431, .inl (g.1, 8, .inl (zA (dueF t (k355 : Int)))))] ++ ([(q217, .inl (g.2.2, 5, .inr (.inr (.inr (.inr (rfs 5 r217))))))] ++ (rwW g r217 2 (hasF t ((t.1 4).toNat)) 5 ++ ([(q2, .inl (g.1, 9, .inl (zA (cF t (wcS t (20 * 20)) (peg6 t (t.1 4).toNat) ((coin t k355) + (t.2 1 (k355 : Int) 2))))))] ++ (CW g a c ++ SW g b t))))) := hD
                      have hP := va_P_r hP
                      have hD := va_D_r hD
                      have hP : va_P D vwCl ([(q217, .inl (g.2.2, 5, .inr (.inr (.inr (.inr (rfs 5 r217))))))] ++ (rwW g r217 2 (hasF t ((t.1 4).toNat)) 5 ++ ([(q2, .inl (g.1, 9, .inl (zA (cF t (wcS t (20 * 20)) (peg6 t (t.1 4).toNat) ((coin t k355) + (t.2 1 (k355 : Int) 2))))))] ++ (CW g a c ++ SW g b t)))) H := hP
                      have hD : va_D A ([(q217, .inl (g.2.2, 5, .inr (.inr (.inr (.inr (rfs 5 r217))))))] ++ (rwW g r217 2 (hasF t ((t.1 4).toNat)) 5 ++ ([(q2, .inl (g.1, 9, .inl (zA (cF t (wcS t (20 * 20)) (peg6 t (t.1 4).toNat) ((coin t k355) + (t.2 1 (k355 : Int) 2))))))] ++ (CW g a c ++ SW g b t)))) := hD
                      have hw : ([(q217, .inl (g.2.2, 5, .inr (.inr (.inr (.inr (rfs 5 r217))))))] ++ (rwW g r217 2 (hasF t ((t.1 4).toNat)) 5 ++ ([(q2, .inl (g.1, 9, .inl (zA (cF t (wcS t (20 * 20)) (peg6 t (t.1 4).toNat) ((coin t k355) + (t.2 1 (k355 : Int) 2))))))] ++ (CW g a c ++ SW g b t)))) = ([(q217, .inl (g.2.2, 5, .inr (.inr (.inr (.inr (rfs 5 r217))))))] ++ (rwW g r217 2 (hasF t ((t.1 4).toNat)) 5 ++ ([(q2, .inl (g.1, 9, .inl (zA (cF t (wcS t (20 * 20)) (peg6 t (t.1 4).toNat) (coin t (k355 + 1))))))] ++ (CW g a c ++ SW g b t)))) := by exact rfl
                      rw [hw] at hP hD
                      refine W.widen (k := 7 + (k355 + 1)) (n := 24 + 8 * (k355 + 1)) (by omega) (by omega) ?_
                      exact ih355 () trivial _ _ hP hD hS _ (lv_sub hl [0, 5, 6, 7, 8, 9] rfl)
                    · exact absurd h_29 (by omega)
                · exact absurd h_25 (by omega)
          · have hl : lv_has ls 10 [(5, .int (zI (((t.1 3).toNat : Nat) : Int))), (4, .int (zI (watS t ((t.1 4).toNat)))), (3, .ref q217), (2, .ref q2), (0, .ref (b 0)), (1, .ref (a 0))] := hl
            have hP : va_P D vwCl ([(q217, .inl (g.2.2, 5, .inr (.inr (.inr (.inr (rfs 5 r217))))))] ++ (rwW g r217 2 (hasF t ((t.1 4).toNat)) 5 ++ ([(q2, .inl (g.1, 9, .inl (zA (cF t (wcS t (20 * 20)) (peg6 t (t.1 4).toNat) (coin t ((t.1 3).toNat))))))] ++ (CW g a c ++ SW g b t)))) H := hP
            have hD : va_D A ([(q217, .inl (g.2.2, 5, .inr (.inr (.inr (.inr (rfs 5 r217))))))] ++ (rwW g r217 2 (hasF t ((t.1 4).toNat)) 5 ++ ([(q2, .inl (g.1, 9, .inl (zA (cF t (wcS t (20 * 20)) (peg6 t (t.1 4).toNat) (coin t ((t.1 3).toNat))))))] ++ (CW g a c ++ SW g b t)))) := hD
            refine lv_iload S.1 S.2.1 dX5_isSame_355 (lv_at hl 0 rfl) ?_
            refine lv_aload_n S.1 S.2.1 dX5_isSame_357 rfl (lv_at hl 4 rfl) ?_
            refine z_get (v := .ref (b 2)) S inA5 hK hP 28 rfl rfl 3 (by decide) fl_X5_19 rfl dX5_isSame_358 ?_
            refine y_alen S hK hP 30 rfl (v := t.1 3) (by show (((t.1 3).toNat : Nat) : Int) = _; omega) dX5_isSame_361 ?_
            refine z_icmp_ge (tgt := 546) S dX5_isSame_362 (by decide) (by omega) (fun h_30 => ?_) (fun h_30 => ?_)
            · refine z_iconst S dX5_isSame_546 ?_
              refine lv_istore (lv' := [(5, .int (zI 0)), (4, .int (zI (watS t ((t.1 4).toNat)))), (3, .ref q217), (2, .ref q2), (0, .ref (b 0)), (1, .ref (a 0))]) S.1 S.2.1 dX5_isSame_547 hl (by decide) rfl (fun ls hl => ?_)
              refine y_for (σ := Unit) (D := D) (A := A) (nL := 10) (H0 := s.heap) ((t.1 5).toNat) (fun (_u : Unit) => s) (fun (k549 : Nat) (_u : Unit) => [(5, .int (zI (k549 : Int))), (4, .int (zI (watS t ((t.1 4).toNat)))), (3, .ref q217), (2, .ref q2), (0, .ref (b 0)), (1, .ref (a 0))]) (fun (k549 : Nat) (_u : Unit) => ([(q217, .inl (g.2.2, 5, .inr (.inr (.inr (.inr (rfs 5 r217))))))] ++ (rwW g r217 2 (hasF t ((t.1 4).toNat)) 5 ++ ([(q2, .inl (g.1, 9, .inl (zA (cF t (wcS t (20 * 20)) (peg6 t (t.1 4).toNat) (coin t ((t.1 3).toNat))))))] ++ (CW g a c ++ SW g b t))))) (fun (k549 : Nat) => 7 + (t.1 3).toNat + k549) (fun (k549 : Nat) => 24 + 8 * (t.1 3).toNat + 7 * k549) (fun (k549 : Nat) (_u : Unit) => True) (fun k549 hk549 _u hJ549 H locs hP hD hS ls hl ih549 => ?_) (fun _u hJ549 H locs hP hD hS ls hl => ?_) 0 (by omega) () trivial _ _ hP hD hS ls (lv_sub hl [0, 1, 2, 3, 4, 5] rfl)
              · have hl : lv_has ls 10 [(5, .int (zI (k549 : Int))), (4, .int (zI (watS t ((t.1 4).toNat)))), (3, .ref q217), (2, .ref q2), (0, .ref (b 0)), (1, .ref (a 0))] := hl
                have hP : va_P D vwCl ([(q217, .inl (g.2.2, 5, .inr (.inr (.inr (.inr (rfs 5 r217))))))] ++ (rwW g r217 2 (hasF t ((t.1 4).toNat)) 5 ++ ([(q2, .inl (g.1, 9, .inl (zA (cF t (wcS t (20 * 20)) (peg6 t (t.1 4).toNat) (coin t ((t.1 3).toNat))))))] ++ (CW g a c ++ SW g b t)))) H := hP
                have hD : va_D A ([(q217, .inl (g.2.2, 5, .inr (.inr (.inr (.inr (rfs 5 r217))))))] ++ (rwW g r217 2 (hasF t ((t.1 4).toNat)) 5 ++ ([(q2, .inl (g.1, 9, .inl (zA (cF t (wcS t (20 * 20)) (peg6 t (t.1 4).toNat) (coin t ((t.1 3).toNat))))))] ++ (CW g a c ++ SW g b t)))) := hD
                refine lv_iload S.1 S.2.1 dX5_isSame_549 (lv_at hl 0 rfl) ?_
                refine lv_aload_n S.1 S.2.1 dX5_isSame_551 rfl (lv_at hl 4 rfl) ?_
                refine z_get (v := .ref (b 4)) S inA5 hK hP 28 rfl rfl 5 (by decide) fl_X5_25 rfl dX5_isSame_552 ?_
                refine y_alen S hK hP 32 rfl (v := t.1 5) (by show (((t.1 5).toNat : Nat) : Int) = _; omega) dX5_isSame_555 ?_
                refine z_icmp_ge (tgt := 709) S dX5_isSame_556 (by decide) (by omega) (fun h_31 => ?_) (fun h_31 => ?_)
                · exact absurd h_31 (by omega)
                · refine lv_aload_n S.1 S.2.1 dX5_isSame_559 rfl (lv_at hl 4 rfl) ?_
                  refine z_get (v := .ref (b 4)) S inA5 hK hP 28 rfl rfl 5 (by decide) fl_X5_25 rfl dX5_isSame_560 ?_
                  refine lv_iload S.1 S.2.1 dX5_isSame_563 (lv_at hl 0 rfl) ?_
                  refine y_ald2 S hK hP 32 rfl (Nat.le_refl _) (by show (t.1 5).toNat < _; omega) (by show _ ∧ _ < (((t.1 5).toNat : Nat) : Int); omega) dX5_isSame_565 ?_
                  have hb_32 := hT.q (i := (k549 : Int)) (by omega)
                  refine lv_astore (lv' := [(6, .ref (rd b 3 ((k549 : Int)).toNat)), (5, .int (zI (k549 : Int))), (4, .int (zI (watS t ((t.1 4).toNat)))), (3, .ref q217), (2, .ref q2), (0, .ref (b 0)), (1, .ref (a 0))]) S.1 S.2.1 dX5_isSame_566 hl (by decide) rfl (fun ls hl => ?_)
                  refine y_joinV (nL := 10) (fun v => v = b01 (0 < t.2 3 (k549 : Int) 2 ∧ t.2 3 (k549 : Int) 2 ≤ t.2 3 (k549 : Int) 3)) 591 (lv := [(6, .ref (rd b 3 ((k549 : Int)).toNat)), (5, .int (zI (k549 : Int))), (4, .int (zI (watS t ((t.1 4).toNat)))), (3, .ref q217), (2, .ref q2), (0, .ref (b 0)), (1, .ref (a 0))]) [] (fun J591 => ?_) (fun v591 hv591 ls hl => ?_)
                  · refine lv_aload S.1 S.2.1 dX5_isSame_568 (lv_at hl 0 rfl) ?_
                    refine z_iconst S dX5_isSame_570 ?_
                    refine z_iald (F := t.2 3 (k549 : Int)) S hK hP (1 + (5 + (1 + (21 + (5 + (sn t 0 + (sn t 1 + (sn t 2 + ((k549 : Int)).toNat)))))))) ((ap_at1 (n := 1) rfl).trans ((ap_at1 (n := 5) (rwW_len _ _ _ _ _)).trans ((ap_at1 (n := 1) rfl).trans ((ap_at1 (a := CW g a c) rfl).trans (SW_r3 (b := b) (t := t) (i := (k549 : Int)) (by show _ ∧ _ < t.1 5; omega)))))) (by decide) (by omega) dX5_isSame_571 ?_
                    refine z_if_le (tgt := 590) S dX5_isSame_572 (by decide) (by omega) (fun h_33 => ?_) (fun h_33 => ?_)
                    · refine z_iconst S dX5_isSame_590 ?_
                      exact J591 0 (b01_is (by omega)) ls hl
                    · refine lv_aload S.1 S.2.1 dX5_isSame_575 (lv_at hl 0 rfl) ?_
                      refine z_iconst S dX5_isSame_577 ?_
                      refine z_iald (F := t.2 3 (k549 : Int)) S hK hP (1 + (5 + (1 + (21 + (5 + (sn t 0 + (sn t 1 + (sn t 2 + ((k549 : Int)).toNat)))))))) ((ap_at1 (n := 1) rfl).trans ((ap_at1 (n := 5) (rwW_len _ _ _ _ _)).trans ((ap_at1 (n := 1) rfl).trans ((ap_at1 (a := CW g a c) rfl).trans (SW_r3 (b := b) (t := t) (i := (k549 : Int)) (by show _ ∧ _ < t.1 5; omega)))))) (by decide) (by omega) dX5_isSame_578 ?_
                      refine lv_aload S.1 S.2.1 dX5_isSame_579 (lv_at hl 0 rfl) ?_
                      refine z_iconst S dX5_isSame_581 ?_
                      refine z_iald (F := t.2 3 (k549 : Int)) S hK hP (1 + (5 + (1 + (21 + (5 + (sn t 0 + (sn t 1 + (sn t 2 + ((k549 : Int)).toNat)))))))) ((ap_at1 (n := 1) rfl).trans ((ap_at1 (n := 5) (rwW_len _ _ _ _ _)).trans ((ap_at1 (n := 1) rfl).trans ((ap_at1 (a := CW g a c) rfl).trans (SW_r3 (b := b) (t := t) (i := (k549 : Int)) (by show _ ∧ _ < t.1 5; omega)))))) (by decide) (by omega) dX5_isSame_582 ?_
                      refine z_icmp_lt (tgt := 590) S dX5_isSame_583 (by decide) (by omega) (fun h_34 => ?_) (fun h_34 => ?_)
                      · refine z_iconst S dX5_isSame_590 ?_
                        exact J591 0 (b01_is (by omega)) ls hl
                      · refine z_iconst S dX5_isSame_586 ?_
                        refine z_goto (tgt := 591) S dX5_isSame_587 (by decide) ?_
                        exact J591 1 (b01_is (by omega)) ls hl
                  · have hl : lv_has ls 10 [(6, .ref (rd b 3 ((k549 : Int)).toNat)), (5, .int (zI (k549 : Int))), (4, .int (zI (watS t ((t.1 4).toNat)))), (3, .ref q217), (2, .ref q2), (0, .ref (b 0)), (1, .ref (a 0))] := hl
                    have hv591 : v591 = b01 (0 < t.2 3 (k549 : Int) 2 ∧ t.2 3 (k549 : Int) 2 ≤ t.2 3 (k549 : Int) 3) := hv591
                    have hb591 := b01_01 (0 < t.2 3 (k549 : Int) 2 ∧ t.2 3 (k549 : Int) 2 ≤ t.2 3 (k549 : Int) 3)
                    refine lv_istore (lv' := [(7, .int (zI v591)), (6, .ref (rd b 3 ((k549 : Int)).toNat)), (5, .int (zI (k549 : Int))), (4, .int (zI (watS t ((t.1 4).toNat)))), (3, .ref q217), (2, .ref q2), (0, .ref (b 0)), (1, .ref (a 0))]) S.1 S.2.1 dX5_isSame_591 hl (by decide) rfl (fun ls hl => ?_)
                    refine z_bipush S (by decide) dX5_isSame_593 ?_
                    refine y_newi S hK hP hD hS (fun q9 h9 => hA q9 (Nat.le_trans hS.1 h9)) 7 (by decide) (by show 7 + (t.1 3).toNat + k549 + 1 ≤ 22; omega) (by show 24 + 8 * (t.1 3).toNat + 7 * k549 + 7 ≤ 134; omega) dX5_isSame_595 (fun q595 H hq9 hk9 hP hD hS => ?_)
                    have hP : va_P D vwCl ([(q595, .inl (g.1, 7, .inl (zA (fun _ => 0)))), (q217, .inl (g.2.2, 5, .inr (.inr (.inr (.inr (rfs 5 r217))))))] ++ (rwW g r217 2 (hasF t ((t.1 4).toNat)) 5 ++ ([(q2, .inl (g.1, 9, .inl (zA (cF t (wcS t (20 * 20)) (peg6 t (t.1 4).toNat) (coin t ((t.1 3).toNat))))))] ++ (CW g a c ++ SW g b t)))) H := hP
                    have hD : va_D A ([(q595, .inl (g.1, 7, .inl (zA (fun _ => 0)))), (q217, .inl (g.2.2, 5, .inr (.inr (.inr (.inr (rfs 5 r217))))))] ++ (rwW g r217 2 (hasF t ((t.1 4).toNat)) 5 ++ ([(q2, .inl (g.1, 9, .inl (zA (cF t (wcS t (20 * 20)) (peg6 t (t.1 4).toNat) (coin t ((t.1 3).toNat))))))] ++ (CW g a c ++ SW g b t)))) := hD
                    refine lv_dup S.1 S.2.1 dX5_isSame_597 rfl ?_
                    refine z_iconst S dX5_isSame_598 ?_
                    refine lv_aload S.1 S.2.1 dX5_isSame_599 (lv_at hl 1 rfl) ?_
                    refine z_iconst S dX5_isSame_601 ?_
                    refine z_iald (F := t.2 3 (k549 : Int)) S hK hP (2 + (5 + (1 + (21 + (5 + (sn t 0 + (sn t 1 + (sn t 2 + ((k549 : Int)).toNat)))))))) ((ap_at1 (n := 2) rfl).trans ((ap_at1 (n := 5) (rwW_len _ _ _ _ _)).trans ((ap_at1 (n := 1) rfl).trans ((ap_at1 (a := CW g a c) rfl).trans (SW_r3 (b := b) (t := t) (i := (k549 : Int)) (by show _ ∧ _ < t.1 5; omega)))))) (by decide) (by omega) dX5_isSame_602 ?_
                    refine y_iast (F := fun _ => 0) S hK hP hD hS 0 rfl (by decide) (by omega) dX5_isSame_603 (fun H locs hP hD hS => ?_)
                    have hP : va_P D vwCl ([(q595, .inl (g.1, 7, .inl (zA (upZ (fun _ => 0) 0 (t.2 3 (k549 : Int) 0))))), (q217, .inl (g.2.2, 5, .inr (.inr (.inr (.inr (rfs 5 r217))))))] ++ (rwW g r217 2 (hasF t ((t.1 4).toNat)) 5 ++ ([(q2, .inl (g.1, 9, .inl (zA (cF t (wcS t (20 * 20)) (peg6 t (t.1 4).toNat) (coin t ((t.1 3).toNat))))))] ++ (CW g a c ++ SW g b t)))) H := hP
                    have hD : va_D A ([(q595, .inl (g.1, 7, .inl (zA (upZ (fun _ => 0) 0 (t.2 3 (k549 : Int) 0))))), (q217, .inl (g.2.2, 5, .inr (.inr (.inr (.inr (rfs 5 r217))))))] ++ (rwW g r217 2 (hasF t ((t.1 4).toNat)) 5 ++ ([(q2, .inl (g.1, 9, .inl (zA (cF t (wcS t (20 * 20)) (peg6 t (t.1 4).toNat) (coin t ((t.1 3).toNat))))))] ++ (CW g a c ++ SW g b t)))) := hD
                    refine lv_dup S.1 S.2.1 dX5_isSame_604 rfl ?_
                    refine z_iconst S dX5_isSame_605 ?_
                    refine lv_aload S.1 S.2.1 dX5_isSame_606 (lv_at hl 1 rfl) ?_
                    refine z_iconst S dX5_isSame_608 ?_
                    refine z_iald (F := t.2 3 (k549 : Int)) S hK hP (2 + (5 + (1 + (21 + (5 + (sn t 0 + (sn t 1 + (sn t 2 + ((k549 : Int)).toNat)))))))) ((ap_at1 (n := 2) rfl).trans ((ap_at1 (n := 5) (rwW_len _ _ _ _ _)).trans ((ap_at1 (n := 1) rfl).trans ((ap_at1 (a := CW g a c) rfl).trans (SW_r3 (b := b) (t := t) (i := (k549 : Int)) (by show _ ∧ _ < t.1 5; omega)))))) (by decide) (by omega) dX5_isSame_609 ?_
                    refine y_iast (F := upZ (fun _ => 0) 0 (t.2 3 (k549 : Int) 0)) S hK hP hD hS 0 rfl (by decide) (by omega) dX5_isSame_610 (fun H locs hP hD hS => ?_)
                    have hP : va_P D vwCl ([(q595, .inl (g.1, 7, .inl (zA (upZ (upZ (fun _ => 0) 0 (t.2 3 (k549 : Int) 0)) 1 (t.2 3 (k549 : Int) 1))))), (q217, .inl (g.2.2, 5, .inr (.inr (.inr (.inr (rfs 5 r217))))))] ++ (rwW g r217 2 (hasF t ((t.1 4).toNat)) 5 ++ ([(q2, .inl (g.1, 9, .inl (zA (cF t (wcS t (20 * 20)) (peg6 t (t.1 4).toNat) (coin t ((t.1 3).toNat))))))] ++ (CW g a c ++ SW g b t)))) H := hP
                    have hD : va_D A ([(q595, .inl (g.1, 7, .inl (zA (upZ (upZ (fun _ => 0) 0 (t.2 3 (k549 : Int) 0)) 1 (t.2 3 (k549 : Int) 1))))), (q217, .inl (g.2.2, 5, .inr (.inr (.inr (.inr (rfs 5 r217))))))] ++ (rwW g r217 2 (hasF t ((t.1 4).toNat)) 5 ++ ([(q2, .inl (g.1, 9, .inl (zA (cF t (wcS t (20 * 20)) (peg6 t (t.1 4).toNat) (coin t ((t.1 3).toNat))))))] ++ (CW g a c ++ SW g b t)))) := hD
                    refine lv_dup S.1 S.2.1 dX5_isSame_611 rfl ?_
                    refine z_iconst S dX5_isSame_612 ?_
                    refine lv_aload S.1 S.2.1 dX5_isSame_613 (lv_at hl 1 rfl) ?_
                    refine z_iconst S dX5_isSame_615 ?_
                    refine z_iald (F := t.2 3 (k549 : Int)) S hK hP (2 + (5 + (1 + (21 + (5 + (sn t 0 + (sn t 1 + (sn t 2 + ((k549 : Int)).toNat)))))))) ((ap_at1 (n := 2) rfl).trans ((ap_at1 (n := 5) (rwW_len _ _ _ _ _)).trans ((ap_at1 (n := 1) rfl).trans ((ap_at1 (a := CW g a c) rfl).trans (SW_r3 (b := b) (t := t) (i := (k549 : Int)) (by show _ ∧ _ < t.1 5; omega)))))) (by decide) (by omega) dX5_isSame_616 ?_
                    refine y_iast (F := upZ (upZ (fun _ => 0) 0 (t.2 3 (k549 : Int) 0)) 1 (t.2 3 (k549 : Int) 1)) S hK hP hD hS 0 rfl (by decide) (by omega) dX5_isSame_617 (fun H locs hP hD hS => ?_)
                    have hP : va_P D vwCl ([(q595, .inl (g.1, 7, .inl (zA (upZ (upZ (upZ (fun _ => 0) 0 (t.2 3 (k549 : Int) 0)) 1 (t.2 3 (k549 : Int) 1)) 2 (t.2 3 (k549 : Int) 3))))), (q217, .inl (g.2.2, 5, .inr (.inr (.inr (.inr (rfs 5 r217))))))] ++ (rwW g r217 2 (hasF t ((t.1 4).toNat)) 5 ++ ([(q2, .inl (g.1, 9, .inl (zA (cF t (wcS t (20 * 20)) (peg6 t (t.1 4).toNat) (coin t ((t.1 3).toNat))))))] ++ (CW g a c ++ SW g b t)))) H := hP
                    have hD : va_D A ([(q595, .inl (g.1, 7, .inl (zA (upZ (upZ (upZ (fun _ => 0) 0 (t.2 3 (k549 : Int) 0)) 1 (t.2 3 (k549 : Int) 1)) 2 (t.2 3 (k549 : Int) 3))))), (q217, .inl (g.2.2, 5, .inr (.inr (.inr (.inr (rfs 5 r217))))))] ++ (rwW g r217 2 (hasF t ((t.1 4).toNat)) 5 ++ ([(q2, .inl (g.1, 9, .inl (zA (cF t (wcS t (20 * 20)) (peg6 t (t.1 4).toNat) (coin t ((t.1 3).toNat))))))] ++ (CW g a c ++ SW g b t)))) := hD
                    refine lv_dup S.1 S.2.1 dX5_isSame_618 rfl ?_
                    refine z_iconst S dX5_isSame_619 ?_
                    refine y_joinV (nL := 10) (fun v => v = v591) 630 (lv := [(7, .int (zI v591)), (6, .ref (rd b 3 ((k549 : Int)).toNat)), (5, .int (zI (k549 : Int))), (4, .int (zI (watS t ((t.1 4).toNat)))), (3, .ref q217), (2, .ref q2), (0, .ref (b 0)), (1, .ref (a 0))]) [.int (zI 3), .ref q595, .ref q595] (fun J630 => ?_) (fun v630 hv630 ls hl => ?_)
                    · refine lv_iload S.1 S.2.1 dX5_isSame_620 (lv_at hl 0 rfl) ?_
                      refine z_if_eq (tgt := 629) S dX5_isSame_622 (by decide) (by omega) (fun h_35 => ?_) (fun h_35 => ?_)
                      · refine z_iconst S dX5_isSame_629 ?_
                        exact J630 0 (by omega) ls hl
                      · refine z_iconst S dX5_isSame_625 ?_
                        refine z_goto (tgt := 630) S dX5_isSame_626 (by decide) ?_
                        exact J630 1 (by omega) ls hl
                    · have hl : lv_has ls 10 [(7, .int (zI v591)), (6, .ref (rd b 3 ((k549 : Int)).toNat)), (5, .int (zI (k549 : Int))), (4, .int (zI (watS t ((t.1 4).toNat)))), (3, .ref q217), (2, .ref q2), (0, .ref (b 0)), (1, .ref (a 0))] := hl
                      have hv630 : v630 = v591 := hv630
                      refine y_iast (F := upZ (upZ (upZ (fun _ => 0) 0 (t.2 3 (k549 : Int) 0)) 1 (t.2 3 (k549 : Int) 1)) 2 (t.2 3 (k549 : Int) 3)) S hK hP hD hS 0 rfl (by decide) (by omega) dX5_isSame_630 (fun H locs hP hD hS => ?_)
                      have hP : va_P D vwCl ([(q595, .inl (g.1, 7, .inl (zA (upZ (upZ (upZ (upZ (fun _ => 0) 0 (t.2 3 (k549 : Int) 0)) 1 (t.2 3 (k549 : Int) 1)) 2 (t.2 3 (k549 : Int) 3)) 3 v630)))), (q217, .inl (g.2.2, 5, .inr (.inr (.inr (.inr (rfs 5 r217))))))] ++ (rwW g r217 2 (hasF t ((t.1 4).toNat)) 5 ++ ([(q2, .inl (g.1, 9, .inl (zA (cF t (wcS t (20 * 20)) (peg6 t (t.1 4).toNat) (coin t ((t.1 3).toNat))))))] ++ (CW g a c ++ SW g b t)))) H := hP
                      have hD : va_D A ([(q595, .inl (g.1, 7, .inl (zA (upZ (upZ (upZ (upZ (fun _ => 0) 0 (t.2 3 (k549 : Int) 0)) 1 (t.2 3 (k549 : Int) 1)) 2 (t.2 3 (k549 : Int) 3)) 3 v630)))), (q217, .inl (g.2.2, 5, .inr (.inr (.inr (.inr (rfs 5 r217))))))] ++ (rwW g r217 2 (hasF t ((t.1 4).toNat)) 5 ++ ([(q2, .inl (g.1, 9, .inl (zA (cF t (wcS t (20 * 20)) (peg6 t (t.1 4).toNat) (coin t ((t.1 3).toNat))))))] ++ (CW g a c ++ SW g b t)))) := hD
                      refine lv_dup S.1 S.2.1 dX5_isSame_631 rfl ?_
                      refine z_iconst S dX5_isSame_632 ?_
                      refine y_joinV (nL := 10) (fun v => v = b01 (sOv t (k549 : Int))) 647 (lv := [(7, .int (zI v591)), (6, .ref (rd b 3 ((k549 : Int)).toNat)), (5, .int (zI (k549 : Int))), (4, .int (zI (watS t ((t.1 4).toNat)))), (3, .ref q217), (2, .ref q2), (0, .ref (b 0)), (1, .ref (a 0))]) [.int (zI 4), .ref q595, .ref q595] (fun J647 => ?_) (fun v647 hv647 ls hl => ?_)
                      · refine lv_aload_n S.1 S.2.1 dX5_isSame_633 rfl (lv_at hl 6 rfl) ?_
                        refine lv_iload S.1 S.2.1 dX5_isSame_634 (lv_at hl 2 rfl) ?_
                        refine z_rV (As := [.int (zI (k549 : Int))]) (rest := [.int (zI 4), .ref q595, .ref q595]) S (m_X5_isOver l D g b t hT (k549 : Int) (by omega)) ml_X5_68 im_X5_isOver se_X5_isOver ini_X5 cd_X5_isOver ds_X5_isOver ⟨Nat.le_of_ble_eq_true rfl, Nat.le_of_ble_eq_true rfl⟩ hK (va_P_r (va_P_r (va_P_r (va_P_r hP)))) (va_recv hK.1 (va_P_r (va_P_r (va_P_r (va_P_r hP)))) (ci := 5) (q0 := 0) rfl rfl) rfl hl.1 rfl (Nat.le_of_ble_eq_true rfl) ⟨by show 7 + (t.1 3).toNat + k549 + 1 ≤ 22; omega, by show 24 + 8 * (t.1 3).toNat + 7 * k549 + 7 ≤ 134; omega⟩ dX5_isSame_636 ?_
                        refine z_ifb_eq (tgt := 646) S dX5_isSame_639 (by decide) (fun h_36 => ?_) (fun h_36 => ?_)
                        · refine z_iconst S dX5_isSame_646 ?_
                          exact J647 0 (b01_is (by first | exact Or.inl ⟨by assumption, rfl⟩ | exact Or.inr ⟨by assumption, rfl⟩)) ls hl
                        · refine z_iconst S dX5_isSame_642 ?_
                          refine z_goto (tgt := 647) S dX5_isSame_643 (by decide) ?_
                          exact J647 1 (b01_is (by first | exact Or.inl ⟨by assumption, rfl⟩ | exact Or.inr ⟨by assumption, rfl⟩)) ls hl
                      · have hl : lv_has ls 10 [(7, .int (zI v591)), (6, .ref (rd b 3 ((k549 : Int)).toNat)), (5, .int (zI (k549 : Int))), (4, .int (zI (watS t ((t.1 4).toNat)))), (3, .ref q217), (2, .ref q2), (0, .ref (b 0)), (1, .ref (a 0))] := hl
                        have hv647 : v647 = b01 (sOv t (k549 : Int)) := hv647
                        refine y_iast (F := upZ (upZ (upZ (upZ (fun _ => 0) 0 (t.2 3 (k549 : Int) 0)) 1 (t.2 3 (k549 : Int) 1)) 2 (t.2 3 (k549 : Int) 3)) 3 v630) S hK hP hD hS 0 rfl (by decide) (by omega) dX5_isSame_647 (fun H locs hP hD hS => ?_)
                        have hP : va_P D vwCl ([(q595, .inl (g.1, 7, .inl (zA (upZ (upZ (upZ (upZ (upZ (fun _ => 0) 0 (t.2 3 (k549 : Int) 0)) 1 (t.2 3 (k549 : Int) 1)) 2 (t.2 3 (k549 : Int) 3)) 3 v630) 4 v647)))), (q217, .inl (g.2.2, 5, .inr (.inr (.inr (.inr (rfs 5 r217))))))] ++ (rwW g r217 2 (hasF t ((t.1 4).toNat)) 5 ++ ([(q2, .inl (g.1, 9, .inl (zA (cF t (wcS t (20 * 20)) (peg6 t (t.1 4).toNat) (coin t ((t.1 3).toNat))))))] ++ (CW g a c ++ SW g b t)))) H := hP
                        have hD : va_D A ([(q595, .inl (g.1, 7, .inl (zA (upZ (upZ (upZ (upZ (upZ (fun _ => 0) 0 (t.2 3 (k549 : Int) 0)) 1 (t.2 3 (k549 : Int) 1)) 2 (t.2 3 (k549 : Int) 3)) 3 v630) 4 v647)))), (q217, .inl (g.2.2, 5, .inr (.inr (.inr (.inr (rfs 5 r217))))))] ++ (rwW g r217 2 (hasF t ((t.1 4).toNat)) 5 ++ ([(q2, .inl (g.1, 9, .inl (zA (cF t (wcS t (20 * 20)) (peg6 t (t.1 4).toNat) (coin t ((t.1 3).toNat))))))] ++ (CW g a c ++ SW g b t)))) := hD
                        refine lv_dup S.1 S.2.1 dX5_isSame_648 rfl ?_
                        refine z_iconst S dX5_isSame_649 ?_
                        refine lv_aload S.1 S.2.1 dX5_isSame_650 (lv_at hl 1 rfl) ?_
                        refine z_iconst S dX5_isSame_652 ?_
                        refine z_rS (As := [.ref (rd b 3 ((k549 : Int)).toNat), .int (zI 1)]) (rest := [.int (zI 5), .ref q595, .ref q595]) S (m_X5_bets l D g (rd b 3 ((k549 : Int)).toNat) (t.2 3 (k549 : Int)) (hT.q (i := (k549 : Int)) (by omega)) 1 (by omega)) ml_X5_64 sm_X5_bets ini_X5 cd_X5_bets ds_X5_bets ⟨Nat.le_of_ble_eq_true rfl, Nat.le_of_ble_eq_true rfl⟩ hK (va_P_at hP (2 + (5 + (1 + (21 + (5 + (sn t 0 + (sn t 1 + (sn t 2 + ((k549 : Int)).toNat)))))))) ((ap_at1 (n := 2) rfl).trans ((ap_at1 (n := 5) (rwW_len _ _ _ _ _)).trans ((ap_at1 (n := 1) rfl).trans ((ap_at1 (a := CW g a c) rfl).trans (SW_r3 (b := b) (t := t) (i := (k549 : Int)) (by show _ ∧ _ < t.1 5; omega))))))) rfl hl.1 rfl (Nat.le_of_ble_eq_true rfl) ⟨by show 7 + (t.1 3).toNat + k549 + 1 ≤ 22; omega, by show 24 + 8 * (t.1 3).toNat + 7 * k549 + 7 ≤ 134; omega⟩ dX5_isSame_653 ?_
                        refine y_iast (F := upZ (upZ (upZ (upZ (upZ (fun _ => 0) 0 (t.2 3 (k549 : Int) 0)) 1 (t.2 3 (k549 : Int) 1)) 2 (t.2 3 (k549 : Int) 3)) 3 v630) 4 v647) S hK hP hD hS 0 rfl (by decide) (by omega) dX5_isSame_656 (fun H locs hP hD hS => ?_)
                        have hP : va_P D vwCl ([(q595, .inl (g.1, 7, .inl (zA (upZ (upZ (upZ (upZ (upZ (upZ (fun _ => 0) 0 (t.2 3 (k549 : Int) 0)) 1 (t.2 3 (k549 : Int) 1)) 2 (t.2 3 (k549 : Int) 3)) 3 v630) 4 v647) 5 (sBt (t.2 3 (k549 : Int)) 1))))), (q217, .inl (g.2.2, 5, .inr (.inr (.inr (.inr (rfs 5 r217))))))] ++ (rwW g r217 2 (hasF t ((t.1 4).toNat)) 5 ++ ([(q2, .inl (g.1, 9, .inl (zA (cF t (wcS t (20 * 20)) (peg6 t (t.1 4).toNat) (coin t ((t.1 3).toNat))))))] ++ (CW g a c ++ SW g b t)))) H := hP
                        have hD : va_D A ([(q595, .inl (g.1, 7, .inl (zA (upZ (upZ (upZ (upZ (upZ (upZ (fun _ => 0) 0 (t.2 3 (k549 : Int) 0)) 1 (t.2 3 (k549 : Int) 1)) 2 (t.2 3 (k549 : Int) 3)) 3 v630) 4 v647) 5 (sBt (t.2 3 (k549 : Int)) 1))))), (q217, .inl (g.2.2, 5, .inr (.inr (.inr (.inr (rfs 5 r217))))))] ++ (rwW g r217 2 (hasF t ((t.1 4).toNat)) 5 ++ ([(q2, .inl (g.1, 9, .inl (zA (cF t (wcS t (20 * 20)) (peg6 t (t.1 4).toNat) (coin t ((t.1 3).toNat))))))] ++ (CW g a c ++ SW g b t)))) := hD
                        refine lv_dup S.1 S.2.1 dX5_isSame_657 rfl ?_
                        refine z_bipush S (by decide) dX5_isSame_658 ?_
                        refine lv_aload S.1 S.2.1 dX5_isSame_660 (lv_at hl 1 rfl) ?_
                        refine z_iconst S dX5_isSame_662 ?_
                        refine z_rS (As := [.ref (rd b 3 ((k549 : Int)).toNat), .int (zI 0)]) (rest := [.int (zI 6), .ref q595, .ref q595]) S (m_X5_bets l D g (rd b 3 ((k549 : Int)).toNat) (t.2 3 (k549 : Int)) (hT.q (i := (k549 : Int)) (by omega)) 0 (by omega)) ml_X5_64 sm_X5_bets ini_X5 cd_X5_bets ds_X5_bets ⟨Nat.le_of_ble_eq_true rfl, Nat.le_of_ble_eq_true rfl⟩ hK (va_P_at hP (2 + (5 + (1 + (21 + (5 + (sn t 0 + (sn t 1 + (sn t 2 + ((k549 : Int)).toNat)))))))) ((ap_at1 (n := 2) rfl).trans ((ap_at1 (n := 5) (rwW_len _ _ _ _ _)).trans ((ap_at1 (n := 1) rfl).trans ((ap_at1 (a := CW g a c) rfl).trans (SW_r3 (b := b) (t := t) (i := (k549 : Int)) (by show _ ∧ _ < t.1 5; omega))))))) rfl hl.1 rfl (Nat.le_of_ble_eq_true rfl) ⟨by show 7 + (t.1 3).toNat + k549 + 1 ≤ 22; omega, by show 24 + 8 * (t.1 3).toNat + 7 * k549 + 7 ≤ 134; omega⟩ dX5_isSame_663 ?_
                        refine y_iast (F := upZ (upZ (upZ (upZ (upZ (upZ (fun _ => 0) 0 (t.2 3 (k549 : Int) 0)) 1 (t.2 3 (k549 : Int) 1)) 2 (t.2 3 (k549 : Int) 3)) 3 v630) 4 v647) 5 (sBt (t.2 3 (k549 : Int)) 1)) S hK hP hD hS 0 rfl (by decide) (by omega) dX5_isSame_666 (fun H locs hP hD hS => ?_)
                        have hP : va_P D vwCl ([(q595, .inl (g.1, 7, .inl (zA (upZ (upZ (upZ (upZ (upZ (upZ (upZ (fun _ => 0) 0 (t.2 3 (k549 : Int) 0)) 1 (t.2 3 (k549 : Int) 1)) 2 (t.2 3 (k549 : Int) 3)) 3 v630) 4 v647) 5 (sBt (t.2 3 (k549 : Int)) 1)) 6 (sBt (t.2 3 (k549 : Int)) 0))))), (q217, .inl (g.2.2, 5, .inr (.inr (.inr (.inr (rfs 5 r217))))))] ++ (rwW g r217 2 (hasF t ((t.1 4).toNat)) 5 ++ ([(q2, .inl (g.1, 9, .inl (zA (cF t (wcS t (20 * 20)) (peg6 t (t.1 4).toNat) (coin t ((t.1 3).toNat))))))] ++ (CW g a c ++ SW g b t)))) H := hP
                        have hD : va_D A ([(q595, .inl (g.1, 7, .inl (zA (upZ (upZ (upZ (upZ (upZ (upZ (upZ (fun _ => 0) 0 (t.2 3 (k549 : Int) 0)) 1 (t.2 3 (k549 : Int) 1)) 2 (t.2 3 (k549 : Int) 3)) 3 v630) 4 v647) 5 (sBt (t.2 3 (k549 : Int)) 1)) 6 (sBt (t.2 3 (k549 : Int)) 0))))), (q217, .inl (g.2.2, 5, .inr (.inr (.inr (.inr (rfs 5 r217))))))] ++ (rwW g r217 2 (hasF t ((t.1 4).toNat)) 5 ++ ([(q2, .inl (g.1, 9, .inl (zA (cF t (wcS t (20 * 20)) (peg6 t (t.1 4).toNat) (coin t ((t.1 3).toNat))))))] ++ (CW g a c ++ SW g b t)))) := hD
                        have hw : ([(q595, .inl (g.1, 7, .inl (zA (upZ (upZ (upZ (upZ (upZ (upZ (upZ (fun _ => 0) 0 (t.2 3 (k549 : Int) 0)) 1 (t.2 3 (k549 : Int) 1)) 2 (t.2 3 (k549 : Int) 3)) 3 v630) 4 v647) 5 (sBt (t.2 3 (k549 : Int)) 1)) 6 (sBt (t.2 3 (k549 : Int)) 0))))), (q217, .inl (g.2.2, 5, .inr (.inr (.inr (.inr (rfs 5 r217))))))] ++ (rwW g r217 2 (hasF t ((t.1 4).toNat)) 5 ++ ([(q2, .inl (g.1, 9, .inl (zA (cF t (wcS t (20 * 20)) (peg6 t (t.1 4).toNat) (coin t ((t.1 3).toNat))))))] ++ (CW g a c ++ SW g b t)))) = ([(q595, .inl (g.1, 7, .inl (zA (dueQ t (k549 : Int))))), (q217, .inl (g.2.2, 5, .inr (.inr (.inr (.inr (rfs 5 r217))))))] ++ (rwW g r217 2 (hasF t ((t.1 4).toNat)) 5 ++ ([(q2, .inl (g.1, 9, .inl (zA (cF t (wcS t (20 * 20)) (peg6 t (t.1 4).toNat) (coin t ((t.1 3).toNat))))))] ++ (CW g a c ++ SW g b t)))) := by rw [hv630, hv591, hv647]; rfl
                        rw [hw] at hP hD; clear hw
                        refine lv_astore (lv' := [(8, .ref q595), (7, .int (zI v591)), (6, .ref (rd b 3 ((k549 : Int)).toNat)), (5, .int (zI (k549 : Int))), (4, .int (zI (watS t ((t.1 4).toNat)))), (3, .ref q217), (2, .ref q2), (0, .ref (b 0)), (1, .ref (a 0))]) S.1 S.2.1 dX5_isSame_667 hl (by decide) rfl (fun ls hl => ?_)
                        refine z_iconst S dX5_isSame_669 ?_
                        refine lv_istore (lv' := [(9, .int (zI 0)), (8, .ref q595), (7, .int (zI v591)), (6, .ref (rd b 3 ((k549 : Int)).toNat)), (5, .int (zI (k549 : Int))), (4, .int (zI (watS t ((t.1 4).toNat)))), (3, .ref q217), (2, .ref q2), (0, .ref (b 0)), (1, .ref (a 0))]) S.1 S.2.1 dX5_isSame_670 hl (by decide) rfl (fun ls hl => ?_)
                        refine y_for (σ := Unit) (D := D) (A := A) (nL := 10) (H0 := s.heap) 7 (fun (_u : Unit) => s) (fun (k672 : Nat) (_u : Unit) => [(9, .int (zI (k672 : Int))), (8, .ref q595), (7, .int (zI v591)), (6, .ref (rd b 3 ((k549 : Int)).toNat)), (5, .int (zI (k549 : Int))), (4, .int (zI (watS t ((t.1 4).toNat)))), (3, .ref q217), (2, .ref q2), (0, .ref (b 0)), (1, .ref (a 0))]) (fun (k672 : Nat) (_u : Unit) => ([(q595, .inl (g.1, 7, .inl (zA (dueQ t (k549 : Int))))), (q217, .inl (g.2.2, 5, .inr (.inr (.inr (.inr (rfs 5 r217))))))] ++ (rwW g r217 2 (hasF t ((t.1 4).toNat)) 5 ++ ([(q2, .inl (g.1, 9, .inl (zA (cF t (wcS t (20 * 20)) (peg6 t (t.1 4).toNat) (coin t ((t.1 3).toNat))))))] ++ (CW g a c ++ SW g b t))))) (fun _ => 7 + (t.1 3).toNat + k549 + 1) (fun _ => 24 + 8 * (t.1 3).toNat + 7 * k549 + 7) (fun (k672 : Nat) (_u : Unit) => True) (fun k672 hk672 _u hJ672 H locs hP hD hS ls hl ih672 => ?_) (fun _u hJ672 H locs hP hD hS ls hl => ?_) 0 (by omega) () trivial _ _ hP hD hS ls (lv_sub hl [0, 1, 2, 3, 4, 5, 6, 7, 8, 9] rfl)
                        · have hl : lv_has ls 10 [(9, .int (zI (k672 : Int))), (8, .ref q595), (7, .int (zI v591)), (6, .ref (rd b 3 ((k549 : Int)).toNat)), (5, .int (zI (k549 : Int))), (4, .int (zI (watS t ((t.1 4).toNat)))), (3, .ref q217), (2, .ref q2), (0, .ref (b 0)), (1, .ref (a 0))] := hl
                          have hP : va_P D vwCl ([(q595, .inl (g.1, 7, .inl (zA (dueQ t (k549 : Int))))), (q217, .inl (g.2.2, 5, .inr (.inr (.inr (.inr (rfs 5 r217))))))] ++ (rwW g r217 2 (hasF t ((t.1 4).toNat)) 5 ++ ([(q2, .inl (g.1, 9, .inl (zA (cF t (wcS t (20 * 20)) (peg6 t (t.1 4).toNat) (coin t ((t.1 3).toNat))))))] ++ (CW g a c ++ SW g b t)))) H := hP
                          have hD : va_D A ([(q595, .inl (g.1, 7, .inl (zA (dueQ t (k549 : Int))))), (q217, .inl (g.2.2, 5, .inr (.inr (.inr (.inr (rfs 5 r217))))))] ++ (rwW g r217 2 (hasF t ((t.1 4).toNat)) 5 ++ ([(q2, .inl (g.1, 9, .inl (zA (cF t (wcS t (20 * 20)) (peg6 t (t.1 4).toNat) (coin t ((t.1 3).toNat))))))] ++ (CW g a c ++ SW g b t)))) := hD
                          refine lv_iload S.1 S.2.1 dX5_isSame_672 (lv_at hl 0 rfl) ?_
                          refine z_bipush S (by decide) dX5_isSame_674 ?_
                          refine z_icmp_ge (tgt := 703) S dX5_isSame_676 (by decide) (by omega) (fun h_37 => ?_) (fun h_37 => ?_)
                          · exact absurd h_37 (by omega)
                          · have hab := S_about hR hI hT (q := (k549 : Int)) (w := (k672 : Int)) (by omega) (by omega)
                            refine lv_aload_n S.1 S.2.1 dX5_isSame_679 rfl (lv_at hl 9 rfl) ?_
                            refine lv_iload S.1 S.2.1 dX5_isSame_680 (lv_at hl 4 rfl) ?_
                            refine lv_iload S.1 S.2.1 dX5_isSame_682 (lv_at hl 0 rfl) ?_
                            refine z_rV (As := [.int (zI (k549 : Int)), .int (zI (k672 : Int))]) (rest := []) S (r_X4_about l D g a c hI (k549 : Int) (k672 : Int) (by omega) (by omega)) ml_X5_97 im_X4_about se_X4_about ini_X4 cd_X4_about ds_X4_about ⟨Nat.le_of_ble_eq_true rfl, Nat.le_of_ble_eq_true rfl⟩ hK (va_P_l (va_P_r (va_P_r (va_P_r hP)))) (va_recv hK.1 (va_P_l (va_P_r (va_P_r (va_P_r hP)))) (ci := 4) (q0 := 0) rfl rfl) rfl hl.1 rfl (Nat.le_of_ble_eq_true rfl) ⟨by show 7 + (t.1 3).toNat + k549 + 1 ≤ 22; omega, by show 24 + 8 * (t.1 3).toNat + 7 * k549 + 7 ≤ 134; omega⟩ dX5_isSame_684 ?_
                            refine lv_aload S.1 S.2.1 dX5_isSame_687 (lv_at hl 1 rfl) ?_
                            refine lv_iload S.1 S.2.1 dX5_isSame_689 (lv_at hl 0 rfl) ?_
                            refine z_iald (F := dueQ t (k549 : Int)) S hK hP 0 rfl (by decide) (by omega) dX5_isSame_691 ?_
                            refine z_icmp_eq (tgt := 697) S dX5_isSame_692 (by decide) (by omega) (fun h_38 => ?_) (fun h_38 => ?_)
                            · refine z_iinc (lv' := [(9, .int (zI ((k672 : Int) + 1))), (8, .ref q595), (7, .int (zI v591)), (6, .ref (rd b 3 ((k549 : Int)).toNat)), (5, .int (zI (k549 : Int))), (4, .int (zI (watS t ((t.1 4).toNat)))), (3, .ref q217), (2, .ref q2), (0, .ref (b 0)), (1, .ref (a 0))]) S dX5_isSame_697 hl (k := 0) rfl (by decide) rfl (fun ls hl => ?_)
                              refine z_goto (tgt := 672) S dX5_isSame_700 (by decide) ?_
                              exact ih672 () trivial _ _ hP hD hS _ (lv_sub hl [0, 1, 2, 3, 4, 5, 6, 7, 8, 9] rfl)
                            · exact absurd h_38 (by omega)
                        · have hl : lv_has ls 10 [(9, .int (zI ((7 : Nat) : Int))), (8, .ref q595), (7, .int (zI v591)), (6, .ref (rd b 3 ((k549 : Int)).toNat)), (5, .int (zI (k549 : Int))), (4, .int (zI (watS t ((t.1 4).toNat)))), (3, .ref q217), (2, .ref q2), (0, .ref (b 0)), (1, .ref (a 0))] := hl
                          have hP : va_P D vwCl ([(q595, .inl (g.1, 7, .inl (zA (dueQ t (k549 : Int))))), (q217, .inl (g.2.2, 5, .inr (.inr (.inr (.inr (rfs 5 r217))))))] ++ (rwW g r217 2 (hasF t ((t.1 4).toNat)) 5 ++ ([(q2, .inl (g.1, 9, .inl (zA (cF t (wcS t (20 * 20)) (peg6 t (t.1 4).toNat) (coin t ((t.1 3).toNat))))))] ++ (CW g a c ++ SW g b t)))) H := hP
                          have hD : va_D A ([(q595, .inl (g.1, 7, .inl (zA (dueQ t (k549 : Int))))), (q217, .inl (g.2.2, 5, .inr (.inr (.inr (.inr (rfs 5 r217))))))] ++ (rwW g r217 2 (hasF t ((t.1 4).toNat)) 5 ++ ([(q2, .inl (g.1, 9, .inl (zA (cF t (wcS t (20 * 20)) (peg6 t (t.1 4).toNat) (coin t ((t.1 3).toNat))))))] ++ (CW g a c ++ SW g b t)))) := hD
                          refine lv_iload S.1 S.2.1 dX5_isSame_672 (lv_at hl 0 rfl) ?_
                          refine z_bipush S (by decide) dX5_isSame_674 ?_
                          refine z_icmp_ge (tgt := 703) S dX5_isSame_676 (by decide) (by omega) (fun h_39 => ?_) (fun h_39 => ?_)
                          · refine z_iinc (lv' := [(5, .int (zI ((k549 : Int) + 1))), (9, .int (zI ((7 : Nat) : Int))), (8, .ref q595), (7, .int (zI v591)), (6, .ref (rd b 3 ((k549 : Int)).toNat)), (4, .int (zI (watS t ((t.1 4).toNat)))), (3, .ref q217), (2, .ref q2), (0, .ref (b 0)), (1, .ref (a 0))]) S dX5_isSame_703 hl (k := 4) rfl (by decide) rfl (fun ls hl => ?_)
                            refine z_goto (tgt := 549) S dX5_isSame_706 (by decide) ?_
                            have hP : va_P D vwCl ([(q595, .inl (g.1, 7, .inl (zA (dueQ t (k549 : Int)))))] ++ ([(q217, .inl (g.2.2, 5, .inr (.inr (.inr (.inr (rfs 5 r217))))))] ++ (rwW g r217 2 (hasF t ((t.1 4).toNat)) 5 ++ ([(q2, .inl (g.1, 9, .inl (zA (cF t (wcS t (20 * 20)) (peg6 t (t.1 4).toNat) (coin t ((t.1 3).toNat))))))] ++ (CW g a c ++ SW g b t))))) H := hP
                            have hD : va_D A ([(q595, .inl (g.1, 7, .inl (zA (dueQ t (k549 : Int)))))] ++ ([(q217, .inl (g.2.2, 5, .inr (.inr (.inr (.inr (rfs 5 r217))))))] ++ (rwW g r217 2 (hasF t ((t.1 4).toNat)) 5 ++ ([(q2, .inl (g.1, 9, .inl (zA (cF t (wcS t (20 * 20)) (peg6 t (t.1 4).toNat) (coin t ((t.1 3).toNat))))))] ++ (CW g a c ++ SW g b t))))) := hD
                            have hP := va_P_r hP
                            have hD := va_D_r hD
                            have hP : va_P D vwCl ([(q217, .inl (g.2.2, 5, .inr (.inr (.inr (.inr (rfs 5 r217))))))] ++ (rwW g r217 2 (hasF t ((t.1 4).toNat)) 5 ++ ([(q2, .inl (g.1, 9, .inl (zA (cF t (wcS t (20 * 20)) (peg6 t (t.1 4).toNat) (coin t ((t.1 3).toNat))))))] ++ (CW g a c ++ SW g b t)))) H := hP
                            have hD : va_D A ([(q217, .inl (g.2.2, 5, .inr (.inr (.inr (.inr (rfs 5 r217))))))] ++ (rwW g r217 2 (hasF t ((t.1 4).toNat)) 5 ++ ([(q2, .inl (g.1, 9, .inl (zA (cF t (wcS t (20 * 20)) (peg6 t (t.1 4).toNat) (coin t ((t.1 3).toNat))))))] ++ (CW g a c ++ SW g b t)))) := hD
                            refine W.widen (k := 7 + (t.1 3).toNat + (k549 + 1)) (n := 24 + 8 * (t.1 3).toNat + 7 * (k549 + 1)) (by omega) (by omega) ?_
                            exact ih549 () trivial _ _ hP hD hS _ (lv_sub hl [0, 5, 6, 7, 8, 9] rfl)
                          · exact absurd h_39 (by omega)
              · have hl : lv_has ls 10 [(5, .int (zI (((t.1 5).toNat : Nat) : Int))), (4, .int (zI (watS t ((t.1 4).toNat)))), (3, .ref q217), (2, .ref q2), (0, .ref (b 0)), (1, .ref (a 0))] := hl
                have hP : va_P D vwCl ([(q217, .inl (g.2.2, 5, .inr (.inr (.inr (.inr (rfs 5 r217))))))] ++ (rwW g r217 2 (hasF t ((t.1 4).toNat)) 5 ++ ([(q2, .inl (g.1, 9, .inl (zA (cF t (wcS t (20 * 20)) (peg6 t (t.1 4).toNat) (coin t ((t.1 3).toNat))))))] ++ (CW g a c ++ SW g b t)))) H := hP
                have hD : va_D A ([(q217, .inl (g.2.2, 5, .inr (.inr (.inr (.inr (rfs 5 r217))))))] ++ (rwW g r217 2 (hasF t ((t.1 4).toNat)) 5 ++ ([(q2, .inl (g.1, 9, .inl (zA (cF t (wcS t (20 * 20)) (peg6 t (t.1 4).toNat) (coin t ((t.1 3).toNat))))))] ++ (CW g a c ++ SW g b t)))) := hD
                refine lv_iload S.1 S.2.1 dX5_isSame_549 (lv_at hl 0 rfl) ?_
                refine lv_aload_n S.1 S.2.1 dX5_isSame_551 rfl (lv_at hl 4 rfl) ?_
                refine z_get (v := .ref (b 4)) S inA5 hK hP 28 rfl rfl 5 (by decide) fl_X5_25 rfl dX5_isSame_552 ?_
                refine y_alen S hK hP 32 rfl (v := t.1 5) (by show (((t.1 5).toNat : Nat) : Int) = _; omega) dX5_isSame_555 ?_
                refine z_icmp_ge (tgt := 709) S dX5_isSame_556 (by decide) (by omega) (fun h_40 => ?_) (fun h_40 => ?_)
                · refine z_iconst S dX5_isSame_709 ?_
                  refine lv_istore (lv' := [(5, .int (zI 0)), (4, .int (zI (watS t ((t.1 4).toNat)))), (3, .ref q217), (2, .ref q2), (0, .ref (b 0)), (1, .ref (a 0))]) S.1 S.2.1 dX5_isSame_710 hl (by decide) rfl (fun ls hl => ?_)
                  refine y_for (σ := Unit) (D := D) (A := A) (nL := 10) (H0 := s.heap) 9 (fun (_u : Unit) => s) (fun (k712 : Nat) (_u : Unit) => [(5, .int (zI (k712 : Int))), (4, .int (zI (watS t ((t.1 4).toNat)))), (3, .ref q217), (2, .ref q2), (0, .ref (b 0)), (1, .ref (a 0))]) (fun (k712 : Nat) (_u : Unit) => ([(q217, .inl (g.2.2, 5, .inr (.inr (.inr (.inr (rfs 5 r217))))))] ++ (rwW g r217 2 (hasF t ((t.1 4).toNat)) 5 ++ ([(q2, .inl (g.1, 9, .inl (zA (cF t (wcS t (20 * 20)) (peg6 t (t.1 4).toNat) (coin t ((t.1 3).toNat))))))] ++ (CW g a c ++ SW g b t))))) (fun _ => 7 + (t.1 3).toNat + ((t.1 5).toNat)) (fun _ => 24 + 8 * (t.1 3).toNat + 7 * ((t.1 5).toNat)) (fun (k712 : Nat) (_u : Unit) => True) (fun k712 hk712 _u hJ712 H locs hP hD hS ls hl ih712 => ?_) (fun _u hJ712 H locs hP hD hS ls hl => ?_) 0 (by omega) () trivial _ _ hP hD hS ls (lv_sub hl [0, 1, 2, 3, 4, 5] rfl)
                  · have hl : lv_has ls 10 [(5, .int (zI (k712 : Int))), (4, .int (zI (watS t ((t.1 4).toNat)))), (3, .ref q217), (2, .ref q2), (0, .ref (b 0)), (1, .ref (a 0))] := hl
                    have hP : va_P D vwCl ([(q217, .inl (g.2.2, 5, .inr (.inr (.inr (.inr (rfs 5 r217))))))] ++ (rwW g r217 2 (hasF t ((t.1 4).toNat)) 5 ++ ([(q2, .inl (g.1, 9, .inl (zA (cF t (wcS t (20 * 20)) (peg6 t (t.1 4).toNat) (coin t ((t.1 3).toNat))))))] ++ (CW g a c ++ SW g b t)))) H := hP
                    have hD : va_D A ([(q217, .inl (g.2.2, 5, .inr (.inr (.inr (.inr (rfs 5 r217))))))] ++ (rwW g r217 2 (hasF t ((t.1 4).toNat)) 5 ++ ([(q2, .inl (g.1, 9, .inl (zA (cF t (wcS t (20 * 20)) (peg6 t (t.1 4).toNat) (coin t ((t.1 3).toNat))))))] ++ (CW g a c ++ SW g b t)))) := hD
                    refine lv_iload S.1 S.2.1 dX5_isSame_712 (lv_at hl 0 rfl) ?_
                    refine z_bipush S (by decide) dX5_isSame_714 ?_
                    refine z_icmp_ge (tgt := 740) S dX5_isSame_716 (by decide) (by omega) (fun h_41 => ?_) (fun h_41 => ?_)
                    · exact absurd h_41 (by omega)
                    · have hcn := S_count hR hI hT (w := (k712 : Int)) (by omega)
                      refine lv_aload_n S.1 S.2.1 dX5_isSame_719 rfl (lv_at hl 5 rfl) ?_
                      refine lv_iload S.1 S.2.1 dX5_isSame_720 (lv_at hl 0 rfl) ?_
                      refine z_rV (As := [.int (zI (k712 : Int))]) (rest := []) S (r_X4_count l D g a c hI (k712 : Int) (by omega)) ml_X5_100 im_X4_count se_X4_count ini_X4 cd_X4_count ds_X4_count ⟨Nat.le_of_ble_eq_true rfl, Nat.le_of_ble_eq_true rfl⟩ hK (va_P_l (va_P_r (va_P_r (va_P_r hP)))) (va_recv hK.1 (va_P_l (va_P_r (va_P_r (va_P_r hP)))) (ci := 4) (q0 := 0) rfl rfl) rfl hl.1 rfl (Nat.le_of_ble_eq_true rfl) ⟨by show 7 + (t.1 3).toNat + ((t.1 5).toNat) ≤ 22; omega, by show 24 + 8 * (t.1 3).toNat + 7 * ((t.1 5).toNat) ≤ 134; omega⟩ dX5_isSame_722 ?_
                      refine lv_aload_n S.1 S.2.1 dX5_isSame_725 rfl (lv_at hl 3 rfl) ?_
                      refine lv_iload S.1 S.2.1 dX5_isSame_726 (lv_at hl 0 rfl) ?_
                      refine z_iald (F := cF t (wcS t (20 * 20)) (peg6 t (t.1 4).toNat) (coin t ((t.1 3).toNat))) S hK hP 6 rfl (by decide) (by omega) dX5_isSame_728 ?_
                      refine z_icmp_eq (tgt := 734) S dX5_isSame_729 (by decide) (by omega) (fun h_42 => ?_) (fun h_42 => ?_)
                      · refine z_iinc (lv' := [(5, .int (zI ((k712 : Int) + 1))), (4, .int (zI (watS t ((t.1 4).toNat)))), (3, .ref q217), (2, .ref q2), (0, .ref (b 0)), (1, .ref (a 0))]) S dX5_isSame_734 hl (k := 0) rfl (by decide) rfl (fun ls hl => ?_)
                        refine z_goto (tgt := 712) S dX5_isSame_737 (by decide) ?_
                        exact ih712 () trivial _ _ hP hD hS _ (lv_sub hl [0, 1, 2, 3, 4, 5] rfl)
                      · exact absurd h_42 (by omega)
                  · have hl : lv_has ls 10 [(5, .int (zI ((9 : Nat) : Int))), (4, .int (zI (watS t ((t.1 4).toNat)))), (3, .ref q217), (2, .ref q2), (0, .ref (b 0)), (1, .ref (a 0))] := hl
                    have hP : va_P D vwCl ([(q217, .inl (g.2.2, 5, .inr (.inr (.inr (.inr (rfs 5 r217))))))] ++ (rwW g r217 2 (hasF t ((t.1 4).toNat)) 5 ++ ([(q2, .inl (g.1, 9, .inl (zA (cF t (wcS t (20 * 20)) (peg6 t (t.1 4).toNat) (coin t ((t.1 3).toNat))))))] ++ (CW g a c ++ SW g b t)))) H := hP
                    have hD : va_D A ([(q217, .inl (g.2.2, 5, .inr (.inr (.inr (.inr (rfs 5 r217))))))] ++ (rwW g r217 2 (hasF t ((t.1 4).toNat)) 5 ++ ([(q2, .inl (g.1, 9, .inl (zA (cF t (wcS t (20 * 20)) (peg6 t (t.1 4).toNat) (coin t ((t.1 3).toNat))))))] ++ (CW g a c ++ SW g b t)))) := hD
                    refine lv_iload S.1 S.2.1 dX5_isSame_712 (lv_at hl 0 rfl) ?_
                    refine z_bipush S (by decide) dX5_isSame_714 ?_
                    refine z_icmp_ge (tgt := 740) S dX5_isSame_716 (by decide) (by omega) (fun h_43 => ?_) (fun h_43 => ?_)
                    · have hmn := S_mean hR hI hT
                      refine lv_aload_n S.1 S.2.1 dX5_isSame_740 rfl (lv_at hl 5 rfl) ?_
                      refine z_rVd (As := []) (rest := []) S (r_X4_mean l D g a c hI) ml_X5_103 im_X4_mean se_X4_mean ini_X4 cd_X4_mean ds_X4_mean ⟨Nat.le_of_ble_eq_true rfl, Nat.le_of_ble_eq_true rfl⟩ hK (va_P_l (va_P_r (va_P_r (va_P_r hP)))) (va_recv hK.1 (va_P_l (va_P_r (va_P_r (va_P_r hP)))) (ci := 4) (q0 := 0) rfl rfl) rfl hl.1 rfl (Nat.le_of_ble_eq_true rfl) ⟨by show 7 + (t.1 3).toNat + ((t.1 5).toNat) ≤ 22; omega, by show 24 + 8 * (t.1 3).toNat + 7 * ((t.1 5).toNat) ≤ 134; omega⟩ dX5_isSame_741 ?_
                      refine lv_aload_n S.1 S.2.1 dX5_isSame_744 rfl (lv_at hl 4 rfl) ?_
                      refine z_get (v := .ref (b 3)) S inA5 hK hP 28 rfl rfl 4 (by decide) fl_X5_22 rfl dX5_isSame_745 ?_
                      refine y_alen S hK hP 31 rfl (v := t.1 4) (by show (((t.1 4).toNat : Nat) : Int) = _; omega) dX5_isSame_748 ?_
                      refine z_if_ne (tgt := 756) S dX5_isSame_749 (by decide) (by omega) (fun h_44 => ?_) (fun h_44 => ?_)
                      · refine lv_iload S.1 S.2.1 dX5_isSame_756 (lv_at hl 1 rfl) ?_
                        refine lv_i2d S.1 S.2.1 dX5_isSame_758 ?_
                        refine lv_aload_n S.1 S.2.1 dX5_isSame_759 rfl (lv_at hl 4 rfl) ?_
                        refine z_get (v := .ref (b 3)) S inA5 hK hP 28 rfl rfl 4 (by decide) fl_X5_22 rfl dX5_isSame_760 ?_
                        refine y_alen S hK hP 31 rfl (v := t.1 4) (by show (((t.1 4).toNat : Nat) : Int) = _; omega) dX5_isSame_763 ?_
                        refine lv_i2d S.1 S.2.1 dX5_isSame_764 ?_
                        refine lv_ddiv S.1 S.2.1 dX5_isSame_765 (mn_n64 (by omega)) ?_
                        refine lv_dcmp S.1 S.2.1 dX5_isSame_766 ?_
                        rw [show Op.cmpValue (FP.dcmp (mnV (meanW c) (c.1 4)) (FP.ddiv (FP.i2d (zI (watS t ((t.1 4).toNat)))) (FP.i2d (zI (t.1 4))))) .l = zI 0 from by first | (rw [show FP.ddiv (FP.i2d (zI (watS t (t.1 4).toNat))) (FP.i2d (zI (t.1 4))) = mnV (meanW c) (c.1 4) from by rw [hmn]; unfold mnV; rw [if_pos (by omega), show c.1 4 = t.1 4 by omega]]; exact mnV_self (by omega) _) | (rw [show FP.dconst0 = mnV (meanW c) (c.1 4) from by unfold mnV; rw [if_neg (by omega)]]; exact mnV_self (by omega) _)]
                        refine z_if_ne (tgt := 774) S dX5_isSame_767 (by decide) (by omega) (fun h_45 => ?_) (fun h_45 => ?_)
                        · exact absurd h_45 (by omega)
                        · refine z_iconst S dX5_isSame_770 ?_
                          refine z_goto (tgt := 775) S dX5_isSame_771 (by decide) ?_
                          refine W.widen (k := 22) (n := 134) (by first | decide | omega) (by first | decide | omega) ?_
                          exact W.zret S.1 S.2.1 hr (z_narr (Or.inr rfl)) (fun t ht _ => ⟨⟨_, (), rfl, rfl, trivial⟩, hS.F ht⟩) hS.2.2 dX5_isSame_775
                      · refine lv_dconst0 S.1 S.2.1 dX5_isSame_752 ?_
                        refine z_goto (tgt := 766) S dX5_isSame_753 (by decide) ?_
                        refine lv_dcmp S.1 S.2.1 dX5_isSame_766 ?_
                        rw [show Op.cmpValue (FP.dcmp (mnV (meanW c) (c.1 4)) FP.dconst0) .l = zI 0 from by first | (rw [show FP.ddiv (FP.i2d (zI (watS t (t.1 4).toNat))) (FP.i2d (zI (t.1 4))) = mnV (meanW c) (c.1 4) from by rw [hmn]; unfold mnV; rw [if_pos (by omega), show c.1 4 = t.1 4 by omega]]; exact mnV_self (by omega) _) | (rw [show FP.dconst0 = mnV (meanW c) (c.1 4) from by unfold mnV; rw [if_neg (by omega)]]; exact mnV_self (by omega) _)]
                        refine z_if_ne (tgt := 774) S dX5_isSame_767 (by decide) (by omega) (fun h_46 => ?_) (fun h_46 => ?_)
                        · exact absurd h_46 (by omega)
                        · refine z_iconst S dX5_isSame_770 ?_
                          refine z_goto (tgt := 775) S dX5_isSame_771 (by decide) ?_
                          refine W.widen (k := 22) (n := 134) (by first | decide | omega) (by first | decide | omega) ?_
                          exact W.zret S.1 S.2.1 hr (z_narr (Or.inr rfl)) (fun t ht _ => ⟨⟨_, (), rfl, rfl, trivial⟩, hS.F ht⟩) hS.2.2 dX5_isSame_775
                    · exact absurd h_43 (by omega)
                · exact absurd h_40 (by omega)
            · exact absurd h_30 (by omega)
        · exact absurd h_18 (by omega)
    · exact absurd h_12 (by omega)
