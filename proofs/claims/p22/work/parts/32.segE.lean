/-! THE LAW: lines, the best spot -/
section SEGE
variable {p : Program} {l : Launch} {e : Env} {s : State} {m : MethodId} {args : Array Value} {below : List Frame} {meth : Method} {co : Code} {H : Heap} {locs : List Loc} {cells slots : Nat} {Q : State → Prop}
variable {ls : Array Slot} {D : va_G} {A : Nat → Prop} {g : ClassId × ClassId × ClassId} {a b : Nat → Nat} {c : CS} {t : SS} {B : Int} {sc : Nat} {k : Int} {x : Int32}
set_option maxHeartbeats 4000000 in
set_option maxRecDepth 100000 in
theorem lw_E (S : CallFix p m co cL_law 31 s args AW RL) (hX : KX D g s) (hZ : ZQ A s s.heap) (hst : l.stackTraces = false) (hda : CD 21 a) (hA : ∀ q, s.heap.size ≤ q → A q) (hAc : ∀ q, CA 21 a q → A q) (hI : IC B c) (hB8 : B ≤ 800000000) (hT : IT t) (hR : RS c t) (h3 : 1 ≤ t.1 3) (hB : SB A b t) {q297 q303 : Nat} (hcl : cells + 10 ≤ 600074 ∧ slots + 100 ≤ 7301550) (hP : va_P D vwCl ([(q303, .inl (g.1, 20, .inl (zA (colD c (20 * 20))))), (q297, .inl (g.1, 20, .inl (zA (rowD c (20 * 20)))))] ++ (CW g a c ++ SW g b t)) H) (hD : va_D A ([(q303, .inl (g.1, 20, .inl (zA (colD c (20 * 20))))), (q297, .inl (g.1, 20, .inl (zA (rowD c (20 * 20)))))] ++ (CW g a c ++ SW g b t))) (hS : va_S A s.heap H locs) (hl : lv_has ls 31 [(0, .ref sc), (1, .ref (a 0)), (2, .ref (b 0)), (3, .int (zI k)), (4, .int x), (5, .long (digC c)), (7, .int (zI (c.1 3))), (10, .int (zI (c.1 4))), (11, .int (zI (paidL c (c.1 3).toNat))), (12, .ref q297), (13, .ref q303)]) (next : ∀ (c9 : CS) (d : Int) (H : Heap) (locs : List Loc) (ls : Array Slot), IC B c9 → RS c9 t → (0 ≤ d ∧ d < t.1 3) → va_P D vwCl (CW g a c9 ++ SW g b t) H → va_D A (CW g a c9 ++ SW g b t) → va_S A s.heap H locs → lv_has ls 31 [(0, .ref sc), (1, .ref (a 0)), (2, .ref (b 0)), (3, .int (zI k)), (4, .int x), (5, .long (digC c9)), (7, .int (zI (c9.1 3))), (10, .int (zI (c9.1 4))), (11, .int (zI (paidL c9 (c9.1 3).toNat))), (18, .int (zI (lineT c9 0))), (19, .int (zI (lineT c9 1))), (20, .int (zI (lineT c9 2))), (21, .int (zI d)), (22, .int (zI (bestT c9 d 2)))] → W p l e room_1 s m args below meth co H locs (cells) (slots) Q (F0 m 716 ls [])) : W p l e room_1 s m args below meth co H locs cells slots Q (F0 m 537 ls []) := by
  have hK := hX.1
  have hs := hT.s
  have hc := hI.s
  have hn := hR.n
  refine lv_aload_n S.1 S.2.1 dL_law_537 rfl (lv_at hl 1 rfl) ?_
  refine z_iconst S dL_law_538 ?_
  refine y_wC (X := [(q303, .inl (g.1, 20, .inl (zA (colD c (20 * 20))))), (q297, .inl (g.1, 20, .inl (zA (rowD c (20 * 20)))))]) (c1 := (sA c 9 (onL c 400))) (As := [.int (zI 0)]) (rest := []) S (r_X4_line l D g a c hI hda 0 (by omega)) ml_L_132 im_X4_line se_X4_line cd_X4_line ds_X4_line ⟨Nat.le_of_ble_eq_true rfl, Nat.le_of_ble_eq_true rfl⟩ hK hP hD hAc hS rfl hl.1 rfl (Nat.le_of_ble_eq_true rfl) ⟨by show cells ≤ 600074; omega, by show slots ≤ 7301550; omega⟩ dL_law_539 (fun H locs hP hD hS => ?_)
  have hP : va_P D vwCl ([(q303, .inl (g.1, 20, .inl (zA (colD c (20 * 20))))), (q297, .inl (g.1, 20, .inl (zA (rowD c (20 * 20)))))] ++ (CW g a (sA c 9 (onL c 400)) ++ SW g b t)) H := hP
  have hD : va_D A ([(q303, .inl (g.1, 20, .inl (zA (colD c (20 * 20))))), (q297, .inl (g.1, 20, .inl (zA (rowD c (20 * 20)))))] ++ (CW g a (sA c 9 (onL c 400)) ++ SW g b t)) := hD
  have hI1 := IC_line hI
  refine lv_istore (lv' := [(18, .int (zI (lineT c 0))), (0, .ref sc), (1, .ref (a 0)), (2, .ref (b 0)), (3, .int (zI k)), (4, .int x), (5, .long (digC c)), (7, .int (zI (c.1 3))), (10, .int (zI (c.1 4))), (11, .int (zI (paidL c (c.1 3).toNat))), (12, .ref q297), (13, .ref q303)]) S.1 S.2.1 dL_law_542 hl (by decide) rfl (fun ls hl => ?_)
  refine lv_aload_n S.1 S.2.1 dL_law_544 rfl (lv_at hl 2 rfl) ?_
  refine z_iconst S dL_law_545 ?_
  refine y_wC (X := [(q303, .inl (g.1, 20, .inl (zA (colD c (20 * 20))))), (q297, .inl (g.1, 20, .inl (zA (rowD c (20 * 20)))))]) (c1 := (sA (sA c 9 (onL c 400)) 9 (onL (sA c 9 (onL c 400)) 400))) (As := [.int (zI 1)]) (rest := []) S (r_X4_line l D g a (sA c 9 (onL c 400)) hI1 hda 1 (by omega)) ml_L_132 im_X4_line se_X4_line cd_X4_line ds_X4_line ⟨Nat.le_of_ble_eq_true rfl, Nat.le_of_ble_eq_true rfl⟩ hK hP hD hAc hS rfl hl.1 rfl (Nat.le_of_ble_eq_true rfl) ⟨by show cells ≤ 600074; omega, by show slots ≤ 7301550; omega⟩ dL_law_546 (fun H locs hP hD hS => ?_)
  have hP : va_P D vwCl ([(q303, .inl (g.1, 20, .inl (zA (colD c (20 * 20))))), (q297, .inl (g.1, 20, .inl (zA (rowD c (20 * 20)))))] ++ (CW g a (sA (sA c 9 (onL c 400)) 9 (onL (sA c 9 (onL c 400)) 400)) ++ SW g b t)) H := hP
  have hD : va_D A ([(q303, .inl (g.1, 20, .inl (zA (colD c (20 * 20))))), (q297, .inl (g.1, 20, .inl (zA (rowD c (20 * 20)))))] ++ (CW g a (sA (sA c 9 (onL c 400)) 9 (onL (sA c 9 (onL c 400)) 400)) ++ SW g b t)) := hD
  have hI2 := IC_line hI1
  refine z_top (lineT c 1) (by rw [lineT_9]) ?_
  refine lv_istore (lv' := [(19, .int (zI (lineT c 1))), (18, .int (zI (lineT c 0))), (0, .ref sc), (1, .ref (a 0)), (2, .ref (b 0)), (3, .int (zI k)), (4, .int x), (5, .long (digC c)), (7, .int (zI (c.1 3))), (10, .int (zI (c.1 4))), (11, .int (zI (paidL c (c.1 3).toNat))), (12, .ref q297), (13, .ref q303)]) S.1 S.2.1 dL_law_549 hl (by decide) rfl (fun ls hl => ?_)
  refine lv_aload_n S.1 S.2.1 dL_law_551 rfl (lv_at hl 3 rfl) ?_
  refine z_iconst S dL_law_552 ?_
  refine y_wC (X := [(q303, .inl (g.1, 20, .inl (zA (colD c (20 * 20))))), (q297, .inl (g.1, 20, .inl (zA (rowD c (20 * 20)))))]) (c1 := (sA (sA (sA c 9 (onL c 400)) 9 (onL (sA c 9 (onL c 400)) 400)) 9 (onL (sA (sA c 9 (onL c 400)) 9 (onL (sA c 9 (onL c 400)) 400)) 400))) (As := [.int (zI 2)]) (rest := []) S (r_X4_line l D g a (sA (sA c 9 (onL c 400)) 9 (onL (sA c 9 (onL c 400)) 400)) hI2 hda 2 (by omega)) ml_L_132 im_X4_line se_X4_line cd_X4_line ds_X4_line ⟨Nat.le_of_ble_eq_true rfl, Nat.le_of_ble_eq_true rfl⟩ hK hP hD hAc hS rfl hl.1 rfl (Nat.le_of_ble_eq_true rfl) ⟨by show cells ≤ 600074; omega, by show slots ≤ 7301550; omega⟩ dL_law_553 (fun H locs hP hD hS => ?_)
  have hP : va_P D vwCl ([(q303, .inl (g.1, 20, .inl (zA (colD c (20 * 20))))), (q297, .inl (g.1, 20, .inl (zA (rowD c (20 * 20)))))] ++ (CW g a (sA (sA (sA c 9 (onL c 400)) 9 (onL (sA c 9 (onL c 400)) 400)) 9 (onL (sA (sA c 9 (onL c 400)) 9 (onL (sA c 9 (onL c 400)) 400)) 400)) ++ SW g b t)) H := hP
  have hD : va_D A ([(q303, .inl (g.1, 20, .inl (zA (colD c (20 * 20))))), (q297, .inl (g.1, 20, .inl (zA (rowD c (20 * 20)))))] ++ (CW g a (sA (sA (sA c 9 (onL c 400)) 9 (onL (sA c 9 (onL c 400)) 400)) 9 (onL (sA (sA c 9 (onL c 400)) 9 (onL (sA c 9 (onL c 400)) 400)) 400)) ++ SW g b t)) := hD
  have hI3 := IC_line hI2
  obtain ⟨c9, hc9⟩ : ∃ c9, c9 = (sA (sA (sA c 9 (onL c 400)) 9 (onL (sA c 9 (onL c 400)) 400)) 9 (onL (sA (sA c 9 (onL c 400)) 9 (onL (sA c 9 (onL c 400)) 400)) 400)) := ⟨_, rfl⟩
  have hI9 : IC B c9 := by rw [hc9]; exact hI3
  have hR9 : RS c9 t := by rw [hc9]; exact R_line (R_line (R_line hR))
  have hc93 : c9.1 3 = c.1 3 := by rw [hc9]; rfl
  obtain ⟨hln1, hln2, hln3, hln4, hln5, hln6, hln7, hln8⟩ := L_line hR hI hT
  have hw : ([(q303, .inl (g.1, 20, .inl (zA (colD c (20 * 20))))), (q297, .inl (g.1, 20, .inl (zA (rowD c (20 * 20)))))] ++ (CW g a (sA (sA (sA c 9 (onL c 400)) 9 (onL (sA c 9 (onL c 400)) 400)) 9 (onL (sA (sA c 9 (onL c 400)) 9 (onL (sA c 9 (onL c 400)) 400)) 400)) ++ SW g b t)) = ([(q303, .inl (g.1, 20, .inl (zA (colD c (20 * 20))))), (q297, .inl (g.1, 20, .inl (zA (rowD c (20 * 20)))))] ++ (CW g a c9 ++ SW g b t)) := by rw [hc9]
  rw [hw] at hP hD
  refine z_top (lineT c 2) (by rw [lineT_9, lineT_9]) ?_
  refine lv_istore (lv' := [(20, .int (zI (lineT c 2))), (19, .int (zI (lineT c 1))), (18, .int (zI (lineT c 0))), (0, .ref sc), (1, .ref (a 0)), (2, .ref (b 0)), (3, .int (zI k)), (4, .int x), (5, .long (digC c)), (7, .int (zI (c.1 3))), (10, .int (zI (c.1 4))), (11, .int (zI (paidL c (c.1 3).toNat))), (12, .ref q297), (13, .ref q303)]) S.1 S.2.1 dL_law_556 hl (by decide) rfl (fun ls hl => ?_)
  refine z_iconst S dL_law_558 ?_
  refine lv_istore (lv' := [(21, .int (zI 0)), (20, .int (zI (lineT c 2))), (19, .int (zI (lineT c 1))), (18, .int (zI (lineT c 0))), (0, .ref sc), (1, .ref (a 0)), (2, .ref (b 0)), (3, .int (zI k)), (4, .int x), (5, .long (digC c)), (7, .int (zI (c.1 3))), (10, .int (zI (c.1 4))), (11, .int (zI (paidL c (c.1 3).toNat))), (12, .ref q297), (13, .ref q303)]) S.1 S.2.1 dL_law_559 hl (by decide) rfl (fun ls hl => ?_)
  refine y_for (σ := Unit) (D := D) (A := A) (nL := 31) (H0 := s.heap) 20 (fun (_u : Unit) => s) (fun (k561 : Nat) (_u : Unit) => [(21, .int (zI (k561 : Int))), (20, .int (zI (lineT c 2))), (19, .int (zI (lineT c 1))), (18, .int (zI (lineT c 0))), (0, .ref sc), (1, .ref (a 0)), (2, .ref (b 0)), (3, .int (zI k)), (4, .int x), (5, .long (digC c)), (7, .int (zI (c.1 3))), (10, .int (zI (c.1 4))), (11, .int (zI (paidL c (c.1 3).toNat))), (12, .ref q297), (13, .ref q303)]) (fun (k561 : Nat) (_u : Unit) => ([(q303, .inl (g.1, 20, .inl (zA (colD c (20 * 20))))), (q297, .inl (g.1, 20, .inl (zA (rowD c (20 * 20)))))] ++ (CW g a c9 ++ SW g b t))) (fun _ => cells) (fun _ => slots) (fun (k561 : Nat) (_u : Unit) => True) (fun k561 hk561 _u hJ561 H locs hP hD hS ls hl ih561 => ?_) (fun _u hJ561 H locs hP hD hS ls hl => ?_) 0 (by omega) () trivial _ _ hP hD hS ls (lv_sub hl [0, 1, 2, 3, 4, 5, 6, 7, 8, 9, 10, 11, 12, 13, 14] rfl)
  · have hl : lv_has ls 31 [(21, .int (zI (k561 : Int))), (20, .int (zI (lineT c 2))), (19, .int (zI (lineT c 1))), (18, .int (zI (lineT c 0))), (0, .ref sc), (1, .ref (a 0)), (2, .ref (b 0)), (3, .int (zI k)), (4, .int x), (5, .long (digC c)), (7, .int (zI (c.1 3))), (10, .int (zI (c.1 4))), (11, .int (zI (paidL c (c.1 3).toNat))), (12, .ref q297), (13, .ref q303)] := hl
    have hP : va_P D vwCl ([(q303, .inl (g.1, 20, .inl (zA (colD c (20 * 20))))), (q297, .inl (g.1, 20, .inl (zA (rowD c (20 * 20)))))] ++ (CW g a c9 ++ SW g b t)) H := hP
    have hD : va_D A ([(q303, .inl (g.1, 20, .inl (zA (colD c (20 * 20))))), (q297, .inl (g.1, 20, .inl (zA (rowD c (20 * 20)))))] ++ (CW g a c9 ++ SW g b t)) := hD
    refine lv_iload S.1 S.2.1 dL_law_561 (lv_at hl 0 rfl) ?_
    refine z_bipush S (by decide) dL_law_563 ?_
    refine z_icmp_ge (tgt := 596) S dL_law_565 (by decide) (by omega) (fun h_1 => ?_) (fun h_1 => ?_)
    · exact absurd h_1 (by omega)
    · have hrk := hln7 (k561 : Int) (by omega) (by omega)
      refine lv_aload S.1 S.2.1 dL_law_568 (lv_at hl 13 rfl) ?_
      refine lv_iload S.1 S.2.1 dL_law_570 (lv_at hl 0 rfl) ?_
      refine z_iald (F := rowD c (20 * 20)) S hK hP 1 rfl (by decide) (by omega) dL_law_572 ?_
      refine lv_iload S.1 S.2.1 dL_law_573 (lv_at hl 3 rfl) ?_
      refine z_icmp_gt (tgt := 588) S dL_law_575 (by decide) (by omega) (fun h_2 => ?_) (fun h_2 => ?_)
      · exact absurd h_2 (by omega)
      · refine lv_aload S.1 S.2.1 dL_law_578 (lv_at hl 14 rfl) ?_
        refine lv_iload S.1 S.2.1 dL_law_580 (lv_at hl 0 rfl) ?_
        refine z_iald (F := colD c (20 * 20)) S hK hP 0 rfl (by decide) (by omega) dL_law_582 ?_
        refine lv_iload S.1 S.2.1 dL_law_583 (lv_at hl 3 rfl) ?_
        refine z_icmp_le (tgt := 590) S dL_law_585 (by decide) (by omega) (fun h_3 => ?_) (fun h_3 => ?_)
        · refine z_iinc (lv' := [(21, .int (zI ((k561 : Int) + 1))), (20, .int (zI (lineT c 2))), (19, .int (zI (lineT c 1))), (18, .int (zI (lineT c 0))), (0, .ref sc), (1, .ref (a 0)), (2, .ref (b 0)), (3, .int (zI k)), (4, .int x), (5, .long (digC c)), (7, .int (zI (c.1 3))), (10, .int (zI (c.1 4))), (11, .int (zI (paidL c (c.1 3).toNat))), (12, .ref q297), (13, .ref q303)]) S dL_law_590 hl (k := 0) rfl (by decide) rfl (fun ls hl => ?_)
          refine z_goto (tgt := 561) S dL_law_593 (by decide) ?_
          exact ih561 () trivial _ _ hP hD hS _ (lv_sub hl [0, 1, 2, 3, 4, 5, 6, 7, 8, 9, 10, 11, 12, 13, 14] rfl)
        · exact absurd h_3 (by omega)
  · have hl : lv_has ls 31 [(21, .int (zI ((20 : Nat) : Int))), (20, .int (zI (lineT c 2))), (19, .int (zI (lineT c 1))), (18, .int (zI (lineT c 0))), (0, .ref sc), (1, .ref (a 0)), (2, .ref (b 0)), (3, .int (zI k)), (4, .int x), (5, .long (digC c)), (7, .int (zI (c.1 3))), (10, .int (zI (c.1 4))), (11, .int (zI (paidL c (c.1 3).toNat))), (12, .ref q297), (13, .ref q303)] := hl
    have hP : va_P D vwCl ([(q303, .inl (g.1, 20, .inl (zA (colD c (20 * 20))))), (q297, .inl (g.1, 20, .inl (zA (rowD c (20 * 20)))))] ++ (CW g a c9 ++ SW g b t)) H := hP
    have hD : va_D A ([(q303, .inl (g.1, 20, .inl (zA (colD c (20 * 20))))), (q297, .inl (g.1, 20, .inl (zA (rowD c (20 * 20)))))] ++ (CW g a c9 ++ SW g b t)) := hD
    refine lv_iload S.1 S.2.1 dL_law_561 (lv_at hl 0 rfl) ?_
    refine z_bipush S (by decide) dL_law_563 ?_
    refine z_icmp_ge (tgt := 596) S dL_law_565 (by decide) (by omega) (fun h_4 => ?_) (fun h_4 => ?_)
    · refine y_joinV (nL := 31) (fun v => ((lineT c 0) = 0 ∧ v = 1) ∨ ((lineT c 0) ≠ 0 ∧ v = 0)) 606 (lv := [(21, .int (zI ((20 : Nat) : Int))), (20, .int (zI (lineT c 2))), (19, .int (zI (lineT c 1))), (18, .int (zI (lineT c 0))), (0, .ref sc), (1, .ref (a 0)), (2, .ref (b 0)), (3, .int (zI k)), (4, .int x), (5, .long (digC c)), (7, .int (zI (c.1 3))), (10, .int (zI (c.1 4))), (11, .int (zI (paidL c (c.1 3).toNat))), (12, .ref q297), (13, .ref q303)]) [] (fun J606 => ?_) (fun v606 hv606 ls hl => ?_)
      · refine lv_iload S.1 S.2.1 dL_law_596 (lv_at hl 3 rfl) ?_
        refine z_if_ne (tgt := 605) S dL_law_598 (by decide) (by omega) (fun h_5 => ?_) (fun h_5 => ?_)
        · refine z_iconst S dL_law_605 ?_
          exact J606 0 (by omega) ls hl
        · refine z_iconst S dL_law_601 ?_
          refine z_goto (tgt := 606) S dL_law_602 (by decide) ?_
          exact J606 1 (by omega) ls hl
      · have hl : lv_has ls 31 [(21, .int (zI ((20 : Nat) : Int))), (20, .int (zI (lineT c 2))), (19, .int (zI (lineT c 1))), (18, .int (zI (lineT c 0))), (0, .ref sc), (1, .ref (a 0)), (2, .ref (b 0)), (3, .int (zI k)), (4, .int x), (5, .long (digC c)), (7, .int (zI (c.1 3))), (10, .int (zI (c.1 4))), (11, .int (zI (paidL c (c.1 3).toNat))), (12, .ref q297), (13, .ref q303)] := hl
        have hv606 : ((lineT c 0) = 0 ∧ v606 = 1) ∨ ((lineT c 0) ≠ 0 ∧ v606 = 0) := hv606
        refine y_joinV (nL := 31) (fun v => ((c.1 4) = 0 ∧ v = 1) ∨ ((c.1 4) ≠ 0 ∧ v = 0)) 616 (lv := [(21, .int (zI ((20 : Nat) : Int))), (20, .int (zI (lineT c 2))), (19, .int (zI (lineT c 1))), (18, .int (zI (lineT c 0))), (0, .ref sc), (1, .ref (a 0)), (2, .ref (b 0)), (3, .int (zI k)), (4, .int x), (5, .long (digC c)), (7, .int (zI (c.1 3))), (10, .int (zI (c.1 4))), (11, .int (zI (paidL c (c.1 3).toNat))), (12, .ref q297), (13, .ref q303)]) [.int (zI v606)] (fun J616 => ?_) (fun v616 hv616 ls hl => ?_)
        · refine lv_iload S.1 S.2.1 dL_law_606 (lv_at hl 11 rfl) ?_
          refine z_if_ne (tgt := 615) S dL_law_608 (by decide) (by omega) (fun h_6 => ?_) (fun h_6 => ?_)
          · refine z_iconst S dL_law_615 ?_
            exact J616 0 (by omega) ls hl
          · refine z_iconst S dL_law_611 ?_
            refine z_goto (tgt := 616) S dL_law_612 (by decide) ?_
            exact J616 1 (by omega) ls hl
        · have hl : lv_has ls 31 [(21, .int (zI ((20 : Nat) : Int))), (20, .int (zI (lineT c 2))), (19, .int (zI (lineT c 1))), (18, .int (zI (lineT c 0))), (0, .ref sc), (1, .ref (a 0)), (2, .ref (b 0)), (3, .int (zI k)), (4, .int x), (5, .long (digC c)), (7, .int (zI (c.1 3))), (10, .int (zI (c.1 4))), (11, .int (zI (paidL c (c.1 3).toNat))), (12, .ref q297), (13, .ref q303)] := hl
          have hv616 : ((c.1 4) = 0 ∧ v616 = 1) ∨ ((c.1 4) ≠ 0 ∧ v616 = 0) := hv616
          refine z_icmp_ne (tgt := 667) S dL_law_616 (by decide) (by omega) (fun h_7 => ?_) (fun h_7 => ?_)
          · exact absurd h_7 (by omega)
          · refine y_join0 (nL := 31) 634 (lv := [(21, .int (zI ((20 : Nat) : Int))), (20, .int (zI (lineT c 2))), (19, .int (zI (lineT c 1))), (18, .int (zI (lineT c 0))), (0, .ref sc), (1, .ref (a 0)), (2, .ref (b 0)), (3, .int (zI k)), (4, .int x), (5, .long (digC c)), (7, .int (zI (c.1 3))), (10, .int (zI (c.1 4))), (11, .int (zI (paidL c (c.1 3).toNat))), (12, .ref q297), (13, .ref q303)]) (fun J634 => ?_) (fun ls hl => ?_)
            · refine lv_iload S.1 S.2.1 dL_law_619 (lv_at hl 2 rfl) ?_
              refine z_if_ne (tgt := 634) S dL_law_621 (by decide) (by omega) (fun h_8 => ?_) (fun h_8 => ?_)
              · exact J634 ls hl
              · have hk0 := hln5 (by omega)
                refine lv_aload S.1 S.2.1 dL_law_624 (lv_at hl 13 rfl) ?_
                refine lv_iload S.1 S.2.1 dL_law_626 (lv_at hl 1 rfl) ?_
                refine z_iald (F := rowD c (20 * 20)) S hK hP 1 rfl (by decide) (by omega) dL_law_628 ?_
                refine lv_iload S.1 S.2.1 dL_law_629 (lv_at hl 3 rfl) ?_
                refine z_icmp_ne (tgt := 667) S dL_law_631 (by decide) (by omega) (fun h_9 => ?_) (fun h_9 => ?_)
                · exact absurd h_9 (by omega)
                · exact J634 ls hl
            · have hl : lv_has ls 31 [(21, .int (zI ((20 : Nat) : Int))), (20, .int (zI (lineT c 2))), (19, .int (zI (lineT c 1))), (18, .int (zI (lineT c 0))), (0, .ref sc), (1, .ref (a 0)), (2, .ref (b 0)), (3, .int (zI k)), (4, .int x), (5, .long (digC c)), (7, .int (zI (c.1 3))), (10, .int (zI (c.1 4))), (11, .int (zI (paidL c (c.1 3).toNat))), (12, .ref q297), (13, .ref q303)] := hl
              refine y_join0 (nL := 31) 650 (lv := [(21, .int (zI ((20 : Nat) : Int))), (20, .int (zI (lineT c 2))), (19, .int (zI (lineT c 1))), (18, .int (zI (lineT c 0))), (0, .ref sc), (1, .ref (a 0)), (2, .ref (b 0)), (3, .int (zI k)), (4, .int x), (5, .long (digC c)), (7, .int (zI (c.1 3))), (10, .int (zI (c.1 4))), (11, .int (zI (paidL c (c.1 3).toNat))), (12, .ref q297), (13, .ref q303)]) (fun J650 => ?_) (fun ls hl => ?_)
              · refine lv_iload S.1 S.2.1 dL_law_634 (lv_at hl 2 rfl) ?_
                refine z_iconst S dL_law_636 ?_
                refine z_icmp_ne (tgt := 650) S dL_law_637 (by decide) (by omega) (fun h_10 => ?_) (fun h_10 => ?_)
                · exact J650 ls hl
                · have hk1 := hln6 (by omega)
                  refine lv_aload S.1 S.2.1 dL_law_640 (lv_at hl 14 rfl) ?_
                  refine lv_iload S.1 S.2.1 dL_law_642 (lv_at hl 1 rfl) ?_
                  refine z_iald (F := colD c (20 * 20)) S hK hP 0 rfl (by decide) (by omega) dL_law_644 ?_
                  refine lv_iload S.1 S.2.1 dL_law_645 (lv_at hl 3 rfl) ?_
                  refine z_icmp_ne (tgt := 667) S dL_law_647 (by decide) (by omega) (fun h_11 => ?_) (fun h_11 => ?_)
                  · exact absurd h_11 (by omega)
                  · exact J650 ls hl
              · have hl : lv_has ls 31 [(21, .int (zI ((20 : Nat) : Int))), (20, .int (zI (lineT c 2))), (19, .int (zI (lineT c 1))), (18, .int (zI (lineT c 0))), (0, .ref sc), (1, .ref (a 0)), (2, .ref (b 0)), (3, .int (zI k)), (4, .int x), (5, .long (digC c)), (7, .int (zI (c.1 3))), (10, .int (zI (c.1 4))), (11, .int (zI (paidL c (c.1 3).toNat))), (12, .ref q297), (13, .ref q303)] := hl
                refine lv_iload S.1 S.2.1 dL_law_650 (lv_at hl 2 rfl) ?_
                refine z_iconst S dL_law_652 ?_
                refine z_icmp_gt (tgt := 667) S dL_law_653 (by decide) (by omega) (fun h_12 => ?_) (fun h_12 => ?_)
                · exact absurd h_12 (by omega)
                · refine y_join0 (nL := 31) 669 (lv := [(21, .int (zI ((20 : Nat) : Int))), (20, .int (zI (lineT c 2))), (19, .int (zI (lineT c 1))), (18, .int (zI (lineT c 0))), (0, .ref sc), (1, .ref (a 0)), (2, .ref (b 0)), (3, .int (zI k)), (4, .int x), (5, .long (digC c)), (7, .int (zI (c.1 3))), (10, .int (zI (c.1 4))), (11, .int (zI (paidL c (c.1 3).toNat))), (12, .ref q297), (13, .ref q303)]) (fun J669 => ?_) (fun ls hl => ?_)
                  · refine lv_iload S.1 S.2.1 dL_law_656 (lv_at hl 11 rfl) ?_
                    refine z_if_ne (tgt := 669) S dL_law_658 (by decide) (by omega) (fun h_13 => ?_) (fun h_13 => ?_)
                    · exact J669 ls hl
                    · refine lv_iload S.1 S.2.1 dL_law_661 (lv_at hl 2 rfl) ?_
                      refine z_iconst S dL_law_663 ?_
                      refine z_icmp_eq (tgt := 669) S dL_law_664 (by decide) (by omega) (fun h_14 => ?_) (fun h_14 => ?_)
                      · exact J669 ls hl
                      · exact absurd h_14 (by omega)
                  · have hl : lv_has ls 31 [(21, .int (zI ((20 : Nat) : Int))), (20, .int (zI (lineT c 2))), (19, .int (zI (lineT c 1))), (18, .int (zI (lineT c 0))), (0, .ref sc), (1, .ref (a 0)), (2, .ref (b 0)), (3, .int (zI k)), (4, .int x), (5, .long (digC c)), (7, .int (zI (c.1 3))), (10, .int (zI (c.1 4))), (11, .int (zI (paidL c (c.1 3).toNat))), (12, .ref q297), (13, .ref q303)] := hl
                    refine lv_iload S.1 S.2.1 dL_law_669 (lv_at hl 8 rfl) ?_
                    refine z_iconst S dL_law_671 ?_
                    refine lv_ishr S.1 S.2.1 dL_law_672 ?_
                    refine lv_iload S.1 S.2.1 dL_law_673 (lv_at hl 10 rfl) ?_
                    refine z_rS (As := [.int (x >>> (zI 5 &&& 31)), .int (zI (c.1 3))]) (rest := []) S (m_L_below l D g (x >>> (zI 5 &&& 31)) (c.1 3) (by omega)) ml_L_9 sm_L_below ini_L cd_L_below ds_L_below ⟨Nat.le_of_ble_eq_true rfl, Nat.le_of_ble_eq_true rfl⟩ hK va_P_nil rfl hl.1 rfl (Nat.le_of_ble_eq_true rfl) ⟨by show cells ≤ 600074; omega, by show slots ≤ 7301550; omega⟩ dL_law_675 ?_
                    have hb_15 := blw_b (x >>> (zI 5 &&& 31)) (c.1 3) (by omega)
                    refine lv_istore (lv' := [(21, .int (zI (blw (x >>> (zI 5 &&& 31)) (c.1 3)))), (20, .int (zI (lineT c 2))), (19, .int (zI (lineT c 1))), (18, .int (zI (lineT c 0))), (0, .ref sc), (1, .ref (a 0)), (2, .ref (b 0)), (3, .int (zI k)), (4, .int x), (5, .long (digC c)), (7, .int (zI (c.1 3))), (10, .int (zI (c.1 4))), (11, .int (zI (paidL c (c.1 3).toNat))), (12, .ref q297), (13, .ref q303)]) S.1 S.2.1 dL_law_678 hl (by decide) rfl (fun ls hl => ?_)
                    obtain ⟨hbe0, hbe1, hbe2, hbe3⟩ := L_best hI9 (d := (blw (x >>> (zI 5 &&& 31)) (c.1 3)))
                    refine lv_aload_n S.1 S.2.1 dL_law_680 rfl (lv_at hl 5 rfl) ?_
                    refine lv_iload S.1 S.2.1 dL_law_681 (lv_at hl 0 rfl) ?_
                    refine z_iconst S dL_law_683 ?_
                    refine z_rV (As := [.int (zI (blw (x >>> (zI 5 &&& 31)) (c.1 3))), .int (zI 2)]) (rest := []) S (r_X4_best l D g a c9 hI9 (blw (x >>> (zI 5 &&& 31)) (c.1 3)) 2 (by omega) (by omega)) ml_L_135 im_X4_best se_X4_best ini_X4 cd_X4_best ds_X4_best ⟨Nat.le_of_ble_eq_true rfl, Nat.le_of_ble_eq_true rfl⟩ hK (va_P_l (va_P_r hP)) (va_recv hK.1 (va_P_l (va_P_r hP)) (ci := 4) (q0 := 0) rfl rfl) rfl hl.1 rfl (Nat.le_of_ble_eq_true rfl) ⟨by show cells ≤ 600074; omega, by show slots ≤ 7301550; omega⟩ dL_law_684 ?_
                    refine lv_istore (lv' := [(22, .int (zI (bestT c9 (blw (x >>> (zI 5 &&& 31)) (c.1 3)) 2))), (21, .int (zI (blw (x >>> (zI 5 &&& 31)) (c.1 3)))), (20, .int (zI (lineT c 2))), (19, .int (zI (lineT c 1))), (18, .int (zI (lineT c 0))), (0, .ref sc), (1, .ref (a 0)), (2, .ref (b 0)), (3, .int (zI k)), (4, .int x), (5, .long (digC c)), (7, .int (zI (c.1 3))), (10, .int (zI (c.1 4))), (11, .int (zI (paidL c (c.1 3).toNat))), (12, .ref q297), (13, .ref q303)]) S.1 S.2.1 dL_law_687 hl (by decide) rfl (fun ls hl => ?_)
                    refine lv_aload_n S.1 S.2.1 dL_law_689 rfl (lv_at hl 6 rfl) ?_
                    refine lv_iload S.1 S.2.1 dL_law_690 (lv_at hl 1 rfl) ?_
                    refine lv_aload_n S.1 S.2.1 dL_law_692 rfl (lv_at hl 6 rfl) ?_
                    refine lv_iload S.1 S.2.1 dL_law_693 (lv_at hl 1 rfl) ?_
                    refine z_iconst S dL_law_695 ?_
                    refine z_rV (As := [.int (zI (blw (x >>> (zI 5 &&& 31)) (c.1 3))), .int (zI 0)]) (rest := [.int (zI (blw (x >>> (zI 5 &&& 31)) (c.1 3))), .ref (a 0)]) S (r_X4_best l D g a c9 hI9 (blw (x >>> (zI 5 &&& 31)) (c.1 3)) 0 (by omega) (by omega)) ml_L_135 im_X4_best se_X4_best ini_X4 cd_X4_best ds_X4_best ⟨Nat.le_of_ble_eq_true rfl, Nat.le_of_ble_eq_true rfl⟩ hK (va_P_l (va_P_r hP)) (va_recv hK.1 (va_P_l (va_P_r hP)) (ci := 4) (q0 := 0) rfl rfl) rfl hl.1 rfl (Nat.le_of_ble_eq_true rfl) ⟨by show cells ≤ 600074; omega, by show slots ≤ 7301550; omega⟩ dL_law_696 ?_
                    refine lv_aload_n S.1 S.2.1 dL_law_699 rfl (lv_at hl 6 rfl) ?_
                    refine lv_iload S.1 S.2.1 dL_law_700 (lv_at hl 1 rfl) ?_
                    refine z_iconst S dL_law_702 ?_
                    refine z_rV (As := [.int (zI (blw (x >>> (zI 5 &&& 31)) (c.1 3))), .int (zI 1)]) (rest := [.int (zI (bestT c9 (blw (x >>> (zI 5 &&& 31)) (c.1 3)) 0)), .int (zI (blw (x >>> (zI 5 &&& 31)) (c.1 3))), .ref (a 0)]) S (r_X4_best l D g a c9 hI9 (blw (x >>> (zI 5 &&& 31)) (c.1 3)) 1 (by omega) (by omega)) ml_L_135 im_X4_best se_X4_best ini_X4 cd_X4_best ds_X4_best ⟨Nat.le_of_ble_eq_true rfl, Nat.le_of_ble_eq_true rfl⟩ hK (va_P_l (va_P_r hP)) (va_recv hK.1 (va_P_l (va_P_r hP)) (ci := 4) (q0 := 0) rfl rfl) rfl hl.1 rfl (Nat.le_of_ble_eq_true rfl) ⟨by show cells ≤ 600074; omega, by show slots ≤ 7301550; omega⟩ dL_law_703 ?_
                    refine z_rV (As := [.int (zI (blw (x >>> (zI 5 &&& 31)) (c.1 3))), .int (zI (bestT c9 (blw (x >>> (zI 5 &&& 31)) (c.1 3)) 0)), .int (zI (bestT c9 (blw (x >>> (zI 5 &&& 31)) (c.1 3)) 1))]) (rest := []) S (r_X4_rod l D g a c9 hI9 (blw (x >>> (zI 5 &&& 31)) (c.1 3)) (bestT c9 (blw (x >>> (zI 5 &&& 31)) (c.1 3)) 0) (bestT c9 (blw (x >>> (zI 5 &&& 31)) (c.1 3)) 1) (by omega) (by omega)) ml_L_138 im_X4_rod se_X4_rod ini_X4 cd_X4_rod ds_X4_rod ⟨Nat.le_of_ble_eq_true rfl, Nat.le_of_ble_eq_true rfl⟩ hK (va_P_l (va_P_r hP)) (va_recv hK.1 (va_P_l (va_P_r hP)) (ci := 4) (q0 := 0) rfl rfl) rfl hl.1 rfl (Nat.le_of_ble_eq_true rfl) ⟨by show cells ≤ 600074; omega, by show slots ≤ 7301550; omega⟩ dL_law_706 ?_
                    refine lv_iload S.1 S.2.1 dL_law_709 (lv_at hl 0 rfl) ?_
                    refine z_icmp_eq (tgt := 716) S dL_law_711 (by decide) (by omega) (fun h_16 => ?_) (fun h_16 => ?_)
                    · have hP := va_P_r hP
                      have hD := va_D_r hD
                      have hl : lv_has ls 31 [(0, .ref sc), (1, .ref (a 0)), (2, .ref (b 0)), (3, .int (zI k)), (4, .int x), (5, .long (digC c9)), (7, .int (zI (c9.1 3))), (10, .int (zI (c9.1 4))), (11, .int (zI (paidL c9 (c9.1 3).toNat))), (18, .int (zI (lineT c9 0))), (19, .int (zI (lineT c9 1))), (20, .int (zI (lineT c9 2))), (21, .int (zI (blw (x >>> (zI 5 &&& 31)) (c.1 3)))), (22, .int (zI (bestT c9 (blw (x >>> (zI 5 &&& 31)) (c.1 3)) 2)))] := by
                        rw [hc9] at hl ⊢
                        simp only [digC_9, paidL_9, lineT_9]
                        exact lv_sub hl [5, 6, 7, 8, 9, 10, 11, 12, 13, 4, 3, 2, 1, 0] rfl
                      exact next c9 _ _ _ _ hI9 hR9 (by omega) hP hD hS hl
                    · exact absurd h_16 (by omega)
    · exact absurd h_4 (by omega)
end SEGE
