/-! THE LAW: all spots of the line -/
theorem itsL_b {c : CS} {x y : Int} (h : inF x y) : -19 ≤ itsL c x y ∧ itsL c x y ≤ 38 := by
  unfold itsL
  split
  · omega
  · split
    · omega
    · split <;> omega
section SEGF
variable {p : Program} {l : Launch} {e : Env} {s : State} {m : MethodId} {args : Array Value} {below : List Frame} {meth : Method} {co : Code} {H : Heap} {locs : List Loc} {cells slots : Nat} {Q : State → Prop}
variable {ls : Array Slot} {D : va_G} {A : Nat → Prop} {g : ClassId × ClassId × ClassId} {a b : Nat → Nat} {c : CS} {t : SS} {B : Int} {sc : Nat} {k : Int} {x : Int32}
set_option maxHeartbeats 4000000 in
set_option maxRecDepth 100000 in
theorem lw_F (S : CallFix p m co cL_law 31 s args AW RL) (hX : KX D g s) (hZ : ZQ A s s.heap) (hst : l.stackTraces = false) (hda : CD 21 a) (hA : ∀ q, s.heap.size ≤ q → A q) (hAc : ∀ q, CA 21 a q → A q) (hI : IC B c) (hB8 : B ≤ 800000000) (hT : IT t) (hR : RS c t) (h3 : 1 ≤ t.1 3) (hB : SB A b t) {d : Int} (hd : 0 ≤ d ∧ d < t.1 3) (hcl : cells + 10 ≤ 600074 ∧ slots + 100 ≤ 7301550) (hP : va_P D vwCl (CW g a c ++ SW g b t) H) (hD : va_D A (CW g a c ++ SW g b t)) (hS : va_S A s.heap H locs) (hl : lv_has ls 31 [(0, .ref sc), (1, .ref (a 0)), (2, .ref (b 0)), (3, .int (zI k)), (4, .int x), (5, .long (digC c)), (7, .int (zI (c.1 3))), (10, .int (zI (c.1 4))), (11, .int (zI (paidL c (c.1 3).toNat))), (18, .int (zI (lineT c 0))), (19, .int (zI (lineT c 1))), (20, .int (zI (lineT c 2))), (21, .int (zI d)), (22, .int (zI (bestT c d 2)))]) (next : ∀ (H : Heap) (locs : List Loc) (ls : Array Slot), va_P D vwCl (CW g a c ++ SW g b t) H → va_D A (CW g a c ++ SW g b t) → va_S A s.heap H locs → lv_has ls 31 [(0, .ref sc), (1, .ref (a 0)), (2, .ref (b 0)), (3, .int (zI k)), (4, .int x), (5, .long (digC c)), (7, .int (zI (c.1 3))), (11, .int (zI (paidL c (c.1 3).toNat)))] → W p l e room_1 s m args below meth co H locs (cells) (slots) Q (F0 m 869 ls [])) : W p l e room_1 s m args below meth co H locs cells slots Q (F0 m 716 ls []) := by
  have hK := hX.1
  have hs := hT.s
  have hc := hI.s
  have hn := hR.n
  obtain ⟨hbe0, hbe1, hbe2, hbe3⟩ := L_best hI (d := d)
  obtain ⟨hln1, hln2, hln3, hln4, hln5, hln6, hln7, hln8⟩ := L_line hR hI hT
  refine z_iconst S dL_law_716 ?_
  refine lv_istore (lv' := [(23, .int (zI 0)), (0, .ref sc), (1, .ref (a 0)), (2, .ref (b 0)), (3, .int (zI k)), (4, .int x), (5, .long (digC c)), (7, .int (zI (c.1 3))), (10, .int (zI (c.1 4))), (11, .int (zI (paidL c (c.1 3).toNat))), (18, .int (zI (lineT c 0))), (19, .int (zI (lineT c 1))), (20, .int (zI (lineT c 2))), (21, .int (zI d)), (22, .int (zI (bestT c d 2)))]) S.1 S.2.1 dL_law_717 hl (by decide) rfl (fun ls hl => ?_)
  refine z_iconst S dL_law_719 ?_
  refine lv_istore (lv' := [(24, .int (zI 0)), (23, .int (zI 0)), (0, .ref sc), (1, .ref (a 0)), (2, .ref (b 0)), (3, .int (zI k)), (4, .int x), (5, .long (digC c)), (7, .int (zI (c.1 3))), (10, .int (zI (c.1 4))), (11, .int (zI (paidL c (c.1 3).toNat))), (18, .int (zI (lineT c 0))), (19, .int (zI (lineT c 1))), (20, .int (zI (lineT c 2))), (21, .int (zI d)), (22, .int (zI (bestT c d 2)))]) S.1 S.2.1 dL_law_720 hl (by decide) rfl (fun ls hl => ?_)
  refine y_for (σ := Unit) (D := D) (A := A) (nL := 31) (H0 := s.heap) 20 (fun (_u : Unit) => s) (fun (k722 : Nat) (_u : Unit) => [(24, .int (zI (k722 : Int))), (23, .int (zI (onD c (20 * k722)))), (0, .ref sc), (1, .ref (a 0)), (2, .ref (b 0)), (3, .int (zI k)), (4, .int x), (5, .long (digC c)), (7, .int (zI (c.1 3))), (10, .int (zI (c.1 4))), (11, .int (zI (paidL c (c.1 3).toNat))), (18, .int (zI (lineT c 0))), (19, .int (zI (lineT c 1))), (20, .int (zI (lineT c 2))), (21, .int (zI d)), (22, .int (zI (bestT c d 2)))]) (fun (k722 : Nat) (_u : Unit) => (CW g a c ++ SW g b t)) (fun _ => cells) (fun _ => slots) (fun (k722 : Nat) (_u : Unit) => True) (fun k722 hk722 _u hJ722 H locs hP hD hS ls hl ih722 => ?_) (fun _u hJ722 H locs hP hD hS ls hl => ?_) 0 (by omega) () trivial _ _ hP hD hS ls (lv_sub hl [0, 1, 2, 3, 4, 5, 6, 7, 8, 9, 10, 11, 12, 13, 14, 15] rfl)
  · have hl : lv_has ls 31 [(24, .int (zI (k722 : Int))), (23, .int (zI (onD c (20 * k722)))), (0, .ref sc), (1, .ref (a 0)), (2, .ref (b 0)), (3, .int (zI k)), (4, .int x), (5, .long (digC c)), (7, .int (zI (c.1 3))), (10, .int (zI (c.1 4))), (11, .int (zI (paidL c (c.1 3).toNat))), (18, .int (zI (lineT c 0))), (19, .int (zI (lineT c 1))), (20, .int (zI (lineT c 2))), (21, .int (zI d)), (22, .int (zI (bestT c d 2)))] := hl
    have hP : va_P D vwCl (CW g a c ++ SW g b t) H := hP
    have hD : va_D A (CW g a c ++ SW g b t) := hD
    refine lv_iload S.1 S.2.1 dL_law_722 (lv_at hl 0 rfl) ?_
    refine z_bipush S (by decide) dL_law_724 ?_
    refine z_icmp_ge (tgt := 860) S dL_law_726 (by decide) (by omega) (fun h_1 => ?_) (fun h_1 => ?_)
    · exact absurd h_1 (by omega)
    · refine z_iconst S dL_law_729 ?_
      refine lv_istore (lv' := [(25, .int (zI 0)), (24, .int (zI (k722 : Int))), (23, .int (zI (onD c (20 * k722)))), (0, .ref sc), (1, .ref (a 0)), (2, .ref (b 0)), (3, .int (zI k)), (4, .int x), (5, .long (digC c)), (7, .int (zI (c.1 3))), (10, .int (zI (c.1 4))), (11, .int (zI (paidL c (c.1 3).toNat))), (18, .int (zI (lineT c 0))), (19, .int (zI (lineT c 1))), (20, .int (zI (lineT c 2))), (21, .int (zI d)), (22, .int (zI (bestT c d 2)))]) S.1 S.2.1 dL_law_730 hl (by decide) rfl (fun ls hl => ?_)
      refine y_for (σ := Unit) (D := D) (A := A) (nL := 31) (H0 := s.heap) 20 (fun (_u : Unit) => s) (fun (k732 : Nat) (_u : Unit) => [(25, .int (zI (k732 : Int))), (24, .int (zI (k722 : Int))), (23, .int (zI (onD c (20 * k722 + k732)))), (0, .ref sc), (1, .ref (a 0)), (2, .ref (b 0)), (3, .int (zI k)), (4, .int x), (5, .long (digC c)), (7, .int (zI (c.1 3))), (10, .int (zI (c.1 4))), (11, .int (zI (paidL c (c.1 3).toNat))), (18, .int (zI (lineT c 0))), (19, .int (zI (lineT c 1))), (20, .int (zI (lineT c 2))), (21, .int (zI d)), (22, .int (zI (bestT c d 2)))]) (fun (k732 : Nat) (_u : Unit) => (CW g a c ++ SW g b t)) (fun _ => cells) (fun _ => slots) (fun (k732 : Nat) (_u : Unit) => True) (fun k732 hk732 _u hJ732 H locs hP hD hS ls hl ih732 => ?_) (fun _u hJ732 H locs hP hD hS ls hl => ?_) 0 (by omega) () trivial _ _ hP hD hS ls (lv_sub hl [0, 1, 2, 3, 4, 5, 6, 7, 8, 9, 10, 11, 12, 13, 14, 15, 16] rfl)
      · have hl : lv_has ls 31 [(25, .int (zI (k732 : Int))), (24, .int (zI (k722 : Int))), (23, .int (zI (onD c (20 * k722 + k732)))), (0, .ref sc), (1, .ref (a 0)), (2, .ref (b 0)), (3, .int (zI k)), (4, .int x), (5, .long (digC c)), (7, .int (zI (c.1 3))), (10, .int (zI (c.1 4))), (11, .int (zI (paidL c (c.1 3).toNat))), (18, .int (zI (lineT c 0))), (19, .int (zI (lineT c 1))), (20, .int (zI (lineT c 2))), (21, .int (zI d)), (22, .int (zI (bestT c d 2)))] := hl
        have hP : va_P D vwCl (CW g a c ++ SW g b t) H := hP
        have hD : va_D A (CW g a c ++ SW g b t) := hD
        refine lv_iload S.1 S.2.1 dL_law_732 (lv_at hl 0 rfl) ?_
        refine z_bipush S (by decide) dL_law_734 ?_
        refine z_icmp_ge (tgt := 854) S dL_law_736 (by decide) (by omega) (fun h_2 => ?_) (fun h_2 => ?_)
        · exact absurd h_2 (by omega)
        · refine y_joinV (nL := 31) (fun v => v = itsL c (k722 : Int) (k732 : Int)) 779 (lv := [(25, .int (zI (k732 : Int))), (24, .int (zI (k722 : Int))), (23, .int (zI (onD c (20 * k722 + k732)))), (0, .ref sc), (1, .ref (a 0)), (2, .ref (b 0)), (3, .int (zI k)), (4, .int x), (5, .long (digC c)), (7, .int (zI (c.1 3))), (10, .int (zI (c.1 4))), (11, .int (zI (paidL c (c.1 3).toNat))), (18, .int (zI (lineT c 0))), (19, .int (zI (lineT c 1))), (20, .int (zI (lineT c 2))), (21, .int (zI d)), (22, .int (zI (bestT c d 2)))]) [] (fun J779 => ?_) (fun v779 hv779 ls hl => ?_)
          · refine lv_iload S.1 S.2.1 dL_law_739 (lv_at hl 13 rfl) ?_
            refine z_if_ne (tgt := 749) S dL_law_741 (by decide) (by omega) (fun h_3 => ?_) (fun h_3 => ?_)
            · refine lv_iload S.1 S.2.1 dL_law_749 (lv_at hl 13 rfl) ?_
              refine z_iconst S dL_law_751 ?_
              refine z_icmp_ne (tgt := 760) S dL_law_752 (by decide) (by omega) (fun h_4 => ?_) (fun h_4 => ?_)
              · refine lv_iload S.1 S.2.1 dL_law_760 (lv_at hl 13 rfl) ?_
                refine z_iconst S dL_law_762 ?_
                refine z_icmp_ne (tgt := 774) S dL_law_763 (by decide) (by omega) (fun h_5 => ?_) (fun h_5 => ?_)
                · refine lv_iload S.1 S.2.1 dL_law_774 (lv_at hl 1 rfl) ?_
                  refine lv_iload S.1 S.2.1 dL_law_776 (lv_at hl 0 rfl) ?_
                  refine z_iadd S dL_law_778 ?_
                  exact J779 ((k722 : Int) + (k732 : Int)) (by unfold itsL; first | rw [if_pos (by omega)] | rw [if_neg (by omega), if_pos (by omega)] | rw [if_neg (by omega), if_neg (by omega), if_pos (by omega)] | rw [if_neg (by omega), if_neg (by omega), if_neg (by omega)]) ls hl
                · refine lv_iload S.1 S.2.1 dL_law_766 (lv_at hl 1 rfl) ?_
                  refine lv_iload S.1 S.2.1 dL_law_768 (lv_at hl 0 rfl) ?_
                  refine z_isub S dL_law_770 ?_
                  refine z_goto (tgt := 779) S dL_law_771 (by decide) ?_
                  exact J779 ((k722 : Int) - (k732 : Int)) (by unfold itsL; first | rw [if_pos (by omega)] | rw [if_neg (by omega), if_pos (by omega)] | rw [if_neg (by omega), if_neg (by omega), if_pos (by omega)] | rw [if_neg (by omega), if_neg (by omega), if_neg (by omega)]) ls hl
              · refine lv_iload S.1 S.2.1 dL_law_755 (lv_at hl 1 rfl) ?_
                refine z_goto (tgt := 779) S dL_law_757 (by decide) ?_
                exact J779 (k722 : Int) (by unfold itsL; first | rw [if_pos (by omega)] | rw [if_neg (by omega), if_pos (by omega)] | rw [if_neg (by omega), if_neg (by omega), if_pos (by omega)] | rw [if_neg (by omega), if_neg (by omega), if_neg (by omega)]) ls hl
            · refine lv_iload S.1 S.2.1 dL_law_744 (lv_at hl 0 rfl) ?_
              refine z_goto (tgt := 779) S dL_law_746 (by decide) ?_
              exact J779 (k732 : Int) (by unfold itsL; first | rw [if_pos (by omega)] | rw [if_neg (by omega), if_pos (by omega)] | rw [if_neg (by omega), if_neg (by omega), if_pos (by omega)] | rw [if_neg (by omega), if_neg (by omega), if_neg (by omega)]) ls hl
          · have hl : lv_has ls 31 [(25, .int (zI (k732 : Int))), (24, .int (zI (k722 : Int))), (23, .int (zI (onD c (20 * k722 + k732)))), (0, .ref sc), (1, .ref (a 0)), (2, .ref (b 0)), (3, .int (zI k)), (4, .int x), (5, .long (digC c)), (7, .int (zI (c.1 3))), (10, .int (zI (c.1 4))), (11, .int (zI (paidL c (c.1 3).toNat))), (18, .int (zI (lineT c 0))), (19, .int (zI (lineT c 1))), (20, .int (zI (lineT c 2))), (21, .int (zI d)), (22, .int (zI (bestT c d 2)))] := hl
            have hv779 : v779 = itsL c (k722 : Int) (k732 : Int) := hv779
            have hib := itsL_b (c := c) (x := (k722 : Int)) (y := (k732 : Int)) (by omega)
            refine lv_istore (lv' := [(26, .int (zI v779)), (25, .int (zI (k732 : Int))), (24, .int (zI (k722 : Int))), (23, .int (zI (onD c (20 * k722 + k732)))), (0, .ref sc), (1, .ref (a 0)), (2, .ref (b 0)), (3, .int (zI k)), (4, .int x), (5, .long (digC c)), (7, .int (zI (c.1 3))), (10, .int (zI (c.1 4))), (11, .int (zI (paidL c (c.1 3).toNat))), (18, .int (zI (lineT c 0))), (19, .int (zI (lineT c 1))), (20, .int (zI (lineT c 2))), (21, .int (zI d)), (22, .int (zI (bestT c d 2)))]) S.1 S.2.1 dL_law_779 hl (by decide) rfl (fun ls hl => ?_)
            refine lv_iload S.1 S.2.1 dL_law_781 (lv_at hl 11 rfl) ?_
            refine z_if_eq (tgt := 848) S dL_law_783 (by decide) (by omega) (fun h_6 => ?_) (fun h_6 => ?_)
            · refine z_iinc (lv' := [(25, .int (zI ((k732 : Int) + 1))), (26, .int (zI v779)), (24, .int (zI (k722 : Int))), (23, .int (zI (onD c (20 * k722 + k732)))), (0, .ref sc), (1, .ref (a 0)), (2, .ref (b 0)), (3, .int (zI k)), (4, .int x), (5, .long (digC c)), (7, .int (zI (c.1 3))), (10, .int (zI (c.1 4))), (11, .int (zI (paidL c (c.1 3).toNat))), (18, .int (zI (lineT c 0))), (19, .int (zI (lineT c 1))), (20, .int (zI (lineT c 2))), (21, .int (zI d)), (22, .int (zI (bestT c d 2)))]) S dL_law_848 hl (k := 1) rfl (by decide) rfl (fun ls hl => ?_)
              refine z_goto (tgt := 732) S dL_law_851 (by decide) ?_
              have e_7 : onD c (20 * k722 + (k732 + 1)) = onD c (20 * k722 + k732) := by first | exact O_skip (by omega) (fun z => absurd z.1 (by omega)) | exact O_skip (by omega) (fun z => absurd z.2 (by omega)) | rw [hst9, hv815]
              exact ih732 () trivial _ _ hP hD hS _ (lv_sub hl [0, 2, 3, 4, 5, 6, 7, 8, 9, 10, 11, 12, 13, 14, 15, 16, 17] (by show _ = ([(25, .int (zI ((k732 + 1 : Nat) : Int))), (24, .int (zI (k722 : Int))), (23, .int (zI (onD c (20 * k722 + (k732 + 1))))), (0, .ref sc), (1, .ref (a 0)), (2, .ref (b 0)), (3, .int (zI k)), (4, .int x), (5, .long (digC c)), (7, .int (zI (c.1 3))), (10, .int (zI (c.1 4))), (11, .int (zI (paidL c (c.1 3).toNat))), (18, .int (zI (lineT c 0))), (19, .int (zI (lineT c 1))), (20, .int (zI (lineT c 2))), (21, .int (zI d)), (22, .int (zI (bestT c d 2)))] : List (Nat × Value)); rw [e_7]; first | done | rfl))
            · refine lv_iload S.1 S.2.1 dL_law_786 (lv_at hl 0 rfl) ?_
              refine lv_iload S.1 S.2.1 dL_law_788 (lv_at hl 15 rfl) ?_
              refine z_icmp_eq (tgt := 796) S dL_law_790 (by decide) (by omega) (fun h_8 => ?_) (fun h_8 => ?_)
              · have hst9 := O_take (c := c) (x := k722) (y := k732) (by omega) ⟨by omega, by omega⟩
                have hsp := L_spot hR hI hT (x := (k722 : Int)) (y := (k732 : Int)) (by omega)
                refine lv_iload S.1 S.2.1 dL_law_796 (lv_at hl 3 rfl) ?_
                refine y_joinV (nL := 31) (fun v => v = b01 (0 ≤ spotT c ((k732 : Int) * 20 + (k722 : Int)) 2)) 815 (lv := [(26, .int (zI v779)), (25, .int (zI (k732 : Int))), (24, .int (zI (k722 : Int))), (23, .int (zI (onD c (20 * k722 + k732)))), (0, .ref sc), (1, .ref (a 0)), (2, .ref (b 0)), (3, .int (zI k)), (4, .int x), (5, .long (digC c)), (7, .int (zI (c.1 3))), (10, .int (zI (c.1 4))), (11, .int (zI (paidL c (c.1 3).toNat))), (18, .int (zI (lineT c 0))), (19, .int (zI (lineT c 1))), (20, .int (zI (lineT c 2))), (21, .int (zI d)), (22, .int (zI (bestT c d 2)))]) [.int (zI (onD c (20 * k722 + k732)))] (fun J815 => ?_) (fun v815 hv815 ls hl => ?_)
                · refine lv_aload_n S.1 S.2.1 dL_law_798 rfl (lv_at hl 5 rfl) ?_
                  refine lv_iload S.1 S.2.1 dL_law_799 (lv_at hl 2 rfl) ?_
                  refine lv_iload S.1 S.2.1 dL_law_801 (lv_at hl 1 rfl) ?_
                  refine z_iconst S dL_law_803 ?_
                  refine z_rV (As := [.int (zI (k722 : Int)), .int (zI (k732 : Int)), .int (zI 2)]) (rest := [.int (zI (onD c (20 * k722 + k732)))]) S (r_X4_spot l D g a c hI (k722 : Int) (k732 : Int) 2 (by omega) (by omega)) ml_L_124 im_X4_spot se_X4_spot ini_X4 cd_X4_spot ds_X4_spot ⟨Nat.le_of_ble_eq_true rfl, Nat.le_of_ble_eq_true rfl⟩ hK (va_P_l hP) (va_recv hK.1 (va_P_l hP) (ci := 4) (q0 := 0) rfl rfl) rfl hl.1 rfl (Nat.le_of_ble_eq_true rfl) ⟨by show cells ≤ 600074; omega, by show slots ≤ 7301550; omega⟩ dL_law_804 ?_
                  refine z_if_lt (tgt := 814) S dL_law_807 (by decide) (by omega) (fun h_9 => ?_) (fun h_9 => ?_)
                  · refine z_iconst S dL_law_814 ?_
                    exact J815 0 (b01_is (by omega)) ls hl
                  · refine z_iconst S dL_law_810 ?_
                    refine z_goto (tgt := 815) S dL_law_811 (by decide) ?_
                    exact J815 1 (b01_is (by omega)) ls hl
                · have hl : lv_has ls 31 [(26, .int (zI v779)), (25, .int (zI (k732 : Int))), (24, .int (zI (k722 : Int))), (23, .int (zI (onD c (20 * k722 + k732)))), (0, .ref sc), (1, .ref (a 0)), (2, .ref (b 0)), (3, .int (zI k)), (4, .int x), (5, .long (digC c)), (7, .int (zI (c.1 3))), (10, .int (zI (c.1 4))), (11, .int (zI (paidL c (c.1 3).toNat))), (18, .int (zI (lineT c 0))), (19, .int (zI (lineT c 1))), (20, .int (zI (lineT c 2))), (21, .int (zI d)), (22, .int (zI (bestT c d 2)))] := hl
                  have hv815 : v815 = b01 (0 ≤ spotT c ((k732 : Int) * 20 + (k722 : Int)) 2) := hv815
                  refine z_iadd S dL_law_815 ?_
                  refine lv_istore (lv' := [(23, .int (zI ((onD c (20 * k722 + k732)) + v815))), (26, .int (zI v779)), (25, .int (zI (k732 : Int))), (24, .int (zI (k722 : Int))), (0, .ref sc), (1, .ref (a 0)), (2, .ref (b 0)), (3, .int (zI k)), (4, .int x), (5, .long (digC c)), (7, .int (zI (c.1 3))), (10, .int (zI (c.1 4))), (11, .int (zI (paidL c (c.1 3).toNat))), (18, .int (zI (lineT c 0))), (19, .int (zI (lineT c 1))), (20, .int (zI (lineT c 2))), (21, .int (zI d)), (22, .int (zI (bestT c d 2)))]) S.1 S.2.1 dL_law_816 hl (by decide) rfl (fun ls hl => ?_)
                  have hbk := hbe3 (k722 : Int) (k732 : Int) (by omega)
                  refine lv_aload_n S.1 S.2.1 dL_law_818 rfl (lv_at hl 5 rfl) ?_
                  refine lv_iload S.1 S.2.1 dL_law_819 (lv_at hl 16 rfl) ?_
                  refine lv_iload S.1 S.2.1 dL_law_821 (lv_at hl 3 rfl) ?_
                  refine lv_iload S.1 S.2.1 dL_law_823 (lv_at hl 2 rfl) ?_
                  refine z_rV (As := [.int (zI d), .int (zI (k722 : Int)), .int (zI (k732 : Int))]) (rest := []) S (r_X4_rod l D g a c hI d (k722 : Int) (k732 : Int) (by omega) (by omega)) ml_L_138 im_X4_rod se_X4_rod ini_X4 cd_X4_rod ds_X4_rod ⟨Nat.le_of_ble_eq_true rfl, Nat.le_of_ble_eq_true rfl⟩ hK (va_P_l hP) (va_recv hK.1 (va_P_l hP) (ci := 4) (q0 := 0) rfl rfl) rfl hl.1 rfl (Nat.le_of_ble_eq_true rfl) ⟨by show cells ≤ 600074; omega, by show slots ≤ 7301550; omega⟩ dL_law_825 ?_
                  refine lv_iload S.1 S.2.1 dL_law_828 (lv_at hl 17 rfl) ?_
                  refine z_icmp_gt (tgt := 846) S dL_law_830 (by decide) (by omega) (fun h_10 => ?_) (fun h_10 => ?_)
                  · exact absurd h_10 (by omega)
                  · refine lv_aload_n S.1 S.2.1 dL_law_833 rfl (lv_at hl 5 rfl) ?_
                    refine lv_iload S.1 S.2.1 dL_law_834 (lv_at hl 16 rfl) ?_
                    refine lv_iload S.1 S.2.1 dL_law_836 (lv_at hl 3 rfl) ?_
                    refine lv_iload S.1 S.2.1 dL_law_838 (lv_at hl 2 rfl) ?_
                    refine z_rV (As := [.int (zI d), .int (zI (k722 : Int)), .int (zI (k732 : Int))]) (rest := []) S (r_X4_rod l D g a c hI d (k722 : Int) (k732 : Int) (by omega) (by omega)) ml_L_138 im_X4_rod se_X4_rod ini_X4 cd_X4_rod ds_X4_rod ⟨Nat.le_of_ble_eq_true rfl, Nat.le_of_ble_eq_true rfl⟩ hK (va_P_l hP) (va_recv hK.1 (va_P_l hP) (ci := 4) (q0 := 0) rfl rfl) rfl hl.1 rfl (Nat.le_of_ble_eq_true rfl) ⟨by show cells ≤ 600074; omega, by show slots ≤ 7301550; omega⟩ dL_law_840 ?_
                    refine z_if_ge (tgt := 848) S dL_law_843 (by decide) (by omega) (fun h_11 => ?_) (fun h_11 => ?_)
                    · refine z_iinc (lv' := [(25, .int (zI ((k732 : Int) + 1))), (23, .int (zI ((onD c (20 * k722 + k732)) + v815))), (26, .int (zI v779)), (24, .int (zI (k722 : Int))), (0, .ref sc), (1, .ref (a 0)), (2, .ref (b 0)), (3, .int (zI k)), (4, .int x), (5, .long (digC c)), (7, .int (zI (c.1 3))), (10, .int (zI (c.1 4))), (11, .int (zI (paidL c (c.1 3).toNat))), (18, .int (zI (lineT c 0))), (19, .int (zI (lineT c 1))), (20, .int (zI (lineT c 2))), (21, .int (zI d)), (22, .int (zI (bestT c d 2)))]) S dL_law_848 hl (k := 2) rfl (by decide) rfl (fun ls hl => ?_)
                      refine z_goto (tgt := 732) S dL_law_851 (by decide) ?_
                      have e_12 : onD c (20 * k722 + (k732 + 1)) = (onD c (20 * k722 + k732)) + v815 := by first | exact O_skip (by omega) (fun z => absurd z.1 (by omega)) | exact O_skip (by omega) (fun z => absurd z.2 (by omega)) | rw [hst9, hv815]
                      exact ih732 () trivial _ _ hP hD hS _ (lv_sub hl [0, 3, 1, 4, 5, 6, 7, 8, 9, 10, 11, 12, 13, 14, 15, 16, 17] (by show _ = ([(25, .int (zI ((k732 + 1 : Nat) : Int))), (24, .int (zI (k722 : Int))), (23, .int (zI (onD c (20 * k722 + (k732 + 1))))), (0, .ref sc), (1, .ref (a 0)), (2, .ref (b 0)), (3, .int (zI k)), (4, .int x), (5, .long (digC c)), (7, .int (zI (c.1 3))), (10, .int (zI (c.1 4))), (11, .int (zI (paidL c (c.1 3).toNat))), (18, .int (zI (lineT c 0))), (19, .int (zI (lineT c 1))), (20, .int (zI (lineT c 2))), (21, .int (zI d)), (22, .int (zI (bestT c d 2)))] : List (Nat × Value)); rw [e_12]; first | done | rfl))
                    · exact absurd h_11 (by omega)
              · refine z_goto (tgt := 848) S dL_law_793 (by decide) ?_
                refine z_iinc (lv' := [(25, .int (zI ((k732 : Int) + 1))), (26, .int (zI v779)), (24, .int (zI (k722 : Int))), (23, .int (zI (onD c (20 * k722 + k732)))), (0, .ref sc), (1, .ref (a 0)), (2, .ref (b 0)), (3, .int (zI k)), (4, .int x), (5, .long (digC c)), (7, .int (zI (c.1 3))), (10, .int (zI (c.1 4))), (11, .int (zI (paidL c (c.1 3).toNat))), (18, .int (zI (lineT c 0))), (19, .int (zI (lineT c 1))), (20, .int (zI (lineT c 2))), (21, .int (zI d)), (22, .int (zI (bestT c d 2)))]) S dL_law_848 hl (k := 1) rfl (by decide) rfl (fun ls hl => ?_)
                refine z_goto (tgt := 732) S dL_law_851 (by decide) ?_
                have e_13 : onD c (20 * k722 + (k732 + 1)) = onD c (20 * k722 + k732) := by first | exact O_skip (by omega) (fun z => absurd z.1 (by omega)) | exact O_skip (by omega) (fun z => absurd z.2 (by omega)) | rw [hst9, hv815]
                exact ih732 () trivial _ _ hP hD hS _ (lv_sub hl [0, 2, 3, 4, 5, 6, 7, 8, 9, 10, 11, 12, 13, 14, 15, 16, 17] (by show _ = ([(25, .int (zI ((k732 + 1 : Nat) : Int))), (24, .int (zI (k722 : Int))), (23, .int (zI (onD c (20 * k722 + (k732 + 1))))), (0, .ref sc), (1, .ref (a 0)), (2, .ref (b 0)), (3, .int (zI k)), (4, .int x), (5, .long (digC c)), (7, .int (zI (c.1 3))), (10, .int (zI (c.1 4))), (11, .int (zI (paidL c (c.1 3).toNat))), (18, .int (zI (lineT c 0))), (19, .int (zI (lineT c 1))), (20, .int (zI (lineT c 2))), (21, .int (zI d)), (22, .int (zI (bestT c d 2)))] : List (Nat × Value)); rw [e_13]; first | done | rfl))
      · have hl : lv_has ls 31 [(25, .int (zI ((20 : Nat) : Int))), (24, .int (zI (k722 : Int))), (23, .int (zI (onD c (20 * k722 + 20)))), (0, .ref sc), (1, .ref (a 0)), (2, .ref (b 0)), (3, .int (zI k)), (4, .int x), (5, .long (digC c)), (7, .int (zI (c.1 3))), (10, .int (zI (c.1 4))), (11, .int (zI (paidL c (c.1 3).toNat))), (18, .int (zI (lineT c 0))), (19, .int (zI (lineT c 1))), (20, .int (zI (lineT c 2))), (21, .int (zI d)), (22, .int (zI (bestT c d 2)))] := hl
        have hP : va_P D vwCl (CW g a c ++ SW g b t) H := hP
        have hD : va_D A (CW g a c ++ SW g b t) := hD
        refine lv_iload S.1 S.2.1 dL_law_732 (lv_at hl 0 rfl) ?_
        refine z_bipush S (by decide) dL_law_734 ?_
        refine z_icmp_ge (tgt := 854) S dL_law_736 (by decide) (by omega) (fun h_14 => ?_) (fun h_14 => ?_)
        · refine z_iinc (lv' := [(24, .int (zI ((k722 : Int) + 1))), (25, .int (zI ((20 : Nat) : Int))), (23, .int (zI (onD c (20 * k722 + 20)))), (0, .ref sc), (1, .ref (a 0)), (2, .ref (b 0)), (3, .int (zI k)), (4, .int x), (5, .long (digC c)), (7, .int (zI (c.1 3))), (10, .int (zI (c.1 4))), (11, .int (zI (paidL c (c.1 3).toNat))), (18, .int (zI (lineT c 0))), (19, .int (zI (lineT c 1))), (20, .int (zI (lineT c 2))), (21, .int (zI d)), (22, .int (zI (bestT c d 2)))]) S dL_law_854 hl (k := 1) rfl (by decide) rfl (fun ls hl => ?_)
          refine z_goto (tgt := 722) S dL_law_857 (by decide) ?_
          exact ih722 () trivial _ _ hP hD hS _ (lv_sub hl [0, 2, 3, 4, 5, 6, 7, 8, 9, 10, 11, 12, 13, 14, 15, 16] rfl)
        · exact absurd h_14 (by omega)
  · have hl : lv_has ls 31 [(24, .int (zI ((20 : Nat) : Int))), (23, .int (zI (onD c (20 * 20)))), (0, .ref sc), (1, .ref (a 0)), (2, .ref (b 0)), (3, .int (zI k)), (4, .int x), (5, .long (digC c)), (7, .int (zI (c.1 3))), (10, .int (zI (c.1 4))), (11, .int (zI (paidL c (c.1 3).toNat))), (18, .int (zI (lineT c 0))), (19, .int (zI (lineT c 1))), (20, .int (zI (lineT c 2))), (21, .int (zI d)), (22, .int (zI (bestT c d 2)))] := hl
    have hP : va_P D vwCl (CW g a c ++ SW g b t) H := hP
    have hD : va_D A (CW g a c ++ SW g b t) := hD
    refine lv_iload S.1 S.2.1 dL_law_722 (lv_at hl 0 rfl) ?_
    refine z_bipush S (by decide) dL_law_724 ?_
    refine z_icmp_ge (tgt := 860) S dL_law_726 (by decide) (by omega) (fun h_15 => ?_) (fun h_15 => ?_)
    · refine lv_iload S.1 S.2.1 dL_law_860 (lv_at hl 1 rfl) ?_
      refine lv_iload S.1 S.2.1 dL_law_862 (lv_at hl 11 rfl) ?_
      refine z_icmp_eq (tgt := 869) S dL_law_864 (by decide) (by omega) (fun h_16 => ?_) (fun h_16 => ?_)
      · exact next _ _ _ hP hD hS (lv_sub hl [2, 3, 4, 5, 6, 7, 8, 10] rfl)
      · exact absurd h_16 (by omega)
    · exact absurd h_15 (by omega)
end SEGF
