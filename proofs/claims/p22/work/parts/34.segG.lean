/-! THE LAW: all pits -/
section SEGG
variable {p : Program} {l : Launch} {e : Env} {s : State} {m : MethodId} {args : Array Value} {below : List Frame} {meth : Method} {co : Code} {H : Heap} {locs : List Loc} {cells slots : Nat} {Q : State → Prop}
variable {ls : Array Slot} {D : va_G} {A : Nat → Prop} {g : ClassId × ClassId × ClassId} {a b : Nat → Nat} {c : CS} {t : SS} {B : Int} {sc : Nat} {k : Int} {x : Int32}
set_option maxHeartbeats 4000000 in
set_option maxRecDepth 100000 in
theorem lw_G (S : CallFix p m co cL_law 31 s args AW RL) (hX : KX D g s) (hZ : ZQ A s s.heap) (hst : l.stackTraces = false) (hda : CD 21 a) (hA : ∀ q, s.heap.size ≤ q → A q) (hAc : ∀ q, CA 21 a q → A q) (hI : IC B c) (hB8 : B ≤ 800000000) (hT : IT t) (hR : RS c t) (h3 : 1 ≤ t.1 3) (hB : SB A b t) (hcl : cells + 10 ≤ 600074 ∧ slots + 100 ≤ 7301550) (hP : va_P D vwCl (CW g a c ++ SW g b t) H) (hD : va_D A (CW g a c ++ SW g b t)) (hS : va_S A s.heap H locs) (hl : lv_has ls 31 [(0, .ref sc), (1, .ref (a 0)), (2, .ref (b 0)), (3, .int (zI k)), (4, .int x), (5, .long (digC c)), (7, .int (zI (c.1 3))), (11, .int (zI (paidL c (c.1 3).toNat)))]) (next : ∀ (H : Heap) (locs : List Loc) (ls : Array Slot), va_P D vwCl (CW g a c ++ SW g b t) H → va_D A (CW g a c ++ SW g b t) → va_S A s.heap H locs → lv_has ls 31 [(0, .ref sc), (1, .ref (a 0)), (2, .ref (b 0)), (3, .int (zI k)), (4, .int x), (7, .int (zI (c.1 3)))] → W p l e room_1 s m args below meth co H locs (cells) (slots) Q (F0 m 1186 ls [])) : W p l e room_1 s m args below meth co H locs cells slots Q (F0 m 869 ls []) := by
  have hK := hX.1
  have hs := hT.s
  have hc := hI.s
  have hn := hR.n
  refine z_iconst S dL_law_869 ?_
  refine lv_istore (lv' := [(24, .int (zI 0)), (0, .ref sc), (1, .ref (a 0)), (2, .ref (b 0)), (3, .int (zI k)), (4, .int x), (5, .long (digC c)), (7, .int (zI (c.1 3))), (11, .int (zI (paidL c (c.1 3).toNat)))]) S.1 S.2.1 dL_law_870 hl (by decide) rfl (fun ls hl => ?_)
  refine z_iconst S dL_law_872 ?_
  refine lv_istore (lv' := [(25, .int (zI 0)), (24, .int (zI 0)), (0, .ref sc), (1, .ref (a 0)), (2, .ref (b 0)), (3, .int (zI k)), (4, .int x), (5, .long (digC c)), (7, .int (zI (c.1 3))), (11, .int (zI (paidL c (c.1 3).toNat)))]) S.1 S.2.1 dL_law_873 hl (by decide) rfl (fun ls hl => ?_)
  refine y_for (σ := Unit) (D := D) (A := A) (nL := 31) (H0 := s.heap) ((c.1 5).toNat) (fun (_u : Unit) => s) (fun (k875 : Nat) (_u : Unit) => [(25, .int (zI (k875 : Int))), (24, .int (zI (setD c t k875))), (0, .ref sc), (1, .ref (a 0)), (2, .ref (b 0)), (3, .int (zI k)), (4, .int x), (5, .long (digC c)), (7, .int (zI (c.1 3))), (11, .int (zI (paidL c (c.1 3).toNat)))]) (fun (k875 : Nat) (_u : Unit) => (CW g a c ++ SW g b t)) (fun _ => cells) (fun _ => slots) (fun (k875 : Nat) (_u : Unit) => True) (fun k875 hk875 _u hJ875 H locs hP hD hS ls hl ih875 => ?_) (fun _u hJ875 H locs hP hD hS ls hl => ?_) 0 (by omega) () trivial _ _ hP hD hS ls (lv_sub hl [0, 1, 2, 3, 4, 5, 6, 7, 8, 9] rfl)
  · have hl : lv_has ls 31 [(25, .int (zI (k875 : Int))), (24, .int (zI (setD c t k875))), (0, .ref sc), (1, .ref (a 0)), (2, .ref (b 0)), (3, .int (zI k)), (4, .int x), (5, .long (digC c)), (7, .int (zI (c.1 3))), (11, .int (zI (paidL c (c.1 3).toNat)))] := hl
    have hP : va_P D vwCl (CW g a c ++ SW g b t) H := hP
    have hD : va_D A (CW g a c ++ SW g b t) := hD
    refine lv_iload S.1 S.2.1 dL_law_875 (lv_at hl 0 rfl) ?_
    refine lv_aload_n S.1 S.2.1 dL_law_877 rfl (lv_at hl 3 rfl) ?_
    refine z_iconst S dL_law_878 ?_
    refine z_rV (As := [.int (zI 3)]) (rest := [.int (zI (k875 : Int))]) S (r_X4_count l D g a c hI 3 (by omega)) ml_L_118 im_X4_count se_X4_count ini_X4 cd_X4_count ds_X4_count ⟨Nat.le_of_ble_eq_true rfl, Nat.le_of_ble_eq_true rfl⟩ hK (va_P_l hP) (va_recv hK.1 (va_P_l hP) (ci := 4) (q0 := 0) rfl rfl) rfl hl.1 rfl (Nat.le_of_ble_eq_true rfl) ⟨by show cells ≤ 600074; omega, by show slots ≤ 7301550; omega⟩ dL_law_879 ?_
    refine z_top (c.1 5) (rfl) ?_
    refine z_icmp_ge (tgt := 1167) S dL_law_882 (by decide) (by omega) (fun h_1 => ?_) (fun h_1 => ?_)
    · exact absurd h_1 (by omega)
    · obtain ⟨hp5, hp6, hp4, hp2, hp3, hp2o, hpf, hps⟩ := L_pit hR hI hT (q := (k875 : Int)) (by omega)
      refine lv_aload_n S.1 S.2.1 dL_law_885 rfl (lv_at hl 3 rfl) ?_
      refine lv_iload S.1 S.2.1 dL_law_886 (lv_at hl 0 rfl) ?_
      refine z_iconst S dL_law_888 ?_
      refine z_rV (As := [.int (zI (k875 : Int)), .int (zI 5)]) (rest := []) S (r_X4_about l D g a c hI (k875 : Int) 5 (by omega) (by omega)) ml_L_141 im_X4_about se_X4_about ini_X4 cd_X4_about ds_X4_about ⟨Nat.le_of_ble_eq_true rfl, Nat.le_of_ble_eq_true rfl⟩ hK (va_P_l hP) (va_recv hK.1 (va_P_l hP) (ci := 4) (q0 := 0) rfl rfl) rfl hl.1 rfl (Nat.le_of_ble_eq_true rfl) ⟨by show cells ≤ 600074; omega, by show slots ≤ 7301550; omega⟩ dL_law_889 ?_
      refine lv_aload_n S.1 S.2.1 dL_law_892 rfl (lv_at hl 3 rfl) ?_
      refine lv_iload S.1 S.2.1 dL_law_893 (lv_at hl 0 rfl) ?_
      refine z_bipush S (by decide) dL_law_895 ?_
      refine z_rV (As := [.int (zI (k875 : Int)), .int (zI 6)]) (rest := [.int (zI (pitT c (k875 : Int) 5))]) S (r_X4_about l D g a c hI (k875 : Int) 6 (by omega) (by omega)) ml_L_141 im_X4_about se_X4_about ini_X4 cd_X4_about ds_X4_about ⟨Nat.le_of_ble_eq_true rfl, Nat.le_of_ble_eq_true rfl⟩ hK (va_P_l hP) (va_recv hK.1 (va_P_l hP) (ci := 4) (q0 := 0) rfl rfl) rfl hl.1 rfl (Nat.le_of_ble_eq_true rfl) ⟨by show cells ≤ 600074; omega, by show slots ≤ 7301550; omega⟩ dL_law_897 ?_
      refine z_iadd S dL_law_900 ?_
      refine lv_istore (lv' := [(26, .int (zI ((pitT c (k875 : Int) 5) + (pitT c (k875 : Int) 6)))), (25, .int (zI (k875 : Int))), (24, .int (zI (setD c t k875))), (0, .ref sc), (1, .ref (a 0)), (2, .ref (b 0)), (3, .int (zI k)), (4, .int x), (5, .long (digC c)), (7, .int (zI (c.1 3))), (11, .int (zI (paidL c (c.1 3).toNat)))]) S.1 S.2.1 dL_law_901 hl (by decide) rfl (fun ls hl => ?_)
      refine y_joinV (nL := 31) (fun v => (pitT c (k875 : Int) 4 = 1 ∧ v = 1) ∨ (pitT c (k875 : Int) 4 = 0 ∧ v = 0)) 919 (lv := [(26, .int (zI ((pitT c (k875 : Int) 5) + (pitT c (k875 : Int) 6)))), (25, .int (zI (k875 : Int))), (24, .int (zI (setD c t k875))), (0, .ref sc), (1, .ref (a 0)), (2, .ref (b 0)), (3, .int (zI k)), (4, .int x), (5, .long (digC c)), (7, .int (zI (c.1 3))), (11, .int (zI (paidL c (c.1 3).toNat)))]) [] (fun J919 => ?_) (fun v919 hv919 ls hl => ?_)
      · refine lv_aload_n S.1 S.2.1 dL_law_903 rfl (lv_at hl 4 rfl) ?_
        refine lv_iload S.1 S.2.1 dL_law_904 (lv_at hl 1 rfl) ?_
        refine z_iconst S dL_law_906 ?_
        refine z_rV (As := [.int (zI (k875 : Int)), .int (zI 4)]) (rest := []) S (r_X4_about l D g a c hI (k875 : Int) 4 (by omega) (by omega)) ml_L_141 im_X4_about se_X4_about ini_X4 cd_X4_about ds_X4_about ⟨Nat.le_of_ble_eq_true rfl, Nat.le_of_ble_eq_true rfl⟩ hK (va_P_l hP) (va_recv hK.1 (va_P_l hP) (ci := 4) (q0 := 0) rfl rfl) rfl hl.1 rfl (Nat.le_of_ble_eq_true rfl) ⟨by show cells ≤ 600074; omega, by show slots ≤ 7301550; omega⟩ dL_law_907 ?_
        refine z_iconst S dL_law_910 ?_
        refine z_icmp_ne (tgt := 918) S dL_law_911 (by decide) (by omega) (fun h_2 => ?_) (fun h_2 => ?_)
        · refine z_iconst S dL_law_918 ?_
          exact J919 0 (by omega) ls hl
        · refine z_iconst S dL_law_914 ?_
          refine z_goto (tgt := 919) S dL_law_915 (by decide) ?_
          exact J919 1 (by omega) ls hl
      · have hl : lv_has ls 31 [(26, .int (zI ((pitT c (k875 : Int) 5) + (pitT c (k875 : Int) 6)))), (25, .int (zI (k875 : Int))), (24, .int (zI (setD c t k875))), (0, .ref sc), (1, .ref (a 0)), (2, .ref (b 0)), (3, .int (zI k)), (4, .int x), (5, .long (digC c)), (7, .int (zI (c.1 3))), (11, .int (zI (paidL c (c.1 3).toNat)))] := hl
        have hv919 : (pitT c (k875 : Int) 4 = 1 ∧ v919 = 1) ∨ (pitT c (k875 : Int) 4 = 0 ∧ v919 = 0) := hv919
        refine lv_istore (lv' := [(27, .int (zI v919)), (26, .int (zI ((pitT c (k875 : Int) 5) + (pitT c (k875 : Int) 6)))), (25, .int (zI (k875 : Int))), (24, .int (zI (setD c t k875))), (0, .ref sc), (1, .ref (a 0)), (2, .ref (b 0)), (3, .int (zI k)), (4, .int x), (5, .long (digC c)), (7, .int (zI (c.1 3))), (11, .int (zI (paidL c (c.1 3).toNat)))]) S.1 S.2.1 dL_law_919 hl (by decide) rfl (fun ls hl => ?_)
        refine lv_aload_n S.1 S.2.1 dL_law_921 rfl (lv_at hl 5 rfl) ?_
        refine lv_iload S.1 S.2.1 dL_law_922 (lv_at hl 2 rfl) ?_
        refine z_iconst S dL_law_924 ?_
        refine z_rV (As := [.int (zI (k875 : Int)), .int (zI 2)]) (rest := []) S (r_X4_about l D g a c hI (k875 : Int) 2 (by omega) (by omega)) ml_L_141 im_X4_about se_X4_about ini_X4 cd_X4_about ds_X4_about ⟨Nat.le_of_ble_eq_true rfl, Nat.le_of_ble_eq_true rfl⟩ hK (va_P_l hP) (va_recv hK.1 (va_P_l hP) (ci := 4) (q0 := 0) rfl rfl) rfl hl.1 rfl (Nat.le_of_ble_eq_true rfl) ⟨by show cells ≤ 600074; omega, by show slots ≤ 7301550; omega⟩ dL_law_925 ?_
        refine z_bipush S (by decide) dL_law_928 ?_
        refine z_icmp_gt (tgt := 990) S dL_law_930 (by decide) (by omega) (fun h_3 => ?_) (fun h_3 => ?_)
        · exact absurd h_3 (by omega)
        · refine y_join0 (nL := 31) 949 (lv := [(27, .int (zI v919)), (26, .int (zI ((pitT c (k875 : Int) 5) + (pitT c (k875 : Int) 6)))), (25, .int (zI (k875 : Int))), (24, .int (zI (setD c t k875))), (0, .ref sc), (1, .ref (a 0)), (2, .ref (b 0)), (3, .int (zI k)), (4, .int x), (5, .long (digC c)), (7, .int (zI (c.1 3))), (11, .int (zI (paidL c (c.1 3).toNat)))]) (fun J949 => ?_) (fun ls hl => ?_)
          · refine lv_aload_n S.1 S.2.1 dL_law_933 rfl (lv_at hl 5 rfl) ?_
            refine lv_iload S.1 S.2.1 dL_law_934 (lv_at hl 2 rfl) ?_
            refine z_iconst S dL_law_936 ?_
            refine z_rV (As := [.int (zI (k875 : Int)), .int (zI 3)]) (rest := []) S (r_X4_about l D g a c hI (k875 : Int) 3 (by omega) (by omega)) ml_L_141 im_X4_about se_X4_about ini_X4 cd_X4_about ds_X4_about ⟨Nat.le_of_ble_eq_true rfl, Nat.le_of_ble_eq_true rfl⟩ hK (va_P_l hP) (va_recv hK.1 (va_P_l hP) (ci := 4) (q0 := 0) rfl rfl) rfl hl.1 rfl (Nat.le_of_ble_eq_true rfl) ⟨by show cells ≤ 600074; omega, by show slots ≤ 7301550; omega⟩ dL_law_937 ?_
            refine z_iconst S dL_law_940 ?_
            refine z_icmp_ne (tgt := 949) S dL_law_941 (by decide) (by omega) (fun h_4 => ?_) (fun h_4 => ?_)
            · exact J949 ls hl
            · refine lv_iload S.1 S.2.1 dL_law_944 (lv_at hl 0 rfl) ?_
              refine z_if_eq (tgt := 990) S dL_law_946 (by decide) (by omega) (fun h_5 => ?_) (fun h_5 => ?_)
              · exact absurd h_5 (by omega)
              · exact J949 ls hl
          · have hl : lv_has ls 31 [(27, .int (zI v919)), (26, .int (zI ((pitT c (k875 : Int) 5) + (pitT c (k875 : Int) 6)))), (25, .int (zI (k875 : Int))), (24, .int (zI (setD c t k875))), (0, .ref sc), (1, .ref (a 0)), (2, .ref (b 0)), (3, .int (zI k)), (4, .int x), (5, .long (digC c)), (7, .int (zI (c.1 3))), (11, .int (zI (paidL c (c.1 3).toNat)))] := hl
            refine y_join0 (nL := 31) 966 (lv := [(27, .int (zI v919)), (26, .int (zI ((pitT c (k875 : Int) 5) + (pitT c (k875 : Int) 6)))), (25, .int (zI (k875 : Int))), (24, .int (zI (setD c t k875))), (0, .ref sc), (1, .ref (a 0)), (2, .ref (b 0)), (3, .int (zI k)), (4, .int x), (5, .long (digC c)), (7, .int (zI (c.1 3))), (11, .int (zI (paidL c (c.1 3).toNat)))]) (fun J966 => ?_) (fun ls hl => ?_)
            · refine lv_aload_n S.1 S.2.1 dL_law_949 rfl (lv_at hl 5 rfl) ?_
              refine lv_iload S.1 S.2.1 dL_law_950 (lv_at hl 2 rfl) ?_
              refine z_iconst S dL_law_952 ?_
              refine z_rV (As := [.int (zI (k875 : Int)), .int (zI 2)]) (rest := []) S (r_X4_about l D g a c hI (k875 : Int) 2 (by omega) (by omega)) ml_L_141 im_X4_about se_X4_about ini_X4 cd_X4_about ds_X4_about ⟨Nat.le_of_ble_eq_true rfl, Nat.le_of_ble_eq_true rfl⟩ hK (va_P_l hP) (va_recv hK.1 (va_P_l hP) (ci := 4) (q0 := 0) rfl rfl) rfl hl.1 rfl (Nat.le_of_ble_eq_true rfl) ⟨by show cells ≤ 600074; omega, by show slots ≤ 7301550; omega⟩ dL_law_953 ?_
              refine z_bipush S (by decide) dL_law_956 ?_
              refine z_icmp_ne (tgt := 966) S dL_law_958 (by decide) (by omega) (fun h_6 => ?_) (fun h_6 => ?_)
              · exact J966 ls hl
              · refine lv_iload S.1 S.2.1 dL_law_961 (lv_at hl 0 rfl) ?_
                refine z_if_eq (tgt := 990) S dL_law_963 (by decide) (by omega) (fun h_7 => ?_) (fun h_7 => ?_)
                · exact absurd h_7 (by omega)
                · exact J966 ls hl
            · have hl : lv_has ls 31 [(27, .int (zI v919)), (26, .int (zI ((pitT c (k875 : Int) 5) + (pitT c (k875 : Int) 6)))), (25, .int (zI (k875 : Int))), (24, .int (zI (setD c t k875))), (0, .ref sc), (1, .ref (a 0)), (2, .ref (b 0)), (3, .int (zI k)), (4, .int x), (5, .long (digC c)), (7, .int (zI (c.1 3))), (11, .int (zI (paidL c (c.1 3).toNat)))] := hl
              refine lv_aload_n S.1 S.2.1 dL_law_966 rfl (lv_at hl 5 rfl) ?_
              refine lv_aload_n S.1 S.2.1 dL_law_967 rfl (lv_at hl 5 rfl) ?_
              refine lv_iload S.1 S.2.1 dL_law_968 (lv_at hl 2 rfl) ?_
              refine z_iconst S dL_law_970 ?_
              refine z_rV (As := [.int (zI (k875 : Int)), .int (zI 0)]) (rest := [.ref (a 0)]) S (r_X4_about l D g a c hI (k875 : Int) 0 (by omega) (by omega)) ml_L_141 im_X4_about se_X4_about ini_X4 cd_X4_about ds_X4_about ⟨Nat.le_of_ble_eq_true rfl, Nat.le_of_ble_eq_true rfl⟩ hK (va_P_l hP) (va_recv hK.1 (va_P_l hP) (ci := 4) (q0 := 0) rfl rfl) rfl hl.1 rfl (Nat.le_of_ble_eq_true rfl) ⟨by show cells ≤ 600074; omega, by show slots ≤ 7301550; omega⟩ dL_law_971 ?_
              refine lv_aload_n S.1 S.2.1 dL_law_974 rfl (lv_at hl 5 rfl) ?_
              refine lv_iload S.1 S.2.1 dL_law_975 (lv_at hl 2 rfl) ?_
              refine z_iconst S dL_law_977 ?_
              refine z_rV (As := [.int (zI (k875 : Int)), .int (zI 1)]) (rest := [.int (zI (pitT c (k875 : Int) 0)), .ref (a 0)]) S (r_X4_about l D g a c hI (k875 : Int) 1 (by omega) (by omega)) ml_L_141 im_X4_about se_X4_about ini_X4 cd_X4_about ds_X4_about ⟨Nat.le_of_ble_eq_true rfl, Nat.le_of_ble_eq_true rfl⟩ hK (va_P_l hP) (va_recv hK.1 (va_P_l hP) (ci := 4) (q0 := 0) rfl rfl) rfl hl.1 rfl (Nat.le_of_ble_eq_true rfl) ⟨by show cells ≤ 600074; omega, by show slots ≤ 7301550; omega⟩ dL_law_978 ?_
              refine z_iconst S dL_law_981 ?_
              refine z_rV (As := [.int (zI (pitT c (k875 : Int) 0)), .int (zI (pitT c (k875 : Int) 1)), .int (zI 3)]) (rest := []) S (r_X4_spot l D g a c hI (pitT c (k875 : Int) 0) (pitT c (k875 : Int) 1) 3 (by omega) (by omega)) ml_L_124 im_X4_spot se_X4_spot ini_X4 cd_X4_spot ds_X4_spot ⟨Nat.le_of_ble_eq_true rfl, Nat.le_of_ble_eq_true rfl⟩ hK (va_P_l hP) (va_recv hK.1 (va_P_l hP) (ci := 4) (q0 := 0) rfl rfl) rfl hl.1 rfl (Nat.le_of_ble_eq_true rfl) ⟨by show cells ≤ 600074; omega, by show slots ≤ 7301550; omega⟩ dL_law_982 ?_
              refine lv_iload S.1 S.2.1 dL_law_985 (lv_at hl 2 rfl) ?_
              refine z_icmp_eq (tgt := 992) S dL_law_987 (by decide) (by omega) (fun h_8 => ?_) (fun h_8 => ?_)
              · refine z_iconst S dL_law_992 ?_
                refine lv_istore (lv' := [(28, .int (zI 0)), (27, .int (zI v919)), (26, .int (zI ((pitT c (k875 : Int) 5) + (pitT c (k875 : Int) 6)))), (25, .int (zI (k875 : Int))), (24, .int (zI (setD c t k875))), (0, .ref sc), (1, .ref (a 0)), (2, .ref (b 0)), (3, .int (zI k)), (4, .int x), (5, .long (digC c)), (7, .int (zI (c.1 3))), (11, .int (zI (paidL c (c.1 3).toNat)))]) S.1 S.2.1 dL_law_993 hl (by decide) rfl (fun ls hl => ?_)
                refine z_iconst S dL_law_995 ?_
                refine lv_istore (lv' := [(29, .int (zI 0)), (28, .int (zI 0)), (27, .int (zI v919)), (26, .int (zI ((pitT c (k875 : Int) 5) + (pitT c (k875 : Int) 6)))), (25, .int (zI (k875 : Int))), (24, .int (zI (setD c t k875))), (0, .ref sc), (1, .ref (a 0)), (2, .ref (b 0)), (3, .int (zI k)), (4, .int x), (5, .long (digC c)), (7, .int (zI (c.1 3))), (11, .int (zI (paidL c (c.1 3).toNat)))]) S.1 S.2.1 dL_law_996 hl (by decide) rfl (fun ls hl => ?_)
                refine z_iconst S dL_law_998 ?_
                refine lv_istore (lv' := [(30, .int (zI 0)), (29, .int (zI 0)), (28, .int (zI 0)), (27, .int (zI v919)), (26, .int (zI ((pitT c (k875 : Int) 5) + (pitT c (k875 : Int) 6)))), (25, .int (zI (k875 : Int))), (24, .int (zI (setD c t k875))), (0, .ref sc), (1, .ref (a 0)), (2, .ref (b 0)), (3, .int (zI k)), (4, .int x), (5, .long (digC c)), (7, .int (zI (c.1 3))), (11, .int (zI (paidL c (c.1 3).toNat)))]) S.1 S.2.1 dL_law_999 hl (by decide) rfl (fun ls hl => ?_)
                refine y_for (σ := Unit) (D := D) (A := A) (nL := 31) (H0 := s.heap) ((c.1 3).toNat) (fun (_u : Unit) => s) (fun (k1001 : Nat) (_u : Unit) => [(30, .int (zI (k1001 : Int))), (29, .int (zI (wouS c (k875 : Int) 0 k1001))), (28, .int (zI (wouS c (k875 : Int) 1 k1001))), (27, .int (zI v919)), (26, .int (zI ((pitT c (k875 : Int) 5) + (pitT c (k875 : Int) 6)))), (25, .int (zI (k875 : Int))), (24, .int (zI (stI c t (setD c t k875) (k875 : Int) k1001))), (0, .ref sc), (1, .ref (a 0)), (2, .ref (b 0)), (3, .int (zI k)), (4, .int x), (5, .long (digC c)), (7, .int (zI (c.1 3))), (11, .int (zI (paidL c (c.1 3).toNat)))]) (fun (k1001 : Nat) (_u : Unit) => (CW g a c ++ SW g b t)) (fun _ => cells) (fun _ => slots) (fun (k1001 : Nat) (_u : Unit) => True) (fun k1001 hk1001 _u hJ1001 H locs hP hD hS ls hl ih1001 => ?_) (fun _u hJ1001 H locs hP hD hS ls hl => ?_) 0 (by omega) () trivial _ _ hP hD hS ls (lv_sub hl [0, 1, 2, 3, 4, 5, 6, 7, 8, 9, 10, 11, 12, 13, 14] rfl)
                · have hl : lv_has ls 31 [(30, .int (zI (k1001 : Int))), (29, .int (zI (wouS c (k875 : Int) 0 k1001))), (28, .int (zI (wouS c (k875 : Int) 1 k1001))), (27, .int (zI v919)), (26, .int (zI ((pitT c (k875 : Int) 5) + (pitT c (k875 : Int) 6)))), (25, .int (zI (k875 : Int))), (24, .int (zI (stI c t (setD c t k875) (k875 : Int) k1001))), (0, .ref sc), (1, .ref (a 0)), (2, .ref (b 0)), (3, .int (zI k)), (4, .int x), (5, .long (digC c)), (7, .int (zI (c.1 3))), (11, .int (zI (paidL c (c.1 3).toNat)))] := hl
                  have hP : va_P D vwCl (CW g a c ++ SW g b t) H := hP
                  have hD : va_D A (CW g a c ++ SW g b t) := hD
                  refine lv_iload S.1 S.2.1 dL_law_1001 (lv_at hl 0 rfl) ?_
                  refine lv_iload S.1 S.2.1 dL_law_1003 (lv_at hl 13 rfl) ?_
                  refine z_icmp_ge (tgt := 1072) S dL_law_1005 (by decide) (by omega) (fun h_9 => ?_) (fun h_9 => ?_)
                  · exact absurd h_9 (by omega)
                  · refine lv_iload S.1 S.2.1 dL_law_1008 (lv_at hl 2 rfl) ?_
                    refine lv_aload_n S.1 S.2.1 dL_law_1010 rfl (lv_at hl 8 rfl) ?_
                    refine lv_iload S.1 S.2.1 dL_law_1011 (lv_at hl 5 rfl) ?_
                    refine lv_iload S.1 S.2.1 dL_law_1013 (lv_at hl 0 rfl) ?_
                    refine z_iconst S dL_law_1015 ?_
                    refine z_rV (As := [.int (zI (k875 : Int)), .int (zI (k1001 : Int)), .int (zI 1)]) (rest := [.int (zI (wouS c (k875 : Int) 1 k1001))]) S (r_X4_would l D g a c hI (k875 : Int) (k1001 : Int) 1 (by omega) (by omega) (by omega)) ml_L_144 im_X4_would se_X4_would ini_X4 cd_X4_would ds_X4_would ⟨Nat.le_of_ble_eq_true rfl, Nat.le_of_ble_eq_true rfl⟩ hK (va_P_l hP) (va_recv hK.1 (va_P_l hP) (ci := 4) (q0 := 0) rfl rfl) rfl hl.1 rfl (Nat.le_of_ble_eq_true rfl) ⟨by show cells ≤ 600074; omega, by show slots ≤ 7301550; omega⟩ dL_law_1016 ?_
                    refine z_iadd S dL_law_1019 ?_
                    refine lv_istore (lv' := [(28, .int (zI ((wouS c (k875 : Int) 1 k1001) + (wouldT c (k875 : Int) (k1001 : Int) 1)))), (30, .int (zI (k1001 : Int))), (29, .int (zI (wouS c (k875 : Int) 0 k1001))), (27, .int (zI v919)), (26, .int (zI ((pitT c (k875 : Int) 5) + (pitT c (k875 : Int) 6)))), (25, .int (zI (k875 : Int))), (24, .int (zI (stI c t (setD c t k875) (k875 : Int) k1001))), (0, .ref sc), (1, .ref (a 0)), (2, .ref (b 0)), (3, .int (zI k)), (4, .int x), (5, .long (digC c)), (7, .int (zI (c.1 3))), (11, .int (zI (paidL c (c.1 3).toNat)))]) S.1 S.2.1 dL_law_1020 hl (by decide) rfl (fun ls hl => ?_)
                    refine lv_iload S.1 S.2.1 dL_law_1022 (lv_at hl 2 rfl) ?_
                    refine lv_aload_n S.1 S.2.1 dL_law_1024 rfl (lv_at hl 8 rfl) ?_
                    refine lv_iload S.1 S.2.1 dL_law_1025 (lv_at hl 5 rfl) ?_
                    refine lv_iload S.1 S.2.1 dL_law_1027 (lv_at hl 1 rfl) ?_
                    refine z_iconst S dL_law_1029 ?_
                    refine z_rV (As := [.int (zI (k875 : Int)), .int (zI (k1001 : Int)), .int (zI 0)]) (rest := [.int (zI (wouS c (k875 : Int) 0 k1001))]) S (r_X4_would l D g a c hI (k875 : Int) (k1001 : Int) 0 (by omega) (by omega) (by omega)) ml_L_144 im_X4_would se_X4_would ini_X4 cd_X4_would ds_X4_would ⟨Nat.le_of_ble_eq_true rfl, Nat.le_of_ble_eq_true rfl⟩ hK (va_P_l hP) (va_recv hK.1 (va_P_l hP) (ci := 4) (q0 := 0) rfl rfl) rfl hl.1 rfl (Nat.le_of_ble_eq_true rfl) ⟨by show cells ≤ 600074; omega, by show slots ≤ 7301550; omega⟩ dL_law_1030 ?_
                    refine z_iadd S dL_law_1033 ?_
                    refine lv_istore (lv' := [(29, .int (zI ((wouS c (k875 : Int) 0 k1001) + (wouldT c (k875 : Int) (k1001 : Int) 0)))), (28, .int (zI ((wouS c (k875 : Int) 1 k1001) + (wouldT c (k875 : Int) (k1001 : Int) 1)))), (30, .int (zI (k1001 : Int))), (27, .int (zI v919)), (26, .int (zI ((pitT c (k875 : Int) 5) + (pitT c (k875 : Int) 6)))), (25, .int (zI (k875 : Int))), (24, .int (zI (stI c t (setD c t k875) (k875 : Int) k1001))), (0, .ref sc), (1, .ref (a 0)), (2, .ref (b 0)), (3, .int (zI k)), (4, .int x), (5, .long (digC c)), (7, .int (zI (c.1 3))), (11, .int (zI (paidL c (c.1 3).toNat)))]) S.1 S.2.1 dL_law_1034 hl (by decide) rfl (fun ls hl => ?_)
                    refine lv_iload S.1 S.2.1 dL_law_1036 (lv_at hl 6 rfl) ?_
                    refine y_joinV (nL := 31) (fun v => v = b01 (pitT c (k875 : Int) 4 = 1 ∧ t.2 3 (k875 : Int) (4 + (k1001 : Int)) ≠ 0)) 1063 (lv := [(29, .int (zI ((wouS c (k875 : Int) 0 k1001) + (wouldT c (k875 : Int) (k1001 : Int) 0)))), (28, .int (zI ((wouS c (k875 : Int) 1 k1001) + (wouldT c (k875 : Int) (k1001 : Int) 1)))), (30, .int (zI (k1001 : Int))), (27, .int (zI v919)), (26, .int (zI ((pitT c (k875 : Int) 5) + (pitT c (k875 : Int) 6)))), (25, .int (zI (k875 : Int))), (24, .int (zI (stI c t (setD c t k875) (k875 : Int) k1001))), (0, .ref sc), (1, .ref (a 0)), (2, .ref (b 0)), (3, .int (zI k)), (4, .int x), (5, .long (digC c)), (7, .int (zI (c.1 3))), (11, .int (zI (paidL c (c.1 3).toNat)))]) [.int (zI (stI c t (setD c t k875) (k875 : Int) k1001))] (fun J1063 => ?_) (fun v1063 hv1063 ls hl => ?_)
                    · refine lv_iload S.1 S.2.1 dL_law_1038 (lv_at hl 3 rfl) ?_
                      refine z_if_eq (tgt := 1062) S dL_law_1040 (by decide) (by omega) (fun h_10 => ?_) (fun h_10 => ?_)
                      · refine z_iconst S dL_law_1062 ?_
                        exact J1063 0 (b01_is (by omega)) ls hl
                      · refine lv_aload_n S.1 S.2.1 dL_law_1043 rfl (lv_at hl 9 rfl) ?_
                        refine z_get (v := .ref (b 4)) S inA5 hK hP 21 rfl rfl 5 (by decide) fl_L_66 rfl dL_law_1044 ?_
                        refine lv_iload S.1 S.2.1 dL_law_1047 (lv_at hl 5 rfl) ?_
                        refine y_ald2 S hK hP 25 rfl (Nat.le_refl _) (by show (t.1 5).toNat < _; omega) (by show _ ∧ _ < (((t.1 5).toNat : Nat) : Int); omega) dL_law_1049 ?_
                        have hb_11 := hT.q (i := (k875 : Int)) (by omega)
                        have hqb9 := (hT.q (i := (k875 : Int)) (by omega)).b (d := 4 + (k1001 : Int)) (by omega)
                        refine z_iconst S dL_law_1050 ?_
                        refine lv_iload S.1 S.2.1 dL_law_1051 (lv_at hl 2 rfl) ?_
                        refine z_iadd S dL_law_1053 ?_
                        refine z_iald (F := t.2 3 (k875 : Int)) S hK hP (21 + (5 + (sn t 0 + (sn t 1 + (sn t 2 + ((k875 : Int)).toNat))))) ((ap_at1 (a := CW g a c) rfl).trans (SW_r3 (b := b) (t := t) (i := (k875 : Int)) (by show _ ∧ _ < t.1 5; omega))) (by decide) (by omega) dL_law_1054 ?_
                        refine z_if_eq (tgt := 1062) S dL_law_1055 (by decide) (by omega) (fun h_12 => ?_) (fun h_12 => ?_)
                        · refine z_iconst S dL_law_1062 ?_
                          exact J1063 0 (b01_is (by omega)) ls hl
                        · refine z_iconst S dL_law_1058 ?_
                          refine z_goto (tgt := 1063) S dL_law_1059 (by decide) ?_
                          exact J1063 1 (b01_is (by omega)) ls hl
                    · have hl : lv_has ls 31 [(29, .int (zI ((wouS c (k875 : Int) 0 k1001) + (wouldT c (k875 : Int) (k1001 : Int) 0)))), (28, .int (zI ((wouS c (k875 : Int) 1 k1001) + (wouldT c (k875 : Int) (k1001 : Int) 1)))), (30, .int (zI (k1001 : Int))), (27, .int (zI v919)), (26, .int (zI ((pitT c (k875 : Int) 5) + (pitT c (k875 : Int) 6)))), (25, .int (zI (k875 : Int))), (24, .int (zI (stI c t (setD c t k875) (k875 : Int) k1001))), (0, .ref sc), (1, .ref (a 0)), (2, .ref (b 0)), (3, .int (zI k)), (4, .int x), (5, .long (digC c)), (7, .int (zI (c.1 3))), (11, .int (zI (paidL c (c.1 3).toNat)))] := hl
                      have hv1063 : v1063 = b01 (pitT c (k875 : Int) 4 = 1 ∧ t.2 3 (k875 : Int) (4 + (k1001 : Int)) ≠ 0) := hv1063
                      refine z_iadd S dL_law_1063 ?_
                      refine lv_istore (lv' := [(24, .int (zI ((stI c t (setD c t k875) (k875 : Int) k1001) + v1063))), (29, .int (zI ((wouS c (k875 : Int) 0 k1001) + (wouldT c (k875 : Int) (k1001 : Int) 0)))), (28, .int (zI ((wouS c (k875 : Int) 1 k1001) + (wouldT c (k875 : Int) (k1001 : Int) 1)))), (30, .int (zI (k1001 : Int))), (27, .int (zI v919)), (26, .int (zI ((pitT c (k875 : Int) 5) + (pitT c (k875 : Int) 6)))), (25, .int (zI (k875 : Int))), (0, .ref sc), (1, .ref (a 0)), (2, .ref (b 0)), (3, .int (zI k)), (4, .int x), (5, .long (digC c)), (7, .int (zI (c.1 3))), (11, .int (zI (paidL c (c.1 3).toNat)))]) S.1 S.2.1 dL_law_1064 hl (by decide) rfl (fun ls hl => ?_)
                      refine z_iinc (lv' := [(30, .int (zI ((k1001 : Int) + 1))), (24, .int (zI ((stI c t (setD c t k875) (k875 : Int) k1001) + v1063))), (29, .int (zI ((wouS c (k875 : Int) 0 k1001) + (wouldT c (k875 : Int) (k1001 : Int) 0)))), (28, .int (zI ((wouS c (k875 : Int) 1 k1001) + (wouldT c (k875 : Int) (k1001 : Int) 1)))), (27, .int (zI v919)), (26, .int (zI ((pitT c (k875 : Int) 5) + (pitT c (k875 : Int) 6)))), (25, .int (zI (k875 : Int))), (0, .ref sc), (1, .ref (a 0)), (2, .ref (b 0)), (3, .int (zI k)), (4, .int x), (5, .long (digC c)), (7, .int (zI (c.1 3))), (11, .int (zI (paidL c (c.1 3).toNat)))]) S dL_law_1066 hl (k := 3) rfl (by decide) rfl (fun ls hl => ?_)
                      refine z_goto (tgt := 1001) S dL_law_1069 (by decide) ?_
                      have e_13 : stI c t (setD c t k875) (k875 : Int) (k1001 + 1) = (stI c t (setD c t k875) (k875 : Int) k1001) + v1063 := by rw [hv1063]; rfl
                      exact ih1001 () trivial _ _ hP hD hS _ (lv_sub hl [0, 2, 3, 4, 5, 6, 1, 7, 8, 9, 10, 11, 12, 13, 14] (by show _ = ([(30, .int (zI ((k1001 + 1 : Nat) : Int))), (29, .int (zI (wouS c (k875 : Int) 0 (k1001 + 1)))), (28, .int (zI (wouS c (k875 : Int) 1 (k1001 + 1)))), (27, .int (zI v919)), (26, .int (zI ((pitT c (k875 : Int) 5) + (pitT c (k875 : Int) 6)))), (25, .int (zI (k875 : Int))), (24, .int (zI (stI c t (setD c t k875) (k875 : Int) (k1001 + 1)))), (0, .ref sc), (1, .ref (a 0)), (2, .ref (b 0)), (3, .int (zI k)), (4, .int x), (5, .long (digC c)), (7, .int (zI (c.1 3))), (11, .int (zI (paidL c (c.1 3).toNat)))] : List (Nat × Value)); rw [e_13]; first | done | rfl))
                · have hl : lv_has ls 31 [(30, .int (zI (((c.1 3).toNat : Nat) : Int))), (29, .int (zI (wouS c (k875 : Int) 0 ((c.1 3).toNat)))), (28, .int (zI (wouS c (k875 : Int) 1 ((c.1 3).toNat)))), (27, .int (zI v919)), (26, .int (zI ((pitT c (k875 : Int) 5) + (pitT c (k875 : Int) 6)))), (25, .int (zI (k875 : Int))), (24, .int (zI (stI c t (setD c t k875) (k875 : Int) ((c.1 3).toNat)))), (0, .ref sc), (1, .ref (a 0)), (2, .ref (b 0)), (3, .int (zI k)), (4, .int x), (5, .long (digC c)), (7, .int (zI (c.1 3))), (11, .int (zI (paidL c (c.1 3).toNat)))] := hl
                  have hP : va_P D vwCl (CW g a c ++ SW g b t) H := hP
                  have hD : va_D A (CW g a c ++ SW g b t) := hD
                  refine lv_iload S.1 S.2.1 dL_law_1001 (lv_at hl 0 rfl) ?_
                  refine lv_iload S.1 S.2.1 dL_law_1003 (lv_at hl 13 rfl) ?_
                  refine z_icmp_ge (tgt := 1072) S dL_law_1005 (by decide) (by omega) (fun h_14 => ?_) (fun h_14 => ?_)
                  · have hwo := L_wou hR hI hT (q := (k875 : Int)) (by omega)
                    refine lv_iload S.1 S.2.1 dL_law_1072 (lv_at hl 3 rfl) ?_
                    refine z_if_eq (tgt := 1088) S dL_law_1074 (by decide) (by omega) (fun h_15 => ?_) (fun h_15 => ?_)
                    · refine lv_iload S.1 S.2.1 dL_law_1088 (lv_at hl 2 rfl) ?_
                      refine lv_iload S.1 S.2.1 dL_law_1090 (lv_at hl 4 rfl) ?_
                      refine z_icmp_gt (tgt := 1159) S dL_law_1092 (by decide) (by omega) (fun h_16 => ?_) (fun h_16 => ?_)
                      · exact absurd h_16 (by omega)
                      · refine lv_iload S.1 S.2.1 dL_law_1095 (lv_at hl 1 rfl) ?_
                        refine lv_iload S.1 S.2.1 dL_law_1097 (lv_at hl 4 rfl) ?_
                        refine z_icmp_gt (tgt := 1159) S dL_law_1099 (by decide) (by omega) (fun h_17 => ?_) (fun h_17 => ?_)
                        · exact absurd h_17 (by omega)
                        · refine y_joinV (nL := 31) (fun v => ((wouS c (k875 : Int) 1 ((c.1 3).toNat)) = 0 ∧ v = 1) ∨ ((wouS c (k875 : Int) 1 ((c.1 3).toNat)) ≠ 0 ∧ v = 0)) 1112 (lv := [(30, .int (zI (((c.1 3).toNat : Nat) : Int))), (29, .int (zI (wouS c (k875 : Int) 0 ((c.1 3).toNat)))), (28, .int (zI (wouS c (k875 : Int) 1 ((c.1 3).toNat)))), (27, .int (zI v919)), (26, .int (zI ((pitT c (k875 : Int) 5) + (pitT c (k875 : Int) 6)))), (25, .int (zI (k875 : Int))), (24, .int (zI (stI c t (setD c t k875) (k875 : Int) ((c.1 3).toNat)))), (0, .ref sc), (1, .ref (a 0)), (2, .ref (b 0)), (3, .int (zI k)), (4, .int x), (5, .long (digC c)), (7, .int (zI (c.1 3))), (11, .int (zI (paidL c (c.1 3).toNat)))]) [] (fun J1112 => ?_) (fun v1112 hv1112 ls hl => ?_)
                          · refine lv_iload S.1 S.2.1 dL_law_1102 (lv_at hl 2 rfl) ?_
                            refine z_if_ne (tgt := 1111) S dL_law_1104 (by decide) (by omega) (fun h_18 => ?_) (fun h_18 => ?_)
                            · refine z_iconst S dL_law_1111 ?_
                              exact J1112 0 (by omega) ls hl
                            · refine z_iconst S dL_law_1107 ?_
                              refine z_goto (tgt := 1112) S dL_law_1108 (by decide) ?_
                              exact J1112 1 (by omega) ls hl
                          · have hl : lv_has ls 31 [(30, .int (zI (((c.1 3).toNat : Nat) : Int))), (29, .int (zI (wouS c (k875 : Int) 0 ((c.1 3).toNat)))), (28, .int (zI (wouS c (k875 : Int) 1 ((c.1 3).toNat)))), (27, .int (zI v919)), (26, .int (zI ((pitT c (k875 : Int) 5) + (pitT c (k875 : Int) 6)))), (25, .int (zI (k875 : Int))), (24, .int (zI (stI c t (setD c t k875) (k875 : Int) ((c.1 3).toNat)))), (0, .ref sc), (1, .ref (a 0)), (2, .ref (b 0)), (3, .int (zI k)), (4, .int x), (5, .long (digC c)), (7, .int (zI (c.1 3))), (11, .int (zI (paidL c (c.1 3).toNat)))] := hl
                            have hv1112 : ((wouS c (k875 : Int) 1 ((c.1 3).toNat)) = 0 ∧ v1112 = 1) ∨ ((wouS c (k875 : Int) 1 ((c.1 3).toNat)) ≠ 0 ∧ v1112 = 0) := hv1112
                            refine y_joinV (nL := 31) (fun v => (pitT c (k875 : Int) 5 = 0 ∧ v = 1) ∨ (pitT c (k875 : Int) 5 ≠ 0 ∧ v = 0)) 1127 (lv := [(30, .int (zI (((c.1 3).toNat : Nat) : Int))), (29, .int (zI (wouS c (k875 : Int) 0 ((c.1 3).toNat)))), (28, .int (zI (wouS c (k875 : Int) 1 ((c.1 3).toNat)))), (27, .int (zI v919)), (26, .int (zI ((pitT c (k875 : Int) 5) + (pitT c (k875 : Int) 6)))), (25, .int (zI (k875 : Int))), (24, .int (zI (stI c t (setD c t k875) (k875 : Int) ((c.1 3).toNat)))), (0, .ref sc), (1, .ref (a 0)), (2, .ref (b 0)), (3, .int (zI k)), (4, .int x), (5, .long (digC c)), (7, .int (zI (c.1 3))), (11, .int (zI (paidL c (c.1 3).toNat)))]) [.int (zI v1112)] (fun J1127 => ?_) (fun v1127 hv1127 ls hl => ?_)
                            · refine lv_aload_n S.1 S.2.1 dL_law_1112 rfl (lv_at hl 8 rfl) ?_
                              refine lv_iload S.1 S.2.1 dL_law_1113 (lv_at hl 5 rfl) ?_
                              refine z_iconst S dL_law_1115 ?_
                              refine z_rV (As := [.int (zI (k875 : Int)), .int (zI 5)]) (rest := [.int (zI v1112)]) S (r_X4_about l D g a c hI (k875 : Int) 5 (by omega) (by omega)) ml_L_141 im_X4_about se_X4_about ini_X4 cd_X4_about ds_X4_about ⟨Nat.le_of_ble_eq_true rfl, Nat.le_of_ble_eq_true rfl⟩ hK (va_P_l hP) (va_recv hK.1 (va_P_l hP) (ci := 4) (q0 := 0) rfl rfl) rfl hl.1 rfl (Nat.le_of_ble_eq_true rfl) ⟨by show cells ≤ 600074; omega, by show slots ≤ 7301550; omega⟩ dL_law_1116 ?_
                              refine z_if_ne (tgt := 1126) S dL_law_1119 (by decide) (by omega) (fun h_19 => ?_) (fun h_19 => ?_)
                              · refine z_iconst S dL_law_1126 ?_
                                exact J1127 0 (by omega) ls hl
                              · refine z_iconst S dL_law_1122 ?_
                                refine z_goto (tgt := 1127) S dL_law_1123 (by decide) ?_
                                exact J1127 1 (by omega) ls hl
                            · have hl : lv_has ls 31 [(30, .int (zI (((c.1 3).toNat : Nat) : Int))), (29, .int (zI (wouS c (k875 : Int) 0 ((c.1 3).toNat)))), (28, .int (zI (wouS c (k875 : Int) 1 ((c.1 3).toNat)))), (27, .int (zI v919)), (26, .int (zI ((pitT c (k875 : Int) 5) + (pitT c (k875 : Int) 6)))), (25, .int (zI (k875 : Int))), (24, .int (zI (stI c t (setD c t k875) (k875 : Int) ((c.1 3).toNat)))), (0, .ref sc), (1, .ref (a 0)), (2, .ref (b 0)), (3, .int (zI k)), (4, .int x), (5, .long (digC c)), (7, .int (zI (c.1 3))), (11, .int (zI (paidL c (c.1 3).toNat)))] := hl
                              have hv1127 : (pitT c (k875 : Int) 5 = 0 ∧ v1127 = 1) ∨ (pitT c (k875 : Int) 5 ≠ 0 ∧ v1127 = 0) := hv1127
                              refine z_icmp_ne (tgt := 1159) S dL_law_1127 (by decide) (by omega) (fun h_20 => ?_) (fun h_20 => ?_)
                              · exact absurd h_20 (by omega)
                              · refine y_joinV (nL := 31) (fun v => ((wouS c (k875 : Int) 0 ((c.1 3).toNat)) = 0 ∧ v = 1) ∨ ((wouS c (k875 : Int) 0 ((c.1 3).toNat)) ≠ 0 ∧ v = 0)) 1140 (lv := [(30, .int (zI (((c.1 3).toNat : Nat) : Int))), (29, .int (zI (wouS c (k875 : Int) 0 ((c.1 3).toNat)))), (28, .int (zI (wouS c (k875 : Int) 1 ((c.1 3).toNat)))), (27, .int (zI v919)), (26, .int (zI ((pitT c (k875 : Int) 5) + (pitT c (k875 : Int) 6)))), (25, .int (zI (k875 : Int))), (24, .int (zI (stI c t (setD c t k875) (k875 : Int) ((c.1 3).toNat)))), (0, .ref sc), (1, .ref (a 0)), (2, .ref (b 0)), (3, .int (zI k)), (4, .int x), (5, .long (digC c)), (7, .int (zI (c.1 3))), (11, .int (zI (paidL c (c.1 3).toNat)))]) [] (fun J1140 => ?_) (fun v1140 hv1140 ls hl => ?_)
                                · refine lv_iload S.1 S.2.1 dL_law_1130 (lv_at hl 1 rfl) ?_
                                  refine z_if_ne (tgt := 1139) S dL_law_1132 (by decide) (by omega) (fun h_21 => ?_) (fun h_21 => ?_)
                                  · refine z_iconst S dL_law_1139 ?_
                                    exact J1140 0 (by omega) ls hl
                                  · refine z_iconst S dL_law_1135 ?_
                                    refine z_goto (tgt := 1140) S dL_law_1136 (by decide) ?_
                                    exact J1140 1 (by omega) ls hl
                                · have hl : lv_has ls 31 [(30, .int (zI (((c.1 3).toNat : Nat) : Int))), (29, .int (zI (wouS c (k875 : Int) 0 ((c.1 3).toNat)))), (28, .int (zI (wouS c (k875 : Int) 1 ((c.1 3).toNat)))), (27, .int (zI v919)), (26, .int (zI ((pitT c (k875 : Int) 5) + (pitT c (k875 : Int) 6)))), (25, .int (zI (k875 : Int))), (24, .int (zI (stI c t (setD c t k875) (k875 : Int) ((c.1 3).toNat)))), (0, .ref sc), (1, .ref (a 0)), (2, .ref (b 0)), (3, .int (zI k)), (4, .int x), (5, .long (digC c)), (7, .int (zI (c.1 3))), (11, .int (zI (paidL c (c.1 3).toNat)))] := hl
                                  have hv1140 : ((wouS c (k875 : Int) 0 ((c.1 3).toNat)) = 0 ∧ v1140 = 1) ∨ ((wouS c (k875 : Int) 0 ((c.1 3).toNat)) ≠ 0 ∧ v1140 = 0) := hv1140
                                  refine y_joinV (nL := 31) (fun v => (pitT c (k875 : Int) 6 = 0 ∧ v = 1) ∨ (pitT c (k875 : Int) 6 ≠ 0 ∧ v = 0)) 1156 (lv := [(30, .int (zI (((c.1 3).toNat : Nat) : Int))), (29, .int (zI (wouS c (k875 : Int) 0 ((c.1 3).toNat)))), (28, .int (zI (wouS c (k875 : Int) 1 ((c.1 3).toNat)))), (27, .int (zI v919)), (26, .int (zI ((pitT c (k875 : Int) 5) + (pitT c (k875 : Int) 6)))), (25, .int (zI (k875 : Int))), (24, .int (zI (stI c t (setD c t k875) (k875 : Int) ((c.1 3).toNat)))), (0, .ref sc), (1, .ref (a 0)), (2, .ref (b 0)), (3, .int (zI k)), (4, .int x), (5, .long (digC c)), (7, .int (zI (c.1 3))), (11, .int (zI (paidL c (c.1 3).toNat)))]) [.int (zI v1140)] (fun J1156 => ?_) (fun v1156 hv1156 ls hl => ?_)
                                  · refine lv_aload_n S.1 S.2.1 dL_law_1140 rfl (lv_at hl 8 rfl) ?_
                                    refine lv_iload S.1 S.2.1 dL_law_1141 (lv_at hl 5 rfl) ?_
                                    refine z_bipush S (by decide) dL_law_1143 ?_
                                    refine z_rV (As := [.int (zI (k875 : Int)), .int (zI 6)]) (rest := [.int (zI v1140)]) S (r_X4_about l D g a c hI (k875 : Int) 6 (by omega) (by omega)) ml_L_141 im_X4_about se_X4_about ini_X4 cd_X4_about ds_X4_about ⟨Nat.le_of_ble_eq_true rfl, Nat.le_of_ble_eq_true rfl⟩ hK (va_P_l hP) (va_recv hK.1 (va_P_l hP) (ci := 4) (q0 := 0) rfl rfl) rfl hl.1 rfl (Nat.le_of_ble_eq_true rfl) ⟨by show cells ≤ 600074; omega, by show slots ≤ 7301550; omega⟩ dL_law_1145 ?_
                                    refine z_if_ne (tgt := 1155) S dL_law_1148 (by decide) (by omega) (fun h_22 => ?_) (fun h_22 => ?_)
                                    · refine z_iconst S dL_law_1155 ?_
                                      exact J1156 0 (by omega) ls hl
                                    · refine z_iconst S dL_law_1151 ?_
                                      refine z_goto (tgt := 1156) S dL_law_1152 (by decide) ?_
                                      exact J1156 1 (by omega) ls hl
                                  · have hl : lv_has ls 31 [(30, .int (zI (((c.1 3).toNat : Nat) : Int))), (29, .int (zI (wouS c (k875 : Int) 0 ((c.1 3).toNat)))), (28, .int (zI (wouS c (k875 : Int) 1 ((c.1 3).toNat)))), (27, .int (zI v919)), (26, .int (zI ((pitT c (k875 : Int) 5) + (pitT c (k875 : Int) 6)))), (25, .int (zI (k875 : Int))), (24, .int (zI (stI c t (setD c t k875) (k875 : Int) ((c.1 3).toNat)))), (0, .ref sc), (1, .ref (a 0)), (2, .ref (b 0)), (3, .int (zI k)), (4, .int x), (5, .long (digC c)), (7, .int (zI (c.1 3))), (11, .int (zI (paidL c (c.1 3).toNat)))] := hl
                                    have hv1156 : (pitT c (k875 : Int) 6 = 0 ∧ v1156 = 1) ∨ (pitT c (k875 : Int) 6 ≠ 0 ∧ v1156 = 0) := hv1156
                                    refine z_icmp_eq (tgt := 1161) S dL_law_1156 (by decide) (by omega) (fun h_23 => ?_) (fun h_23 => ?_)
                                    · refine z_iinc (lv' := [(25, .int (zI ((k875 : Int) + 1))), (30, .int (zI (((c.1 3).toNat : Nat) : Int))), (29, .int (zI (wouS c (k875 : Int) 0 ((c.1 3).toNat)))), (28, .int (zI (wouS c (k875 : Int) 1 ((c.1 3).toNat)))), (27, .int (zI v919)), (26, .int (zI ((pitT c (k875 : Int) 5) + (pitT c (k875 : Int) 6)))), (24, .int (zI (stI c t (setD c t k875) (k875 : Int) ((c.1 3).toNat)))), (0, .ref sc), (1, .ref (a 0)), (2, .ref (b 0)), (3, .int (zI k)), (4, .int x), (5, .long (digC c)), (7, .int (zI (c.1 3))), (11, .int (zI (paidL c (c.1 3).toNat)))]) S dL_law_1161 hl (k := 5) rfl (by decide) rfl (fun ls hl => ?_)
                                      refine z_goto (tgt := 875) S dL_law_1164 (by decide) ?_
                                      exact ih875 () trivial _ _ hP hD hS _ (lv_sub hl [0, 6, 7, 8, 9, 10, 11, 12, 13, 14] rfl)
                                    · exact absurd h_23 (by omega)
                    · refine lv_iload S.1 S.2.1 dL_law_1077 (lv_at hl 2 rfl) ?_
                      refine lv_iload S.1 S.2.1 dL_law_1079 (lv_at hl 1 rfl) ?_
                      refine z_iadd S dL_law_1081 ?_
                      refine z_if_le (tgt := 1161) S dL_law_1082 (by decide) (by omega) (fun h_24 => ?_) (fun h_24 => ?_)
                      · refine z_iinc (lv' := [(25, .int (zI ((k875 : Int) + 1))), (30, .int (zI (((c.1 3).toNat : Nat) : Int))), (29, .int (zI (wouS c (k875 : Int) 0 ((c.1 3).toNat)))), (28, .int (zI (wouS c (k875 : Int) 1 ((c.1 3).toNat)))), (27, .int (zI v919)), (26, .int (zI ((pitT c (k875 : Int) 5) + (pitT c (k875 : Int) 6)))), (24, .int (zI (stI c t (setD c t k875) (k875 : Int) ((c.1 3).toNat)))), (0, .ref sc), (1, .ref (a 0)), (2, .ref (b 0)), (3, .int (zI k)), (4, .int x), (5, .long (digC c)), (7, .int (zI (c.1 3))), (11, .int (zI (paidL c (c.1 3).toNat)))]) S dL_law_1161 hl (k := 5) rfl (by decide) rfl (fun ls hl => ?_)
                        refine z_goto (tgt := 875) S dL_law_1164 (by decide) ?_
                        exact ih875 () trivial _ _ hP hD hS _ (lv_sub hl [0, 6, 7, 8, 9, 10, 11, 12, 13, 14] rfl)
                      · exact absurd h_24 (by omega)
                  · exact absurd h_14 (by omega)
              · exact absurd h_8 (by omega)
  · have hl : lv_has ls 31 [(25, .int (zI (((c.1 5).toNat : Nat) : Int))), (24, .int (zI (setD c t ((c.1 5).toNat)))), (0, .ref sc), (1, .ref (a 0)), (2, .ref (b 0)), (3, .int (zI k)), (4, .int x), (5, .long (digC c)), (7, .int (zI (c.1 3))), (11, .int (zI (paidL c (c.1 3).toNat)))] := hl
    have hP : va_P D vwCl (CW g a c ++ SW g b t) H := hP
    have hD : va_D A (CW g a c ++ SW g b t) := hD
    refine lv_iload S.1 S.2.1 dL_law_875 (lv_at hl 0 rfl) ?_
    refine lv_aload_n S.1 S.2.1 dL_law_877 rfl (lv_at hl 3 rfl) ?_
    refine z_iconst S dL_law_878 ?_
    refine z_rV (As := [.int (zI 3)]) (rest := [.int (zI (((c.1 5).toNat : Nat) : Int))]) S (r_X4_count l D g a c hI 3 (by omega)) ml_L_118 im_X4_count se_X4_count ini_X4 cd_X4_count ds_X4_count ⟨Nat.le_of_ble_eq_true rfl, Nat.le_of_ble_eq_true rfl⟩ hK (va_P_l hP) (va_recv hK.1 (va_P_l hP) (ci := 4) (q0 := 0) rfl rfl) rfl hl.1 rfl (Nat.le_of_ble_eq_true rfl) ⟨by show cells ≤ 600074; omega, by show slots ≤ 7301550; omega⟩ dL_law_879 ?_
    refine z_top (c.1 5) (rfl) ?_
    refine z_icmp_ge (tgt := 1167) S dL_law_882 (by decide) (by omega) (fun h_25 => ?_) (fun h_25 => ?_)
    · have hset := L_settled hR hI hT
      refine lv_iload S.1 S.2.1 dL_law_1167 (lv_at hl 1 rfl) ?_
      refine lv_iload S.1 S.2.1 dL_law_1169 (lv_at hl 9 rfl) ?_
      refine z_icmp_ne (tgt := 1184) S dL_law_1171 (by decide) (by omega) (fun h_26 => ?_) (fun h_26 => ?_)
      · exact absurd h_26 (by omega)
      · refine lv_aload_n S.1 S.2.1 dL_law_1174 rfl (lv_at hl 3 rfl) ?_
        refine z_rVl (As := []) (rest := []) S (m_X4_digest l D g a c hI) ml_L_114 im_X4_digest se_X4_digest ini_X4 cd_X4_digest ds_X4_digest ⟨Nat.le_of_ble_eq_true rfl, Nat.le_of_ble_eq_true rfl⟩ hK (va_P_l hP) (va_recv hK.1 (va_P_l hP) (ci := 4) (q0 := 0) rfl rfl) rfl hl.1 rfl (Nat.le_of_ble_eq_true rfl) ⟨by show cells ≤ 600074; omega, by show slots ≤ 7301550; omega⟩ dL_law_1175 ?_
        refine lv_lload S.1 S.2.1 dL_law_1178 (lv_at hl 7 rfl) ?_
        refine W.lcmp S.1 S.2.1 dL_law_1180 ?_
        rw [lg_cmp_self]
        refine z_if_eq (tgt := 1186) S dL_law_1181 (by decide) (by omega) (fun h_27 => ?_) (fun h_27 => ?_)
        · exact next _ _ _ hP hD hS (lv_sub hl [2, 3, 4, 5, 6, 8] rfl)
        · exact absurd h_27 (by omega)
    · exact absurd h_25 (by omega)
end SEGG
