/-! THE LAW, piece by piece: after the acts -/
section SEGC
variable {p : Program} {l : Launch} {e : Env} {s : State} {m : MethodId} {args : Array Value} {below : List Frame} {meth : Method} {co : Code} {H : Heap} {locs : List Loc} {cells slots : Nat} {Q : State → Prop}
variable {ls : Array Slot} {D : va_G} {A : Nat → Prop} {g : ClassId × ClassId × ClassId} {a b : Nat → Nat} {c : CS} {t : SS} {B : Int} {sc : Nat} {k : Int} {x : Int32}
set_option maxHeartbeats 4000000 in
set_option maxRecDepth 100000 in
theorem lw_C (S : CallFix p m co cL_law 31 s args AW RL) (hX : KX D g s) (hZ : ZQ A s s.heap) (hst : l.stackTraces = false) (hda : CD 21 a) (hA : ∀ q, s.heap.size ≤ q → A q) (hAc : ∀ q, CA 21 a q → A q) (hI : IC B c) (hB8 : B ≤ 800000000) (hT : IT t) (hR : RS c t) (h3 : 1 ≤ t.1 3) (hB : SB A b t) (hcl : cells + 10 ≤ 600074 ∧ slots + 100 ≤ 7301550) (hP : va_P D vwCl (CW g a c ++ SW g b t) H) (hD : va_D A (CW g a c ++ SW g b t)) (hS : va_S A s.heap H locs) (hl : lv_has ls 31 [(0, .ref sc), (1, .ref (a 0)), (2, .ref (b 0)), (3, .int (zI k)), (4, .int x)]) (next : ∀ (H : Heap) (locs : List Loc) (ls : Array Slot), va_P D vwCl (CW g a c ++ SW g b t) H → va_D A (CW g a c ++ SW g b t) → va_S A s.heap H locs → lv_has ls 31 [(0, .ref sc), (1, .ref (a 0)), (2, .ref (b 0)), (3, .int (zI k)), (4, .int x), (5, .long (digC c)), (7, .int (zI (c.1 3))), (10, .int (zI (c.1 4))), (11, .int (zI (paidL c (c.1 3).toNat)))] → W p l e room_1 s m args below meth co H locs (cells) (slots) Q (F0 m 295 ls [])) : W p l e room_1 s m args below meth co H locs cells slots Q (F0 m 80 ls []) := by
  have hK := hX.1
  have hs := hT.s
  have hc := hI.s
  have hn := hR.n
  refine lv_aload_n S.1 S.2.1 dL_law_80 rfl (lv_at hl 1 rfl) ?_
  refine z_rVl (As := []) (rest := []) S (m_X4_digest l D g a c hI) ml_L_114 im_X4_digest se_X4_digest ini_X4 cd_X4_digest ds_X4_digest ⟨Nat.le_of_ble_eq_true rfl, Nat.le_of_ble_eq_true rfl⟩ hK (va_P_l hP) (va_recv hK.1 (va_P_l hP) (ci := 4) (q0 := 0) rfl rfl) rfl hl.1 rfl (Nat.le_of_ble_eq_true rfl) ⟨by show cells ≤ 600074; omega, by show slots ≤ 7301550; omega⟩ dL_law_81 ?_
  refine lv_lstore (lv' := [(5, .long (digC c)), (0, .ref sc), (1, .ref (a 0)), (2, .ref (b 0)), (3, .int (zI k)), (4, .int x)]) S.1 S.2.1 dL_law_84 hl (by decide) rfl (fun ls hl => ?_)
  refine lv_aload_n S.1 S.2.1 dL_law_86 rfl (lv_at hl 2 rfl) ?_
  refine z_iconst S dL_law_87 ?_
  refine z_rV (As := [.int (zI 1)]) (rest := []) S (r_X4_count l D g a c hI 1 (by omega)) ml_L_118 im_X4_count se_X4_count ini_X4 cd_X4_count ds_X4_count ⟨Nat.le_of_ble_eq_true rfl, Nat.le_of_ble_eq_true rfl⟩ hK (va_P_l hP) (va_recv hK.1 (va_P_l hP) (ci := 4) (q0 := 0) rfl rfl) rfl hl.1 rfl (Nat.le_of_ble_eq_true rfl) ⟨by show cells ≤ 600074; omega, by show slots ≤ 7301550; omega⟩ dL_law_88 ?_
  refine z_top (c.1 3) (rfl) ?_
  refine lv_istore (lv' := [(7, .int (zI (c.1 3))), (5, .long (digC c)), (0, .ref sc), (1, .ref (a 0)), (2, .ref (b 0)), (3, .int (zI k)), (4, .int x)]) S.1 S.2.1 dL_law_91 hl (by decide) rfl (fun ls hl => ?_)
  refine lv_aload_n S.1 S.2.1 dL_law_93 rfl (lv_at hl 3 rfl) ?_
  refine z_bipush S (by decide) dL_law_94 ?_
  refine z_rV (As := [.int (zI 7)]) (rest := []) S (r_X4_count l D g a c hI 7 (by omega)) ml_L_118 im_X4_count se_X4_count ini_X4 cd_X4_count ds_X4_count ⟨Nat.le_of_ble_eq_true rfl, Nat.le_of_ble_eq_true rfl⟩ hK (va_P_l hP) (va_recv hK.1 (va_P_l hP) (ci := 4) (q0 := 0) rfl rfl) rfl hl.1 rfl (Nat.le_of_ble_eq_true rfl) ⟨by show cells ≤ 600074; omega, by show slots ≤ 7301550; omega⟩ dL_law_96 ?_
  refine z_top (c.1 1) (rfl) ?_
  refine lv_istore (lv' := [(8, .int (zI (c.1 1))), (7, .int (zI (c.1 3))), (5, .long (digC c)), (0, .ref sc), (1, .ref (a 0)), (2, .ref (b 0)), (3, .int (zI k)), (4, .int x)]) S.1 S.2.1 dL_law_99 hl (by decide) rfl (fun ls hl => ?_)
  refine z_iconst S dL_law_101 ?_
  refine lv_istore (lv' := [(9, .int (zI 0)), (8, .int (zI (c.1 1))), (7, .int (zI (c.1 3))), (5, .long (digC c)), (0, .ref sc), (1, .ref (a 0)), (2, .ref (b 0)), (3, .int (zI k)), (4, .int x)]) S.1 S.2.1 dL_law_102 hl (by decide) rfl (fun ls hl => ?_)
  refine z_iconst S dL_law_104 ?_
  refine lv_istore (lv' := [(10, .int (zI 0)), (9, .int (zI 0)), (8, .int (zI (c.1 1))), (7, .int (zI (c.1 3))), (5, .long (digC c)), (0, .ref sc), (1, .ref (a 0)), (2, .ref (b 0)), (3, .int (zI k)), (4, .int x)]) S.1 S.2.1 dL_law_105 hl (by decide) rfl (fun ls hl => ?_)
  refine z_iconst S dL_law_107 ?_
  refine lv_istore (lv' := [(11, .int (zI 0)), (10, .int (zI 0)), (9, .int (zI 0)), (8, .int (zI (c.1 1))), (7, .int (zI (c.1 3))), (5, .long (digC c)), (0, .ref sc), (1, .ref (a 0)), (2, .ref (b 0)), (3, .int (zI k)), (4, .int x)]) S.1 S.2.1 dL_law_108 hl (by decide) rfl (fun ls hl => ?_)
  refine z_iconst S dL_law_110 ?_
  refine lv_istore (lv' := [(12, .int (zI 0)), (11, .int (zI 0)), (10, .int (zI 0)), (9, .int (zI 0)), (8, .int (zI (c.1 1))), (7, .int (zI (c.1 3))), (5, .long (digC c)), (0, .ref sc), (1, .ref (a 0)), (2, .ref (b 0)), (3, .int (zI k)), (4, .int x)]) S.1 S.2.1 dL_law_111 hl (by decide) rfl (fun ls hl => ?_)
  refine y_for (σ := Unit) (D := D) (A := A) (nL := 31) (H0 := s.heap) ((c.1 3).toNat) (fun (_u : Unit) => s) (fun (k113 : Nat) (_u : Unit) => [(12, .int (zI (k113 : Int))), (11, .int (zI (paidL c k113))), (10, .int (zI (pegL c k113))), (9, .int (zI (handL c k113))), (8, .int (zI (cnL c k113))), (7, .int (zI (c.1 3))), (5, .long (digC c)), (0, .ref sc), (1, .ref (a 0)), (2, .ref (b 0)), (3, .int (zI k)), (4, .int x)]) (fun (k113 : Nat) (_u : Unit) => (CW g a c ++ SW g b t)) (fun _ => cells) (fun _ => slots) (fun (k113 : Nat) (_u : Unit) => True) (fun k113 hk113 _u hJ113 H locs hP hD hS ls hl ih113 => ?_) (fun _u hJ113 H locs hP hD hS ls hl => ?_) 0 (by omega) () trivial _ _ hP hD hS ls (lv_sub hl [0, 1, 2, 3, 4, 5, 6, 7, 8, 9, 10, 11] rfl)
  · have hl : lv_has ls 31 [(12, .int (zI (k113 : Int))), (11, .int (zI (paidL c k113))), (10, .int (zI (pegL c k113))), (9, .int (zI (handL c k113))), (8, .int (zI (cnL c k113))), (7, .int (zI (c.1 3))), (5, .long (digC c)), (0, .ref sc), (1, .ref (a 0)), (2, .ref (b 0)), (3, .int (zI k)), (4, .int x)] := hl
    have hP : va_P D vwCl (CW g a c ++ SW g b t) H := hP
    have hD : va_D A (CW g a c ++ SW g b t) := hD
    refine lv_iload S.1 S.2.1 dL_law_113 (lv_at hl 0 rfl) ?_
    refine lv_iload S.1 S.2.1 dL_law_115 (lv_at hl 5 rfl) ?_
    refine z_icmp_ge (tgt := 246) S dL_law_117 (by decide) (by omega) (fun h_1 => ?_) (fun h_1 => ?_)
    · exact absurd h_1 (by omega)
    · have htd := L_told hR hI hT (d := (k113 : Int)) (by omega)
      refine lv_aload_n S.1 S.2.1 dL_law_120 rfl (lv_at hl 8 rfl) ?_
      refine lv_iload S.1 S.2.1 dL_law_121 (lv_at hl 0 rfl) ?_
      refine z_iconst S dL_law_123 ?_
      refine z_rV (As := [.int (zI (k113 : Int)), .int (zI 2)]) (rest := []) S (r_X4_told l D g a c hI (k113 : Int) 2 (by omega) (by omega)) ml_L_121 im_X4_told se_X4_told ini_X4 cd_X4_told ds_X4_told ⟨Nat.le_of_ble_eq_true rfl, Nat.le_of_ble_eq_true rfl⟩ hK (va_P_l hP) (va_recv hK.1 (va_P_l hP) (ci := 4) (q0 := 0) rfl rfl) rfl hl.1 rfl (Nat.le_of_ble_eq_true rfl) ⟨by show cells ≤ 600074; omega, by show slots ≤ 7301550; omega⟩ dL_law_124 ?_
      refine z_if_lt (tgt := 172) S dL_law_127 (by decide) (by omega) (fun h_2 => ?_) (fun h_2 => ?_)
      · exact absurd h_2 (by omega)
      · refine lv_aload_n S.1 S.2.1 dL_law_130 rfl (lv_at hl 8 rfl) ?_
        refine lv_iload S.1 S.2.1 dL_law_131 (lv_at hl 0 rfl) ?_
        refine z_iconst S dL_law_133 ?_
        refine z_rV (As := [.int (zI (k113 : Int)), .int (zI 4)]) (rest := []) S (r_X4_told l D g a c hI (k113 : Int) 4 (by omega) (by omega)) ml_L_121 im_X4_told se_X4_told ini_X4 cd_X4_told ds_X4_told ⟨Nat.le_of_ble_eq_true rfl, Nat.le_of_ble_eq_true rfl⟩ hK (va_P_l hP) (va_recv hK.1 (va_P_l hP) (ci := 4) (q0 := 0) rfl rfl) rfl hl.1 rfl (Nat.le_of_ble_eq_true rfl) ⟨by show cells ≤ 600074; omega, by show slots ≤ 7301550; omega⟩ dL_law_134 ?_
        refine lv_aload_n S.1 S.2.1 dL_law_137 rfl (lv_at hl 8 rfl) ?_
        refine lv_iload S.1 S.2.1 dL_law_138 (lv_at hl 0 rfl) ?_
        refine z_iconst S dL_law_140 ?_
        refine z_rV (As := [.int (zI (k113 : Int)), .int (zI 3)]) (rest := [.int (zI (dowT c (k113 : Int) 4))]) S (r_X4_told l D g a c hI (k113 : Int) 3 (by omega) (by omega)) ml_L_121 im_X4_told se_X4_told ini_X4 cd_X4_told ds_X4_told ⟨Nat.le_of_ble_eq_true rfl, Nat.le_of_ble_eq_true rfl⟩ hK (va_P_l hP) (va_recv hK.1 (va_P_l hP) (ci := 4) (q0 := 0) rfl rfl) rfl hl.1 rfl (Nat.le_of_ble_eq_true rfl) ⟨by show cells ≤ 600074; omega, by show slots ≤ 7301550; omega⟩ dL_law_141 ?_
        refine z_icmp_gt (tgt := 172) S dL_law_144 (by decide) (by omega) (fun h_3 => ?_) (fun h_3 => ?_)
        · exact absurd h_3 (by omega)
        · refine lv_aload_n S.1 S.2.1 dL_law_147 rfl (lv_at hl 8 rfl) ?_
          refine lv_iload S.1 S.2.1 dL_law_148 (lv_at hl 0 rfl) ?_
          refine z_bipush S (by decide) dL_law_150 ?_
          refine z_rV (As := [.int (zI (k113 : Int)), .int (zI 6)]) (rest := []) S (r_X4_told l D g a c hI (k113 : Int) 6 (by omega) (by omega)) ml_L_121 im_X4_told se_X4_told ini_X4 cd_X4_told ds_X4_told ⟨Nat.le_of_ble_eq_true rfl, Nat.le_of_ble_eq_true rfl⟩ hK (va_P_l hP) (va_recv hK.1 (va_P_l hP) (ci := 4) (q0 := 0) rfl rfl) rfl hl.1 rfl (Nat.le_of_ble_eq_true rfl) ⟨by show cells ≤ 600074; omega, by show slots ≤ 7301550; omega⟩ dL_law_152 ?_
          refine lv_aload_n S.1 S.2.1 dL_law_155 rfl (lv_at hl 8 rfl) ?_
          refine lv_iload S.1 S.2.1 dL_law_156 (lv_at hl 0 rfl) ?_
          refine z_bipush S (by decide) dL_law_158 ?_
          refine z_rV (As := [.int (zI (k113 : Int)), .int (zI 7)]) (rest := [.int (zI (dowT c (k113 : Int) 6))]) S (r_X4_told l D g a c hI (k113 : Int) 7 (by omega) (by omega)) ml_L_121 im_X4_told se_X4_told ini_X4 cd_X4_told ds_X4_told ⟨Nat.le_of_ble_eq_true rfl, Nat.le_of_ble_eq_true rfl⟩ hK (va_P_l hP) (va_recv hK.1 (va_P_l hP) (ci := 4) (q0 := 0) rfl rfl) rfl hl.1 rfl (Nat.le_of_ble_eq_true rfl) ⟨by show cells ≤ 600074; omega, by show slots ≤ 7301550; omega⟩ dL_law_160 ?_
          refine z_iadd S dL_law_163 ?_
          refine lv_aload_n S.1 S.2.1 dL_law_164 rfl (lv_at hl 8 rfl) ?_
          refine z_iconst S dL_law_165 ?_
          refine z_rV (As := [.int (zI 3)]) (rest := [.int (zI ((dowT c (k113 : Int) 6) + (dowT c (k113 : Int) 7)))]) S (r_X4_count l D g a c hI 3 (by omega)) ml_L_118 im_X4_count se_X4_count ini_X4 cd_X4_count ds_X4_count ⟨Nat.le_of_ble_eq_true rfl, Nat.le_of_ble_eq_true rfl⟩ hK (va_P_l hP) (va_recv hK.1 (va_P_l hP) (ci := 4) (q0 := 0) rfl rfl) rfl hl.1 rfl (Nat.le_of_ble_eq_true rfl) ⟨by show cells ≤ 600074; omega, by show slots ≤ 7301550; omega⟩ dL_law_166 ?_
          refine z_top (c.1 5) (rfl) ?_
          refine z_icmp_le (tgt := 174) S dL_law_169 (by decide) (by omega) (fun h_4 => ?_) (fun h_4 => ?_)
          · refine lv_iload S.1 S.2.1 dL_law_174 (lv_at hl 3 rfl) ?_
            refine lv_aload_n S.1 S.2.1 dL_law_176 rfl (lv_at hl 8 rfl) ?_
            refine lv_iload S.1 S.2.1 dL_law_177 (lv_at hl 0 rfl) ?_
            refine z_iconst S dL_law_179 ?_
            refine z_rV (As := [.int (zI (k113 : Int)), .int (zI 2)]) (rest := [.int (zI (handL c k113))]) S (r_X4_told l D g a c hI (k113 : Int) 2 (by omega) (by omega)) ml_L_121 im_X4_told se_X4_told ini_X4 cd_X4_told ds_X4_told ⟨Nat.le_of_ble_eq_true rfl, Nat.le_of_ble_eq_true rfl⟩ hK (va_P_l hP) (va_recv hK.1 (va_P_l hP) (ci := 4) (q0 := 0) rfl rfl) rfl hl.1 rfl (Nat.le_of_ble_eq_true rfl) ⟨by show cells ≤ 600074; omega, by show slots ≤ 7301550; omega⟩ dL_law_180 ?_
            refine z_iadd S dL_law_183 ?_
            refine lv_istore (lv' := [(9, .int (zI ((handL c k113) + (dowT c (k113 : Int) 2)))), (12, .int (zI (k113 : Int))), (11, .int (zI (paidL c k113))), (10, .int (zI (pegL c k113))), (8, .int (zI (cnL c k113))), (7, .int (zI (c.1 3))), (5, .long (digC c)), (0, .ref sc), (1, .ref (a 0)), (2, .ref (b 0)), (3, .int (zI k)), (4, .int x)]) S.1 S.2.1 dL_law_184 hl (by decide) rfl (fun ls hl => ?_)
            refine lv_iload S.1 S.2.1 dL_law_186 (lv_at hl 4 rfl) ?_
            refine lv_aload_n S.1 S.2.1 dL_law_188 rfl (lv_at hl 8 rfl) ?_
            refine lv_iload S.1 S.2.1 dL_law_189 (lv_at hl 1 rfl) ?_
            refine z_iconst S dL_law_191 ?_
            refine z_rV (As := [.int (zI (k113 : Int)), .int (zI 2)]) (rest := [.int (zI (cnL c k113))]) S (r_X4_told l D g a c hI (k113 : Int) 2 (by omega) (by omega)) ml_L_121 im_X4_told se_X4_told ini_X4 cd_X4_told ds_X4_told ⟨Nat.le_of_ble_eq_true rfl, Nat.le_of_ble_eq_true rfl⟩ hK (va_P_l hP) (va_recv hK.1 (va_P_l hP) (ci := 4) (q0 := 0) rfl rfl) rfl hl.1 rfl (Nat.le_of_ble_eq_true rfl) ⟨by show cells ≤ 600074; omega, by show slots ≤ 7301550; omega⟩ dL_law_192 ?_
            refine lv_aload_n S.1 S.2.1 dL_law_195 rfl (lv_at hl 8 rfl) ?_
            refine lv_iload S.1 S.2.1 dL_law_196 (lv_at hl 1 rfl) ?_
            refine z_iconst S dL_law_198 ?_
            refine z_rV (As := [.int (zI (k113 : Int)), .int (zI 5)]) (rest := [.int (zI (dowT c (k113 : Int) 2)), .int (zI (cnL c k113))]) S (r_X4_told l D g a c hI (k113 : Int) 5 (by omega) (by omega)) ml_L_121 im_X4_told se_X4_told ini_X4 cd_X4_told ds_X4_told ⟨Nat.le_of_ble_eq_true rfl, Nat.le_of_ble_eq_true rfl⟩ hK (va_P_l hP) (va_recv hK.1 (va_P_l hP) (ci := 4) (q0 := 0) rfl rfl) rfl hl.1 rfl (Nat.le_of_ble_eq_true rfl) ⟨by show cells ≤ 600074; omega, by show slots ≤ 7301550; omega⟩ dL_law_199 ?_
            refine z_iadd S dL_law_202 ?_
            refine z_iadd S dL_law_203 ?_
            refine lv_istore (lv' := [(8, .int (zI ((cnL c k113) + ((dowT c (k113 : Int) 2) + (dowT c (k113 : Int) 5))))), (9, .int (zI ((handL c k113) + (dowT c (k113 : Int) 2)))), (12, .int (zI (k113 : Int))), (11, .int (zI (paidL c k113))), (10, .int (zI (pegL c k113))), (7, .int (zI (c.1 3))), (5, .long (digC c)), (0, .ref sc), (1, .ref (a 0)), (2, .ref (b 0)), (3, .int (zI k)), (4, .int x)]) S.1 S.2.1 dL_law_204 hl (by decide) rfl (fun ls hl => ?_)
            refine lv_iload S.1 S.2.1 dL_law_206 (lv_at hl 4 rfl) ?_
            refine lv_aload_n S.1 S.2.1 dL_law_208 rfl (lv_at hl 8 rfl) ?_
            refine lv_iload S.1 S.2.1 dL_law_209 (lv_at hl 2 rfl) ?_
            refine z_iconst S dL_law_211 ?_
            refine z_rV (As := [.int (zI (k113 : Int)), .int (zI 3)]) (rest := [.int (zI (pegL c k113))]) S (r_X4_told l D g a c hI (k113 : Int) 3 (by omega) (by omega)) ml_L_121 im_X4_told se_X4_told ini_X4 cd_X4_told ds_X4_told ⟨Nat.le_of_ble_eq_true rfl, Nat.le_of_ble_eq_true rfl⟩ hK (va_P_l hP) (va_recv hK.1 (va_P_l hP) (ci := 4) (q0 := 0) rfl rfl) rfl hl.1 rfl (Nat.le_of_ble_eq_true rfl) ⟨by show cells ≤ 600074; omega, by show slots ≤ 7301550; omega⟩ dL_law_212 ?_
            refine z_iadd S dL_law_215 ?_
            refine lv_istore (lv' := [(10, .int (zI ((pegL c k113) + (dowT c (k113 : Int) 3)))), (8, .int (zI ((cnL c k113) + ((dowT c (k113 : Int) 2) + (dowT c (k113 : Int) 5))))), (9, .int (zI ((handL c k113) + (dowT c (k113 : Int) 2)))), (12, .int (zI (k113 : Int))), (11, .int (zI (paidL c k113))), (7, .int (zI (c.1 3))), (5, .long (digC c)), (0, .ref sc), (1, .ref (a 0)), (2, .ref (b 0)), (3, .int (zI k)), (4, .int x)]) S.1 S.2.1 dL_law_216 hl (by decide) rfl (fun ls hl => ?_)
            refine lv_iload S.1 S.2.1 dL_law_218 (lv_at hl 4 rfl) ?_
            refine lv_aload_n S.1 S.2.1 dL_law_220 rfl (lv_at hl 8 rfl) ?_
            refine lv_iload S.1 S.2.1 dL_law_221 (lv_at hl 3 rfl) ?_
            refine z_bipush S (by decide) dL_law_223 ?_
            refine z_rV (As := [.int (zI (k113 : Int)), .int (zI 6)]) (rest := [.int (zI (paidL c k113))]) S (r_X4_told l D g a c hI (k113 : Int) 6 (by omega) (by omega)) ml_L_121 im_X4_told se_X4_told ini_X4 cd_X4_told ds_X4_told ⟨Nat.le_of_ble_eq_true rfl, Nat.le_of_ble_eq_true rfl⟩ hK (va_P_l hP) (va_recv hK.1 (va_P_l hP) (ci := 4) (q0 := 0) rfl rfl) rfl hl.1 rfl (Nat.le_of_ble_eq_true rfl) ⟨by show cells ≤ 600074; omega, by show slots ≤ 7301550; omega⟩ dL_law_225 ?_
            refine lv_aload_n S.1 S.2.1 dL_law_228 rfl (lv_at hl 8 rfl) ?_
            refine lv_iload S.1 S.2.1 dL_law_229 (lv_at hl 3 rfl) ?_
            refine z_bipush S (by decide) dL_law_231 ?_
            refine z_rV (As := [.int (zI (k113 : Int)), .int (zI 7)]) (rest := [.int (zI (dowT c (k113 : Int) 6)), .int (zI (paidL c k113))]) S (r_X4_told l D g a c hI (k113 : Int) 7 (by omega) (by omega)) ml_L_121 im_X4_told se_X4_told ini_X4 cd_X4_told ds_X4_told ⟨Nat.le_of_ble_eq_true rfl, Nat.le_of_ble_eq_true rfl⟩ hK (va_P_l hP) (va_recv hK.1 (va_P_l hP) (ci := 4) (q0 := 0) rfl rfl) rfl hl.1 rfl (Nat.le_of_ble_eq_true rfl) ⟨by show cells ≤ 600074; omega, by show slots ≤ 7301550; omega⟩ dL_law_233 ?_
            refine z_iadd S dL_law_236 ?_
            refine z_iadd S dL_law_237 ?_
            refine lv_istore (lv' := [(11, .int (zI ((paidL c k113) + ((dowT c (k113 : Int) 6) + (dowT c (k113 : Int) 7))))), (10, .int (zI ((pegL c k113) + (dowT c (k113 : Int) 3)))), (8, .int (zI ((cnL c k113) + ((dowT c (k113 : Int) 2) + (dowT c (k113 : Int) 5))))), (9, .int (zI ((handL c k113) + (dowT c (k113 : Int) 2)))), (12, .int (zI (k113 : Int))), (7, .int (zI (c.1 3))), (5, .long (digC c)), (0, .ref sc), (1, .ref (a 0)), (2, .ref (b 0)), (3, .int (zI k)), (4, .int x)]) S.1 S.2.1 dL_law_238 hl (by decide) rfl (fun ls hl => ?_)
            refine z_iinc (lv' := [(12, .int (zI ((k113 : Int) + 1))), (11, .int (zI ((paidL c k113) + ((dowT c (k113 : Int) 6) + (dowT c (k113 : Int) 7))))), (10, .int (zI ((pegL c k113) + (dowT c (k113 : Int) 3)))), (8, .int (zI ((cnL c k113) + ((dowT c (k113 : Int) 2) + (dowT c (k113 : Int) 5))))), (9, .int (zI ((handL c k113) + (dowT c (k113 : Int) 2)))), (7, .int (zI (c.1 3))), (5, .long (digC c)), (0, .ref sc), (1, .ref (a 0)), (2, .ref (b 0)), (3, .int (zI k)), (4, .int x)]) S dL_law_240 hl (k := 4) rfl (by decide) rfl (fun ls hl => ?_)
            refine z_goto (tgt := 113) S dL_law_243 (by decide) ?_
            exact ih113 () trivial _ _ hP hD hS _ (lv_sub hl [0, 1, 2, 4, 3, 5, 6, 7, 8, 9, 10, 11] rfl)
          · exact absurd h_4 (by omega)
  · have hl : lv_has ls 31 [(12, .int (zI (((c.1 3).toNat : Nat) : Int))), (11, .int (zI (paidL c ((c.1 3).toNat)))), (10, .int (zI (pegL c ((c.1 3).toNat)))), (9, .int (zI (handL c ((c.1 3).toNat)))), (8, .int (zI (cnL c ((c.1 3).toNat)))), (7, .int (zI (c.1 3))), (5, .long (digC c)), (0, .ref sc), (1, .ref (a 0)), (2, .ref (b 0)), (3, .int (zI k)), (4, .int x)] := hl
    have hP : va_P D vwCl (CW g a c ++ SW g b t) H := hP
    have hD : va_D A (CW g a c ++ SW g b t) := hD
    refine lv_iload S.1 S.2.1 dL_law_113 (lv_at hl 0 rfl) ?_
    refine lv_iload S.1 S.2.1 dL_law_115 (lv_at hl 5 rfl) ?_
    refine z_icmp_ge (tgt := 246) S dL_law_117 (by decide) (by omega) (fun h_5 => ?_) (fun h_5 => ?_)
    · have hsum := L_sums hR hI hT
      refine lv_iload S.1 S.2.1 dL_law_246 (lv_at hl 4 rfl) ?_
      refine z_bipush S (by decide) dL_law_248 ?_
      refine lv_iload S.1 S.2.1 dL_law_250 (lv_at hl 5 rfl) ?_
      refine z_imul S dL_law_252 ?_
      refine z_icmp_ne (tgt := 293) S dL_law_253 (by decide) (by omega) (fun h_6 => ?_) (fun h_6 => ?_)
      · exact absurd h_6 (by omega)
      · refine lv_iload S.1 S.2.1 dL_law_256 (lv_at hl 3 rfl) ?_
        refine lv_aload_n S.1 S.2.1 dL_law_258 rfl (lv_at hl 8 rfl) ?_
        refine z_bipush S (by decide) dL_law_259 ?_
        refine z_rV (As := [.int (zI 8)]) (rest := [.int (zI (handL c ((c.1 3).toNat)))]) S (r_X4_count l D g a c hI 8 (by omega)) ml_L_118 im_X4_count se_X4_count ini_X4 cd_X4_count ds_X4_count ⟨Nat.le_of_ble_eq_true rfl, Nat.le_of_ble_eq_true rfl⟩ hK (va_P_l hP) (va_recv hK.1 (va_P_l hP) (ci := 4) (q0 := 0) rfl rfl) rfl hl.1 rfl (Nat.le_of_ble_eq_true rfl) ⟨by show cells ≤ 600074; omega, by show slots ≤ 7301550; omega⟩ dL_law_261 ?_
        refine z_icmp_ne (tgt := 293) S dL_law_264 (by decide) (by omega) (fun h_7 => ?_) (fun h_7 => ?_)
        · exact absurd h_7 (by omega)
        · refine lv_iload S.1 S.2.1 dL_law_267 (lv_at hl 2 rfl) ?_
          refine lv_aload_n S.1 S.2.1 dL_law_269 rfl (lv_at hl 8 rfl) ?_
          refine z_iconst S dL_law_270 ?_
          refine z_rV (As := [.int (zI 2)]) (rest := [.int (zI (pegL c ((c.1 3).toNat)))]) S (r_X4_count l D g a c hI 2 (by omega)) ml_L_118 im_X4_count se_X4_count ini_X4 cd_X4_count ds_X4_count ⟨Nat.le_of_ble_eq_true rfl, Nat.le_of_ble_eq_true rfl⟩ hK (va_P_l hP) (va_recv hK.1 (va_P_l hP) (ci := 4) (q0 := 0) rfl rfl) rfl hl.1 rfl (Nat.le_of_ble_eq_true rfl) ⟨by show cells ≤ 600074; omega, by show slots ≤ 7301550; omega⟩ dL_law_271 ?_
          refine z_top (c.1 4) (rfl) ?_
          refine z_icmp_ne (tgt := 293) S dL_law_274 (by decide) (by omega) (fun h_8 => ?_) (fun h_8 => ?_)
          · exact absurd h_8 (by omega)
          · refine lv_iload S.1 S.2.1 dL_law_277 (lv_at hl 2 rfl) ?_
            refine z_bipush S (by decide) dL_law_279 ?_
            refine z_icmp_gt (tgt := 293) S dL_law_281 (by decide) (by omega) (fun h_9 => ?_) (fun h_9 => ?_)
            · exact absurd h_9 (by omega)
            · refine lv_aload_n S.1 S.2.1 dL_law_284 rfl (lv_at hl 8 rfl) ?_
              refine z_bipush S (by decide) dL_law_285 ?_
              refine z_rV (As := [.int (zI 7)]) (rest := []) S (r_X4_count l D g a c hI 7 (by omega)) ml_L_118 im_X4_count se_X4_count ini_X4 cd_X4_count ds_X4_count ⟨Nat.le_of_ble_eq_true rfl, Nat.le_of_ble_eq_true rfl⟩ hK (va_P_l hP) (va_recv hK.1 (va_P_l hP) (ci := 4) (q0 := 0) rfl rfl) rfl hl.1 rfl (Nat.le_of_ble_eq_true rfl) ⟨by show cells ≤ 600074; omega, by show slots ≤ 7301550; omega⟩ dL_law_287 ?_
              refine z_top (c.1 1) (rfl) ?_
              refine z_if_ge (tgt := 295) S dL_law_290 (by decide) (by omega) (fun h_10 => ?_) (fun h_10 => ?_)
              · have hl : lv_has ls 31 [(0, .ref sc), (1, .ref (a 0)), (2, .ref (b 0)), (3, .int (zI k)), (4, .int x), (5, .long (digC c)), (7, .int (zI (c.1 3))), (10, .int (zI (c.1 4))), (11, .int (zI (paidL c (c.1 3).toNat)))] := by rw [← hsum.2.2.1]; exact lv_sub hl [7, 8, 9, 10, 11, 6, 5, 2, 1] rfl
                exact next _ _ _ hP hD hS hl
              · exact absurd h_10 (by omega)
    · exact absurd h_5 (by omega)
end SEGC
