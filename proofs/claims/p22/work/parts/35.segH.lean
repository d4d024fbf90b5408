/-! THE LAW: digging -/
section SEGH
variable {p : Program} {l : Launch} {e : Env} {s : State} {m : MethodId} {args : Array Value} {below : List Frame} {meth : Method} {co : Code} {H : Heap} {locs : List Loc} {cells slots : Nat} {Q : State → Prop}
variable {ls : Array Slot} {D : va_G} {A : Nat → Prop} {g : ClassId × ClassId × ClassId} {a b : Nat → Nat} {c : CS} {t : SS} {B : Int} {sc : Nat} {k : Int} {x : Int32}
set_option maxHeartbeats 4000000 in
set_option maxRecDepth 100000 in
theorem lw_H (S : CallFix p m co cL_law 31 s args AW RL) (hX : KX D g s) (hZ : ZQ A s s.heap) (hst : l.stackTraces = false) (hda : CD 21 a) (hA : ∀ q, s.heap.size ≤ q → A q) (hAc : ∀ q, CA 21 a q → A q) (hI : IC B c) (hB8 : B ≤ 800000000) (hT : IT t) (hR : RS c t) (h3 : 1 ≤ t.1 3) (hB : SB A b t) (hcl : cells + 10 ≤ 600074 ∧ slots + 100 ≤ 7301550) (hP : va_P D vwCl (CW g a c ++ SW g b t) H) (hD : va_D A (CW g a c ++ SW g b t)) (hS : va_S A s.heap H locs) (hl : lv_has ls 31 [(0, .ref sc), (1, .ref (a 0)), (2, .ref (b 0)), (3, .int (zI k)), (4, .int x), (7, .int (zI (c.1 3)))]) (next : ∀ (c2 : CS) (t2 : SS) (H : Heap) (locs : List Loc) (ls : Array Slot), IC (B + 100000) c2 → IT t2 → RS c2 t2 → t2.1 3 = t.1 3 → SB A b t2 → va_P D vwCl (CW g a c2 ++ SW g b t2) H → va_D A (CW g a c2 ++ SW g b t2) → va_S A s.heap H locs → lv_has ls 31 [(0, .ref sc), (1, .ref (a 0)), (2, .ref (b 0)), (3, .int (zI k)), (4, .int x)] → W p l e room_1 s m args below meth co H locs (cells + 4) (slots + 18) Q (F0 m 1468 ls [])) : W p l e room_1 s m args below meth co H locs cells slots Q (F0 m 1186 ls []) := by
  have hK := hX.1
  have hs := hT.s
  have hc := hI.s
  have hn := hR.n
  refine z_iconst S dL_law_1186 ?_
  refine lv_istore (lv' := [(25, .int (zI 0)), (0, .ref sc), (1, .ref (a 0)), (2, .ref (b 0)), (3, .int (zI k)), (4, .int x), (7, .int (zI (c.1 3)))]) S.1 S.2.1 dL_law_1187 hl (by decide) rfl (fun ls hl => ?_)
  refine y_for (σ := Unit) (D := D) (A := A) (nL := 31) (H0 := s.heap) ((c.1 5).toNat) (fun (_u : Unit) => s) (fun (k1189 : Nat) (_u : Unit) => [(25, .int (zI (k1189 : Int))), (0, .ref sc), (1, .ref (a 0)), (2, .ref (b 0)), (3, .int (zI k)), (4, .int x), (7, .int (zI (c.1 3)))]) (fun (k1189 : Nat) (_u : Unit) => (CW g a c ++ SW g b t)) (fun _ => cells) (fun _ => slots) (fun (k1189 : Nat) (_u : Unit) => True) (fun k1189 hk1189 _u hJ1189 H locs hP hD hS ls hl ih1189 => ?_) (fun _u hJ1189 H locs hP hD hS ls hl => ?_) 0 (by omega) () trivial _ _ hP hD hS ls (lv_sub hl [0, 1, 2, 3, 4, 5, 6] rfl)
  · have hl : lv_has ls 31 [(25, .int (zI (k1189 : Int))), (0, .ref sc), (1, .ref (a 0)), (2, .ref (b 0)), (3, .int (zI k)), (4, .int x), (7, .int (zI (c.1 3)))] := hl
    have hP : va_P D vwCl (CW g a c ++ SW g b t) H := hP
    have hD : va_D A (CW g a c ++ SW g b t) := hD
    refine lv_iload S.1 S.2.1 dL_law_1189 (lv_at hl 0 rfl) ?_
    refine lv_aload_n S.1 S.2.1 dL_law_1191 rfl (lv_at hl 2 rfl) ?_
    refine z_iconst S dL_law_1192 ?_
    refine z_rV (As := [.int (zI 3)]) (rest := [.int (zI (k1189 : Int))]) S (r_X4_count l D g a c hI 3 (by omega)) ml_L_118 im_X4_count se_X4_count ini_X4 cd_X4_count ds_X4_count ⟨Nat.le_of_ble_eq_true rfl, Nat.le_of_ble_eq_true rfl⟩ hK (va_P_l hP) (va_recv hK.1 (va_P_l hP) (ci := 4) (q0 := 0) rfl rfl) rfl hl.1 rfl (Nat.le_of_ble_eq_true rfl) ⟨by show cells ≤ 600074; omega, by show slots ≤ 7301550; omega⟩ dL_law_1193 ?_
    refine z_top (c.1 5) (rfl) ?_
    refine z_icmp_ge (tgt := 1468) S dL_law_1196 (by decide) (by omega) (fun h_1 => ?_) (fun h_1 => ?_)
    · exact absurd h_1 (by omega)
    · obtain ⟨hp5, hp6, hp4, hp2, hp3, hp2o, hpf, hps⟩ := L_pit hR hI hT (q := (k1189 : Int)) (by omega)
      refine lv_aload_n S.1 S.2.1 dL_law_1199 rfl (lv_at hl 2 rfl) ?_
      refine lv_iload S.1 S.2.1 dL_law_1200 (lv_at hl 0 rfl) ?_
      refine z_iconst S dL_law_1202 ?_
      refine z_rV (As := [.int (zI (k1189 : Int)), .int (zI 4)]) (rest := []) S (r_X4_about l D g a c hI (k1189 : Int) 4 (by omega) (by omega)) ml_L_141 im_X4_about se_X4_about ini_X4 cd_X4_about ds_X4_about ⟨Nat.le_of_ble_eq_true rfl, Nat.le_of_ble_eq_true rfl⟩ hK (va_P_l hP) (va_recv hK.1 (va_P_l hP) (ci := 4) (q0 := 0) rfl rfl) rfl hl.1 rfl (Nat.le_of_ble_eq_true rfl) ⟨by show cells ≤ 600074; omega, by show slots ≤ 7301550; omega⟩ dL_law_1203 ?_
      refine z_iconst S dL_law_1206 ?_
      refine z_icmp_eq (tgt := 1462) S dL_law_1207 (by decide) (by omega) (fun h_2 => ?_) (fun h_2 => ?_)
      · refine z_iinc (lv' := [(25, .int (zI ((k1189 : Int) + 1))), (0, .ref sc), (1, .ref (a 0)), (2, .ref (b 0)), (3, .int (zI k)), (4, .int x), (7, .int (zI (c.1 3)))]) S dL_law_1462 hl (k := 0) rfl (by decide) rfl (fun ls hl => ?_)
        refine z_goto (tgt := 1189) S dL_law_1465 (by decide) ?_
        exact ih1189 () trivial _ _ hP hD hS _ (lv_sub hl [0, 1, 2, 3, 4, 5, 6] rfl)
      · refine lv_iload S.1 S.2.1 dL_law_1210 (lv_at hl 5 rfl) ?_
        refine z_bipush S (by decide) dL_law_1212 ?_
        refine lv_ishr S.1 S.2.1 dL_law_1214 ?_
        refine z_iconst S dL_law_1215 ?_
        refine z_rS (As := [.int (x >>> (zI 7 &&& 31)), .int (zI 2)]) (rest := []) S (m_L_below l D g (x >>> (zI 7 &&& 31)) 2 (by omega)) ml_L_9 sm_L_below ini_L cd_L_below ds_L_below ⟨Nat.le_of_ble_eq_true rfl, Nat.le_of_ble_eq_true rfl⟩ hK va_P_nil rfl hl.1 rfl (Nat.le_of_ble_eq_true rfl) ⟨by show cells ≤ 600074; omega, by show slots ≤ 7301550; omega⟩ dL_law_1216 ?_
        have hb_3 := blw_b (x >>> (zI 7 &&& 31)) 2 (by omega)
        refine z_if_ne (tgt := 1225) S dL_law_1219 (by decide) (by omega) (fun h_4 => ?_) (fun h_4 => ?_)
        · refine z_iconst S dL_law_1225 ?_
          refine lv_iload S.1 S.2.1 dL_law_1226 (lv_at hl 6 rfl) ?_
          refine y_mna (N := 2) (K := c.1 3) S cl_L_148 hK hP hD hS hA (by omega) (by omega) (by show cells + 3 ≤ 600074; omega) (by show slots + (2 + 2 * (c.1 3).toNat) ≤ 7301550; omega) dL_law_1228 (fun q1228 r1228 H hP hD hS => ?_)
          refine W.widen (k := cells + 3) (n := slots + 12) (by show _ + 1 + 2 ≤ _; omega) (by show _ + 2 + 2 * (c.1 3 : Int).toNat ≤ _; omega) ?_
          have hP : va_P D vwCl ([(q1228, .inl (g.2.2, 2, .inr (.inr (.inr (.inr (rfs 2 r1228))))))] ++ (rwW g r1228 ((c.1 3).toNat) (fun _ _ => 0) 2 ++ (CW g a c ++ SW g b t))) H := hP
          have hD : va_D A ([(q1228, .inl (g.2.2, 2, .inr (.inr (.inr (.inr (rfs 2 r1228))))))] ++ (rwW g r1228 ((c.1 3).toNat) (fun _ _ => 0) 2 ++ (CW g a c ++ SW g b t))) := hD
          refine lv_astore (lv' := [(26, .ref q1228), (25, .int (zI (k1189 : Int))), (0, .ref sc), (1, .ref (a 0)), (2, .ref (b 0)), (3, .int (zI k)), (4, .int x), (7, .int (zI (c.1 3)))]) S.1 S.2.1 dL_law_1232 hl (by decide) rfl (fun ls hl => ?_)
          refine z_iconst S dL_law_1234 ?_
          refine lv_istore (lv' := [(27, .int (zI 0)), (26, .ref q1228), (25, .int (zI (k1189 : Int))), (0, .ref sc), (1, .ref (a 0)), (2, .ref (b 0)), (3, .int (zI k)), (4, .int x), (7, .int (zI (c.1 3)))]) S.1 S.2.1 dL_law_1235 hl (by decide) rfl (fun ls hl => ?_)
          refine y_for (σ := Unit) (D := D) (A := A) (nL := 31) (H0 := s.heap) ((c.1 3).toNat) (fun (_u : Unit) => s) (fun (k1237 : Nat) (_u : Unit) => [(27, .int (zI (k1237 : Int))), (26, .ref q1228), (25, .int (zI (k1189 : Int))), (0, .ref sc), (1, .ref (a 0)), (2, .ref (b 0)), (3, .int (zI k)), (4, .int x), (7, .int (zI (c.1 3)))]) (fun (k1237 : Nat) (_u : Unit) => ([(q1228, .inl (g.2.2, 2, .inr (.inr (.inr (.inr (rfs 2 r1228))))))] ++ (rwW g r1228 ((c.1 3).toNat) (gtF c (k1189 : Int) k1237) 2 ++ (CW g a c ++ SW g b t)))) (fun _ => cells + 3) (fun _ => slots + 12) (fun (k1237 : Nat) (_u : Unit) => True) (fun k1237 hk1237 _u hJ1237 H locs hP hD hS ls hl ih1237 => ?_) (fun _u hJ1237 H locs hP hD hS ls hl => ?_) 0 (by omega) () trivial _ _ hP hD hS ls (lv_sub hl [0, 1, 2, 3, 4, 5, 6, 7, 8] rfl)
          · have hl : lv_has ls 31 [(27, .int (zI (k1237 : Int))), (26, .ref q1228), (25, .int (zI (k1189 : Int))), (0, .ref sc), (1, .ref (a 0)), (2, .ref (b 0)), (3, .int (zI k)), (4, .int x), (7, .int (zI (c.1 3)))] := hl
            have hP : va_P D vwCl ([(q1228, .inl (g.2.2, 2, .inr (.inr (.inr (.inr (rfs 2 r1228))))))] ++ (rwW g r1228 ((c.1 3).toNat) (gtF c (k1189 : Int) k1237) 2 ++ (CW g a c ++ SW g b t))) H := hP
            have hD : va_D A ([(q1228, .inl (g.2.2, 2, .inr (.inr (.inr (.inr (rfs 2 r1228))))))] ++ (rwW g r1228 ((c.1 3).toNat) (gtF c (k1189 : Int) k1237) 2 ++ (CW g a c ++ SW g b t))) := hD
            refine lv_iload S.1 S.2.1 dL_law_1237 (lv_at hl 0 rfl) ?_
            refine lv_iload S.1 S.2.1 dL_law_1239 (lv_at hl 8 rfl) ?_
            refine z_icmp_ge (tgt := 1298) S dL_law_1241 (by decide) (by omega) (fun h_5 => ?_) (fun h_5 => ?_)
            · exact absurd h_5 (by omega)
            · have htd := L_told hR hI hT (d := (k1237 : Int)) (by omega)
              refine lv_aload S.1 S.2.1 dL_law_1244 (lv_at hl 1 rfl) ?_
              refine z_iconst S dL_law_1246 ?_
              refine y_ald2 S hK hP 0 rfl (Nat.le_refl _) (by decide) (by omega) dL_law_1247 ?_
              refine lv_iload S.1 S.2.1 dL_law_1248 (lv_at hl 0 rfl) ?_
              refine lv_aload_n S.1 S.2.1 dL_law_1250 rfl (lv_at hl 4 rfl) ?_
              refine lv_iload S.1 S.2.1 dL_law_1251 (lv_at hl 0 rfl) ?_
              refine z_iconst S dL_law_1253 ?_
              refine z_rV (As := [.int (zI (k1237 : Int)), .int (zI 2)]) (rest := [.int (zI (k1237 : Int)), .ref (r1228 (0 : Int).toNat)]) S (r_X4_told l D g a c hI (k1237 : Int) 2 (by omega) (by omega)) ml_L_121 im_X4_told se_X4_told ini_X4 cd_X4_told ds_X4_told ⟨Nat.le_of_ble_eq_true rfl, Nat.le_of_ble_eq_true rfl⟩ hK (va_P_l (va_P_r (va_P_r hP))) (va_recv hK.1 (va_P_l (va_P_r (va_P_r hP))) (ci := 4) (q0 := 0) rfl rfl) rfl hl.1 rfl (Nat.le_of_ble_eq_true rfl) ⟨by show cells + 3 ≤ 600074; omega, by show slots + 12 ≤ 7301550; omega⟩ dL_law_1254 ?_
              refine lv_aload_n S.1 S.2.1 dL_law_1257 rfl (lv_at hl 4 rfl) ?_
              refine lv_iload S.1 S.2.1 dL_law_1258 (lv_at hl 2 rfl) ?_
              refine lv_iload S.1 S.2.1 dL_law_1260 (lv_at hl 0 rfl) ?_
              refine z_iconst S dL_law_1262 ?_
              refine z_rV (As := [.int (zI (k1189 : Int)), .int (zI (k1237 : Int)), .int (zI 0)]) (rest := [.int (zI (dowT c (k1237 : Int) 2)), .int (zI (k1237 : Int)), .ref (r1228 (0 : Int).toNat)]) S (r_X4_would l D g a c hI (k1189 : Int) (k1237 : Int) 0 (by omega) (by omega) (by omega)) ml_L_144 im_X4_would se_X4_would ini_X4 cd_X4_would ds_X4_would ⟨Nat.le_of_ble_eq_true rfl, Nat.le_of_ble_eq_true rfl⟩ hK (va_P_l (va_P_r (va_P_r hP))) (va_recv hK.1 (va_P_l (va_P_r (va_P_r hP))) (ci := 4) (q0 := 0) rfl rfl) rfl hl.1 rfl (Nat.le_of_ble_eq_true rfl) ⟨by show cells + 3 ≤ 600074; omega, by show slots + 12 ≤ 7301550; omega⟩ dL_law_1263 ?_
              refine z_iadd S dL_law_1266 ?_
              refine y_iast S hK hP hD hS (1 + ((0 : Int).toNat)) ((ap_at1 (n := 1) rfl).trans (rw_at (i := 0) (by omega))) (by omega) (by omega) dL_law_1267 (fun H locs hP hD hS => ?_)
              rw [ap_set1 (n := 1) rfl, rw_set (i := 0) (by omega)] at hP hD
              have hP : va_P D vwCl ([(q1228, .inl (g.2.2, 2, .inr (.inr (.inr (.inr (rfs 2 r1228))))))] ++ (rwW g r1228 ((c.1 3).toNat) (up2 (gtF c (k1189 : Int) k1237) 0 (k1237 : Int) ((dowT c (k1237 : Int) 2) + (wouldT c (k1189 : Int) (k1237 : Int) 0))) 2 ++ (CW g a c ++ SW g b t))) H := hP
              have hD : va_D A ([(q1228, .inl (g.2.2, 2, .inr (.inr (.inr (.inr (rfs 2 r1228))))))] ++ (rwW g r1228 ((c.1 3).toNat) (up2 (gtF c (k1189 : Int) k1237) 0 (k1237 : Int) ((dowT c (k1237 : Int) 2) + (wouldT c (k1189 : Int) (k1237 : Int) 0))) 2 ++ (CW g a c ++ SW g b t))) := hD
              refine lv_aload S.1 S.2.1 dL_law_1268 (lv_at hl 1 rfl) ?_
              refine z_iconst S dL_law_1270 ?_
              refine y_ald2 S hK hP 0 rfl (Nat.le_refl _) (by decide) (by omega) dL_law_1271 ?_
              refine lv_iload S.1 S.2.1 dL_law_1272 (lv_at hl 0 rfl) ?_
              refine lv_aload_n S.1 S.2.1 dL_law_1274 rfl (lv_at hl 4 rfl) ?_
              refine lv_iload S.1 S.2.1 dL_law_1275 (lv_at hl 0 rfl) ?_
              refine z_iconst S dL_law_1277 ?_
              refine z_rV (As := [.int (zI (k1237 : Int)), .int (zI 2)]) (rest := [.int (zI (k1237 : Int)), .ref (r1228 (1 : Int).toNat)]) S (r_X4_told l D g a c hI (k1237 : Int) 2 (by omega) (by omega)) ml_L_121 im_X4_told se_X4_told ini_X4 cd_X4_told ds_X4_told ⟨Nat.le_of_ble_eq_true rfl, Nat.le_of_ble_eq_true rfl⟩ hK (va_P_l (va_P_r (va_P_r hP))) (va_recv hK.1 (va_P_l (va_P_r (va_P_r hP))) (ci := 4) (q0 := 0) rfl rfl) rfl hl.1 rfl (Nat.le_of_ble_eq_true rfl) ⟨by show cells + 3 ≤ 600074; omega, by show slots + 12 ≤ 7301550; omega⟩ dL_law_1278 ?_
              refine lv_aload_n S.1 S.2.1 dL_law_1281 rfl (lv_at hl 4 rfl) ?_
              refine lv_iload S.1 S.2.1 dL_law_1282 (lv_at hl 2 rfl) ?_
              refine lv_iload S.1 S.2.1 dL_law_1284 (lv_at hl 0 rfl) ?_
              refine z_iconst S dL_law_1286 ?_
              refine z_rV (As := [.int (zI (k1189 : Int)), .int (zI (k1237 : Int)), .int (zI 1)]) (rest := [.int (zI (dowT c (k1237 : Int) 2)), .int (zI (k1237 : Int)), .ref (r1228 (1 : Int).toNat)]) S (r_X4_would l D g a c hI (k1189 : Int) (k1237 : Int) 1 (by omega) (by omega) (by omega)) ml_L_144 im_X4_would se_X4_would ini_X4 cd_X4_would ds_X4_would ⟨Nat.le_of_ble_eq_true rfl, Nat.le_of_ble_eq_true rfl⟩ hK (va_P_l (va_P_r (va_P_r hP))) (va_recv hK.1 (va_P_l (va_P_r (va_P_r hP))) (ci := 4) (q0 := 0) rfl rfl) rfl hl.1 rfl (Nat.le_of_ble_eq_true rfl) ⟨by show cells + 3 ≤ 600074; omega, by show slots + 12 ≤ 7301550; omega⟩ dL_law_1287 ?_
              refine z_iadd S dL_law_1290 ?_
              refine y_iast S hK hP hD hS (1 + ((1 : Int).toNat)) ((ap_at1 (n := 1) rfl).trans (rw_at (i := 1) (by omega))) (by omega) (by omega) dL_law_1291 (fun H locs hP hD hS => ?_)
              rw [ap_set1 (n := 1) rfl, rw_set (i := 1) (by omega)] at hP hD
              have hP : va_P D vwCl ([(q1228, .inl (g.2.2, 2, .inr (.inr (.inr (.inr (rfs 2 r1228))))))] ++ (rwW g r1228 ((c.1 3).toNat) (up2 (up2 (gtF c (k1189 : Int) k1237) 0 (k1237 : Int) ((dowT c (k1237 : Int) 2) + (wouldT c (k1189 : Int) (k1237 : Int) 0))) 1 (k1237 : Int) ((dowT c (k1237 : Int) 2) + (wouldT c (k1189 : Int) (k1237 : Int) 1))) 2 ++ (CW g a c ++ SW g b t))) H := hP
              have hD : va_D A ([(q1228, .inl (g.2.2, 2, .inr (.inr (.inr (.inr (rfs 2 r1228))))))] ++ (rwW g r1228 ((c.1 3).toNat) (up2 (up2 (gtF c (k1189 : Int) k1237) 0 (k1237 : Int) ((dowT c (k1237 : Int) 2) + (wouldT c (k1189 : Int) (k1237 : Int) 0))) 1 (k1237 : Int) ((dowT c (k1237 : Int) 2) + (wouldT c (k1189 : Int) (k1237 : Int) 1))) 2 ++ (CW g a c ++ SW g b t))) := hD
              refine z_iinc (lv' := [(27, .int (zI ((k1237 : Int) + 1))), (26, .ref q1228), (25, .int (zI (k1189 : Int))), (0, .ref sc), (1, .ref (a 0)), (2, .ref (b 0)), (3, .int (zI k)), (4, .int x), (7, .int (zI (c.1 3)))]) S dL_law_1292 hl (k := 0) rfl (by decide) rfl (fun ls hl => ?_)
              refine z_goto (tgt := 1237) S dL_law_1295 (by decide) ?_
              have hw : ([(q1228, .inl (g.2.2, 2, .inr (.inr (.inr (.inr (rfs 2 r1228))))))] ++ (rwW g r1228 ((c.1 3).toNat) (up2 (up2 (gtF c (k1189 : Int) k1237) 0 (k1237 : Int) ((dowT c (k1237 : Int) 2) + (wouldT c (k1189 : Int) (k1237 : Int) 0))) 1 (k1237 : Int) ((dowT c (k1237 : Int) 2) + (wouldT c (k1189 : Int) (k1237 : Int) 1))) 2 ++ (CW g a c ++ SW g b t))) = ([(q1228, .inl (g.2.2, 2, .inr (.inr (.inr (.inr (rfs 2 r1228))))))] ++ (rwW g r1228 ((c.1 3).toNat) (gtF c (k1189 : Int) (k1237 + 1)) 2 ++ (CW g a c ++ SW g b t))) := by exact rfl
              rw [hw] at hP hD
              exact ih1237 () trivial _ _ hP hD hS _ (lv_sub hl [0, 1, 2, 3, 4, 5, 6, 7, 8] rfl)
          · have hl : lv_has ls 31 [(27, .int (zI (((c.1 3).toNat : Nat) : Int))), (26, .ref q1228), (25, .int (zI (k1189 : Int))), (0, .ref sc), (1, .ref (a 0)), (2, .ref (b 0)), (3, .int (zI k)), (4, .int x), (7, .int (zI (c.1 3)))] := hl
            have hP : va_P D vwCl ([(q1228, .inl (g.2.2, 2, .inr (.inr (.inr (.inr (rfs 2 r1228))))))] ++ (rwW g r1228 ((c.1 3).toNat) (gtF c (k1189 : Int) ((c.1 3).toNat)) 2 ++ (CW g a c ++ SW g b t))) H := hP
            have hD : va_D A ([(q1228, .inl (g.2.2, 2, .inr (.inr (.inr (.inr (rfs 2 r1228))))))] ++ (rwW g r1228 ((c.1 3).toNat) (gtF c (k1189 : Int) ((c.1 3).toNat)) 2 ++ (CW g a c ++ SW g b t))) := hD
            refine lv_iload S.1 S.2.1 dL_law_1237 (lv_at hl 0 rfl) ?_
            refine lv_iload S.1 S.2.1 dL_law_1239 (lv_at hl 8 rfl) ?_
            refine z_icmp_ge (tgt := 1298) S dL_law_1241 (by decide) (by omega) (fun h_6 => ?_) (fun h_6 => ?_)
            · refine lv_aload_n S.1 S.2.1 dL_law_1298 rfl (lv_at hl 4 rfl) ?_
              refine z_bipush S (by decide) dL_law_1299 ?_
              refine z_rV (As := [.int (zI 7)]) (rest := []) S (r_X4_count l D g a c hI 7 (by omega)) ml_L_118 im_X4_count se_X4_count ini_X4 cd_X4_count ds_X4_count ⟨Nat.le_of_ble_eq_true rfl, Nat.le_of_ble_eq_true rfl⟩ hK (va_P_l (va_P_r (va_P_r hP))) (va_recv hK.1 (va_P_l (va_P_r (va_P_r hP))) (ci := 4) (q0 := 0) rfl rfl) rfl hl.1 rfl (Nat.le_of_ble_eq_true rfl) ⟨by show cells + 3 ≤ 600074; omega, by show slots + 12 ≤ 7301550; omega⟩ dL_law_1301 ?_
              refine z_top (c.1 1) (rfl) ?_
              refine lv_istore (lv' := [(27, .int (zI (c.1 1))), (26, .ref q1228), (25, .int (zI (k1189 : Int))), (0, .ref sc), (1, .ref (a 0)), (2, .ref (b 0)), (3, .int (zI k)), (4, .int x), (7, .int (zI (c.1 3)))]) S.1 S.2.1 dL_law_1304 hl (by decide) rfl (fun ls hl => ?_)
              refine lv_aload_n S.1 S.2.1 dL_law_1306 rfl (lv_at hl 4 rfl) ?_
              refine lv_iload S.1 S.2.1 dL_law_1307 (lv_at hl 2 rfl) ?_
              refine z_bipush S (by decide) dL_law_1309 ?_
              have hno := L_notov (c := c) (q := (k1189 : Int)) (by omega)
              have hk3 := kDig_3 (c := c) (q := (k1189 : Int)) (by9 := 20) (by omega) (by omega)
              have hnS : ¬ sOv t (k1189 : Int) := fun z => hno ((R_over hR hT (by omega)).mpr z)
              refine y_xC (X := ([(q1228, .inl (g.2.2, 2, .inr (.inr (.inr (.inr (rfs 2 r1228))))))] ++ rwW g r1228 ((c.1 3).toNat) (gtF c (k1189 : Int) ((c.1 3).toNat)) 2)) (c1 := (digC1 c (k1189 : Int) 20)) (As := [.int (zI (k1189 : Int)), .int (zI 20)]) (rest := []) S (m_X4_dig l D g a c hI hst hda (k1189 : Int) 20 (by omega) (by omega) (by omega)) ml_L_96 im_X4_dig se_X4_dig cd_X4_dig ds_X4_dig ⟨Nat.le_of_ble_eq_true rfl, Nat.le_of_ble_eq_true rfl⟩ hX hZ hP hD hAc hS rfl hl.1 rfl (Nat.le_of_ble_eq_true rfl) ⟨(by show cells + 3 + 1 ≤ 600074; omega), (by show slots + 12 + 6 ≤ 7301550; omega)⟩ dL_law_1311 (fun E ce q9 H locs hx hP hS hc1 hc2 hc3 => ?_) (fun hok H locs hP hD hS => ?_)
              · rcases hx with ⟨hk, rfl⟩ | ⟨hk, rfl⟩ | ⟨hk, rfl⟩
                · exact absurd hk (by rw [hk3, if_neg hno]; decide)
                · exact absurd hk (by rw [hk3, if_neg hno]; decide)
                · exact absurd hk (by rw [hk3, if_neg hno]; decide)
              have hP : va_P D vwCl ([(q1228, .inl (g.2.2, 2, .inr (.inr (.inr (.inr (rfs 2 r1228))))))] ++ (rwW g r1228 ((c.1 3).toNat) (gtF c (k1189 : Int) ((c.1 3).toNat)) 2 ++ (CW g a (digC1 c (k1189 : Int) 20) ++ SW g b t))) H := hP
              have hD : va_D A ([(q1228, .inl (g.2.2, 2, .inr (.inr (.inr (.inr (rfs 2 r1228))))))] ++ (rwW g r1228 ((c.1 3).toNat) (gtF c (k1189 : Int) ((c.1 3).toNat)) 2 ++ (CW g a (digC1 c (k1189 : Int) 20) ++ SW g b t))) := hD
              have hI2 := IC_dig hI (by omega) (q := (k1189 : Int)) (by9 := 20) (by omega)
              have hT2 := IT_dig hT (q := (k1189 : Int)) (by9 := 20) (by omega)
              obtain ⟨hR2, hdp⟩ := R_dig hR hI hT (q := (k1189 : Int)) (by9 := 20) (by omega) (by omega) hnS
              obtain ⟨hd4, hd2, hdb, hd3, hdf, ⟨hdn3, hdn5⟩, hdd⟩ := L_dig hR hI hT (q := (k1189 : Int)) (by omega) hno
              refine lv_istore (lv' := [(28, .int (zI (dpn c (k1189 : Int) 20))), (27, .int (zI (c.1 1))), (26, .ref q1228), (25, .int (zI (k1189 : Int))), (0, .ref sc), (1, .ref (a 0)), (2, .ref (b 0)), (3, .int (zI k)), (4, .int x), (7, .int (zI (c.1 3)))]) S.1 S.2.1 dL_law_1314 hl (by decide) rfl (fun ls hl => ?_)
              refine lv_aload_n S.1 S.2.1 dL_law_1316 rfl (lv_at hl 6 rfl) ?_
              refine lv_iload S.1 S.2.1 dL_law_1317 (lv_at hl 3 rfl) ?_
              refine z_bipush S (by decide) dL_law_1319 ?_
              refine y_sD (X := ([(q1228, .inl (g.2.2, 2, .inr (.inr (.inr (.inr (rfs 2 r1228))))))] ++ rwW g r1228 ((c.1 3).toNat) (gtF c (k1189 : Int) ((c.1 3).toNat)) 2)) (PRE := CW g a (digC1 c (k1189 : Int) 20)) (rest := []) (q := (k1189 : Int)) (by9 := 20) S hT (by show _ ∧ _ < t.1 5; omega) (by omega) hB ml_L_93 ⟨Nat.le_of_ble_eq_true rfl, Nat.le_of_ble_eq_true rfl⟩ hK hP hD hA hS hl.1 (Nat.le_of_ble_eq_true rfl) ⟨by show cells + 4 ≤ 600074; omega, by show slots + 18 ≤ 7301550; omega⟩ dL_law_1321 (fun H locs hP hD hB hS => ?_)
              have hP : va_P D vwCl ([(q1228, .inl (g.2.2, 2, .inr (.inr (.inr (.inr (rfs 2 r1228))))))] ++ (rwW g r1228 ((c.1 3).toNat) (gtF c (k1189 : Int) ((c.1 3).toNat)) 2 ++ (CW g a (digC1 c (k1189 : Int) 20) ++ SW g b (sDig t (k1189 : Int) 20)))) H := hP
              have hD : va_D A ([(q1228, .inl (g.2.2, 2, .inr (.inr (.inr (.inr (rfs 2 r1228))))))] ++ (rwW g r1228 ((c.1 3).toNat) (gtF c (k1189 : Int) ((c.1 3).toNat)) 2 ++ (CW g a (digC1 c (k1189 : Int) 20) ++ SW g b (sDig t (k1189 : Int) 20)))) := hD
              refine lv_iload S.1 S.2.1 dL_law_1324 (lv_at hl 0 rfl) ?_
              refine z_icmp_ne (tgt := 1352) S dL_law_1326 (by decide) (by omega) (fun h_7 => ?_) (fun h_7 => ?_)
              · exact absurd h_7 (by omega)
              · refine lv_aload_n S.1 S.2.1 dL_law_1329 rfl (lv_at hl 5 rfl) ?_
                refine lv_iload S.1 S.2.1 dL_law_1330 (lv_at hl 3 rfl) ?_
                refine z_iconst S dL_law_1332 ?_
                refine z_rV (As := [.int (zI (k1189 : Int)), .int (zI 4)]) (rest := []) S (r_X4_about l D g a (digC1 c (k1189 : Int) 20) hI2 (k1189 : Int) 4 (by omega) (by omega)) ml_L_141 im_X4_about se_X4_about ini_X4 cd_X4_about ds_X4_about ⟨Nat.le_of_ble_eq_true rfl, Nat.le_of_ble_eq_true rfl⟩ hK (va_P_l (va_P_r (va_P_r hP))) (va_recv hK.1 (va_P_l (va_P_r (va_P_r hP))) (ci := 4) (q0 := 0) rfl rfl) rfl hl.1 rfl (Nat.le_of_ble_eq_true rfl) ⟨by show cells + 4 ≤ 600074; omega, by show slots + 18 ≤ 7301550; omega⟩ dL_law_1333 ?_
                refine z_iconst S dL_law_1336 ?_
                refine z_icmp_ne (tgt := 1352) S dL_law_1337 (by decide) (by omega) (fun h_8 => ?_) (fun h_8 => ?_)
                · exact absurd h_8 (by omega)
                · refine lv_aload_n S.1 S.2.1 dL_law_1340 rfl (lv_at hl 5 rfl) ?_
                  refine lv_iload S.1 S.2.1 dL_law_1341 (lv_at hl 3 rfl) ?_
                  refine z_iconst S dL_law_1343 ?_
                  refine z_rV (As := [.int (zI (k1189 : Int)), .int (zI 2)]) (rest := []) S (r_X4_about l D g a (digC1 c (k1189 : Int) 20) hI2 (k1189 : Int) 2 (by omega) (by omega)) ml_L_141 im_X4_about se_X4_about ini_X4 cd_X4_about ds_X4_about ⟨Nat.le_of_ble_eq_true rfl, Nat.le_of_ble_eq_true rfl⟩ hK (va_P_l (va_P_r (va_P_r hP))) (va_recv hK.1 (va_P_l (va_P_r (va_P_r hP))) (ci := 4) (q0 := 0) rfl rfl) rfl hl.1 rfl (Nat.le_of_ble_eq_true rfl) ⟨by show cells + 4 ≤ 600074; omega, by show slots + 18 ≤ 7301550; omega⟩ dL_law_1344 ?_
                  refine lv_iload S.1 S.2.1 dL_law_1347 (lv_at hl 0 rfl) ?_
                  refine z_icmp_eq (tgt := 1354) S dL_law_1349 (by decide) (by omega) (fun h_9 => ?_) (fun h_9 => ?_)
                  · refine lv_aload_n S.1 S.2.1 dL_law_1354 rfl (lv_at hl 5 rfl) ?_
                    refine lv_iload S.1 S.2.1 dL_law_1355 (lv_at hl 3 rfl) ?_
                    refine z_iconst S dL_law_1357 ?_
                    refine z_rV (As := [.int (zI (k1189 : Int)), .int (zI 3)]) (rest := []) S (r_X4_about l D g a (digC1 c (k1189 : Int) 20) hI2 (k1189 : Int) 3 (by omega) (by omega)) ml_L_141 im_X4_about se_X4_about ini_X4 cd_X4_about ds_X4_about ⟨Nat.le_of_ble_eq_true rfl, Nat.le_of_ble_eq_true rfl⟩ hK (va_P_l (va_P_r (va_P_r hP))) (va_recv hK.1 (va_P_l (va_P_r (va_P_r hP))) (ci := 4) (q0 := 0) rfl rfl) rfl hl.1 rfl (Nat.le_of_ble_eq_true rfl) ⟨by show cells + 4 ≤ 600074; omega, by show slots + 18 ≤ 7301550; omega⟩ dL_law_1358 ?_
                    refine lv_istore (lv' := [(29, .int (zI (pitT (digC1 c (k1189 : Int) 20) (k1189 : Int) 3))), (28, .int (zI (dpn c (k1189 : Int) 20))), (27, .int (zI (c.1 1))), (26, .ref q1228), (25, .int (zI (k1189 : Int))), (0, .ref sc), (1, .ref (a 0)), (2, .ref (b 0)), (3, .int (zI k)), (4, .int x), (7, .int (zI (c.1 3)))]) S.1 S.2.1 dL_law_1361 hl (by decide) rfl (fun ls hl => ?_)
                    refine z_iconst S dL_law_1363 ?_
                    refine lv_istore (lv' := [(30, .int (zI 0)), (29, .int (zI (pitT (digC1 c (k1189 : Int) 20) (k1189 : Int) 3))), (28, .int (zI (dpn c (k1189 : Int) 20))), (27, .int (zI (c.1 1))), (26, .ref q1228), (25, .int (zI (k1189 : Int))), (0, .ref sc), (1, .ref (a 0)), (2, .ref (b 0)), (3, .int (zI k)), (4, .int x), (7, .int (zI (c.1 3)))]) S.1 S.2.1 dL_law_1364 hl (by decide) rfl (fun ls hl => ?_)
                    refine y_for (σ := Unit) (D := D) (A := A) (nL := 31) (H0 := s.heap) ((c.1 3).toNat) (fun (_u : Unit) => s) (fun (k1366 : Nat) (_u : Unit) => [(30, .int (zI (k1366 : Int))), (29, .int (zI (pitT (digC1 c (k1189 : Int) 20) (k1189 : Int) 3))), (28, .int (zI (dpn c (k1189 : Int) 20))), (27, .int (zI (c.1 1))), (26, .ref q1228), (25, .int (zI (k1189 : Int))), (0, .ref sc), (1, .ref (a 0)), (2, .ref (b 0)), (3, .int (zI k)), (4, .int x), (7, .int (zI (c.1 3)))]) (fun (k1366 : Nat) (_u : Unit) => ([(q1228, .inl (g.2.2, 2, .inr (.inr (.inr (.inr (rfs 2 r1228))))))] ++ (rwW g r1228 ((c.1 3).toNat) (gtF c (k1189 : Int) ((c.1 3).toNat)) 2 ++ (CW g a (digC1 c (k1189 : Int) 20) ++ SW g b (sDig t (k1189 : Int) 20))))) (fun _ => cells + 4) (fun _ => slots + 18) (fun (k1366 : Nat) (_u : Unit) => True) (fun k1366 hk1366 _u hJ1366 H locs hP hD hS ls hl ih1366 => ?_) (fun _u hJ1366 H locs hP hD hS ls hl => ?_) 0 (by omega) () trivial _ _ hP hD hS ls (lv_sub hl [0, 1, 2, 3, 4, 5, 6, 7, 8, 9, 10, 11] rfl)
                    · have hl : lv_has ls 31 [(30, .int (zI (k1366 : Int))), (29, .int (zI (pitT (digC1 c (k1189 : Int) 20) (k1189 : Int) 3))), (28, .int (zI (dpn c (k1189 : Int) 20))), (27, .int (zI (c.1 1))), (26, .ref q1228), (25, .int (zI (k1189 : Int))), (0, .ref sc), (1, .ref (a 0)), (2, .ref (b 0)), (3, .int (zI k)), (4, .int x), (7, .int (zI (c.1 3)))] := hl
                      have hP : va_P D vwCl ([(q1228, .inl (g.2.2, 2, .inr (.inr (.inr (.inr (rfs 2 r1228))))))] ++ (rwW g r1228 ((c.1 3).toNat) (gtF c (k1189 : Int) ((c.1 3).toNat)) 2 ++ (CW g a (digC1 c (k1189 : Int) 20) ++ SW g b (sDig t (k1189 : Int) 20)))) H := hP
                      have hD : va_D A ([(q1228, .inl (g.2.2, 2, .inr (.inr (.inr (.inr (rfs 2 r1228))))))] ++ (rwW g r1228 ((c.1 3).toNat) (gtF c (k1189 : Int) ((c.1 3).toNat)) 2 ++ (CW g a (digC1 c (k1189 : Int) 20) ++ SW g b (sDig t (k1189 : Int) 20)))) := hD
                      refine lv_iload S.1 S.2.1 dL_law_1366 (lv_at hl 0 rfl) ?_
                      refine lv_iload S.1 S.2.1 dL_law_1368 (lv_at hl 11 rfl) ?_
                      refine z_icmp_ge (tgt := 1421) S dL_law_1370 (by decide) (by omega) (fun h_10 => ?_) (fun h_10 => ?_)
                      · exact absurd h_10 (by omega)
                      · obtain ⟨⟨hdk, hdk1, hdk2⟩, hdw⟩ := hdd (k1366 : Int) (by omega) (by omega)
                        refine lv_aload_n S.1 S.2.1 dL_law_1373 rfl (lv_at hl 7 rfl) ?_
                        refine lv_iload S.1 S.2.1 dL_law_1374 (lv_at hl 0 rfl) ?_
                        refine z_iconst S dL_law_1376 ?_
                        refine z_rV (As := [.int (zI (k1366 : Int)), .int (zI 2)]) (rest := []) S (r_X4_told l D g a (digC1 c (k1189 : Int) 20) hI2 (k1366 : Int) 2 (by omega) (by omega)) ml_L_121 im_X4_told se_X4_told ini_X4 cd_X4_told ds_X4_told ⟨Nat.le_of_ble_eq_true rfl, Nat.le_of_ble_eq_true rfl⟩ hK (va_P_l (va_P_r (va_P_r hP))) (va_recv hK.1 (va_P_l (va_P_r (va_P_r hP))) (ci := 4) (q0 := 0) rfl rfl) rfl hl.1 rfl (Nat.le_of_ble_eq_true rfl) ⟨by show cells + 4 ≤ 600074; omega, by show slots + 18 ≤ 7301550; omega⟩ dL_law_1377 ?_
                        refine lv_aload S.1 S.2.1 dL_law_1380 (lv_at hl 4 rfl) ?_
                        refine lv_iload S.1 S.2.1 dL_law_1382 (lv_at hl 1 rfl) ?_
                        refine y_ald2 S hK hP 0 rfl (Nat.le_refl _) (by decide) (by omega) dL_law_1384 ?_
                        refine lv_iload S.1 S.2.1 dL_law_1385 (lv_at hl 0 rfl) ?_
                        refine z_iald (F := (gtF c (k1189 : Int) ((c.1 3).toNat)) (pitT (digC1 c (k1189 : Int) 20) (k1189 : Int) 3)) S hK hP (1 + ((pitT (digC1 c (k1189 : Int) 20) (k1189 : Int) 3).toNat)) ((ap_at1 (n := 1) rfl).trans (rw_at (i := pitT (digC1 c (k1189 : Int) 20) (k1189 : Int) 3) (by omega))) (by omega) (by omega) dL_law_1387 ?_
                        refine z_icmp_ne (tgt := 1413) S dL_law_1388 (by decide) (by omega) (fun h_11 => ?_) (fun h_11 => ?_)
                        · exact absurd h_11 (by omega)
                        · refine lv_aload_n S.1 S.2.1 dL_law_1391 rfl (lv_at hl 7 rfl) ?_
                          refine lv_iload S.1 S.2.1 dL_law_1392 (lv_at hl 5 rfl) ?_
                          refine lv_iload S.1 S.2.1 dL_law_1394 (lv_at hl 0 rfl) ?_
                          refine y_joinV (nL := 31) (fun v => 0 ≤ v ∧ v ≤ 1) 1407 (lv := [(30, .int (zI (k1366 : Int))), (29, .int (zI (pitT (digC1 c (k1189 : Int) 20) (k1189 : Int) 3))), (28, .int (zI (dpn c (k1189 : Int) 20))), (27, .int (zI (c.1 1))), (26, .ref q1228), (25, .int (zI (k1189 : Int))), (0, .ref sc), (1, .ref (a 0)), (2, .ref (b 0)), (3, .int (zI k)), (4, .int x), (7, .int (zI (c.1 3)))]) [.int (zI (k1366 : Int)), .int (zI (k1189 : Int)), .ref (a 0)] (fun J1407 => ?_) (fun v1407 hv1407 ls hl => ?_)
                          · refine lv_iload S.1 S.2.1 dL_law_1396 (lv_at hl 1 rfl) ?_
                            refine z_iconst S dL_law_1398 ?_
                            refine z_icmp_ne (tgt := 1406) S dL_law_1399 (by decide) (by omega) (fun h_12 => ?_) (fun h_12 => ?_)
                            · refine z_iconst S dL_law_1406 ?_
                              exact J1407 0 (by omega) ls hl
                            · refine z_iconst S dL_law_1402 ?_
                              refine z_goto (tgt := 1407) S dL_law_1403 (by decide) ?_
                              exact J1407 1 (by omega) ls hl
                          · have hl : lv_has ls 31 [(30, .int (zI (k1366 : Int))), (29, .int (zI (pitT (digC1 c (k1189 : Int) 20) (k1189 : Int) 3))), (28, .int (zI (dpn c (k1189 : Int) 20))), (27, .int (zI (c.1 1))), (26, .ref q1228), (25, .int (zI (k1189 : Int))), (0, .ref sc), (1, .ref (a 0)), (2, .ref (b 0)), (3, .int (zI k)), (4, .int x), (7, .int (zI (c.1 3)))] := hl
                            have hv1407 : 0 ≤ v1407 ∧ v1407 ≤ 1 := hv1407
                            have hdw9 := hdw v1407
                            refine z_rV (As := [.int (zI (k1189 : Int)), .int (zI (k1366 : Int)), .int (zI v1407)]) (rest := []) S (r_X4_would l D g a (digC1 c (k1189 : Int) 20) hI2 (k1189 : Int) (k1366 : Int) v1407 (by omega) (by omega) (by omega)) ml_L_144 im_X4_would se_X4_would ini_X4 cd_X4_would ds_X4_would ⟨Nat.le_of_ble_eq_true rfl, Nat.le_of_ble_eq_true rfl⟩ hK (va_P_l (va_P_r (va_P_r hP))) (va_recv hK.1 (va_P_l (va_P_r (va_P_r hP))) (ci := 4) (q0 := 0) rfl rfl) rfl hl.1 rfl (Nat.le_of_ble_eq_true rfl) ⟨by show cells + 4 ≤ 600074; omega, by show slots + 18 ≤ 7301550; omega⟩ dL_law_1407 ?_
                            refine z_if_eq (tgt := 1415) S dL_law_1410 (by decide) (by omega) (fun h_13 => ?_) (fun h_13 => ?_)
                            · refine z_iinc (lv' := [(30, .int (zI ((k1366 : Int) + 1))), (29, .int (zI (pitT (digC1 c (k1189 : Int) 20) (k1189 : Int) 3))), (28, .int (zI (dpn c (k1189 : Int) 20))), (27, .int (zI (c.1 1))), (26, .ref q1228), (25, .int (zI (k1189 : Int))), (0, .ref sc), (1, .ref (a 0)), (2, .ref (b 0)), (3, .int (zI k)), (4, .int x), (7, .int (zI (c.1 3)))]) S dL_law_1415 hl (k := 0) rfl (by decide) rfl (fun ls hl => ?_)
                              refine z_goto (tgt := 1366) S dL_law_1418 (by decide) ?_
                              exact ih1366 () trivial _ _ hP hD hS _ (lv_sub hl [0, 1, 2, 3, 4, 5, 6, 7, 8, 9, 10, 11] rfl)
                            · exact absurd h_13 (by omega)
                    · have hl : lv_has ls 31 [(30, .int (zI (((c.1 3).toNat : Nat) : Int))), (29, .int (zI (pitT (digC1 c (k1189 : Int) 20) (k1189 : Int) 3))), (28, .int (zI (dpn c (k1189 : Int) 20))), (27, .int (zI (c.1 1))), (26, .ref q1228), (25, .int (zI (k1189 : Int))), (0, .ref sc), (1, .ref (a 0)), (2, .ref (b 0)), (3, .int (zI k)), (4, .int x), (7, .int (zI (c.1 3)))] := hl
                      have hP : va_P D vwCl ([(q1228, .inl (g.2.2, 2, .inr (.inr (.inr (.inr (rfs 2 r1228))))))] ++ (rwW g r1228 ((c.1 3).toNat) (gtF c (k1189 : Int) ((c.1 3).toNat)) 2 ++ (CW g a (digC1 c (k1189 : Int) 20) ++ SW g b (sDig t (k1189 : Int) 20)))) H := hP
                      have hD : va_D A ([(q1228, .inl (g.2.2, 2, .inr (.inr (.inr (.inr (rfs 2 r1228))))))] ++ (rwW g r1228 ((c.1 3).toNat) (gtF c (k1189 : Int) ((c.1 3).toNat)) 2 ++ (CW g a (digC1 c (k1189 : Int) 20) ++ SW g b (sDig t (k1189 : Int) 20)))) := hD
                      refine lv_iload S.1 S.2.1 dL_law_1366 (lv_at hl 0 rfl) ?_
                      refine lv_iload S.1 S.2.1 dL_law_1368 (lv_at hl 11 rfl) ?_
                      refine z_icmp_ge (tgt := 1421) S dL_law_1370 (by decide) (by omega) (fun h_14 => ?_) (fun h_14 => ?_)
                      · refine lv_aload_n S.1 S.2.1 dL_law_1421 rfl (lv_at hl 7 rfl) ?_
                        refine z_bipush S (by decide) dL_law_1422 ?_
                        refine z_rV (As := [.int (zI 7)]) (rest := []) S (r_X4_count l D g a (digC1 c (k1189 : Int) 20) hI2 7 (by omega)) ml_L_118 im_X4_count se_X4_count ini_X4 cd_X4_count ds_X4_count ⟨Nat.le_of_ble_eq_true rfl, Nat.le_of_ble_eq_true rfl⟩ hK (va_P_l (va_P_r (va_P_r hP))) (va_recv hK.1 (va_P_l (va_P_r (va_P_r hP))) (ci := 4) (q0 := 0) rfl rfl) rfl hl.1 rfl (Nat.le_of_ble_eq_true rfl) ⟨by show cells + 4 ≤ 600074; omega, by show slots + 18 ≤ 7301550; omega⟩ dL_law_1424 ?_
                        refine z_top ((digC1 c (k1189 : Int) 20).1 1) (rfl) ?_
                        refine lv_iload S.1 S.2.1 dL_law_1427 (lv_at hl 3 rfl) ?_
                        refine z_icmp_lt (tgt := 1460) S dL_law_1429 (by decide) (by omega) (fun h_15 => ?_) (fun h_15 => ?_)
                        · exact absurd h_15 (by omega)
                        · refine lv_aload_n S.1 S.2.1 dL_law_1432 rfl (lv_at hl 7 rfl) ?_
                          refine z_bipush S (by decide) dL_law_1433 ?_
                          refine z_rV (As := [.int (zI 7)]) (rest := []) S (r_X4_count l D g a (digC1 c (k1189 : Int) 20) hI2 7 (by omega)) ml_L_118 im_X4_count se_X4_count ini_X4 cd_X4_count ds_X4_count ⟨Nat.le_of_ble_eq_true rfl, Nat.le_of_ble_eq_true rfl⟩ hK (va_P_l (va_P_r (va_P_r hP))) (va_recv hK.1 (va_P_l (va_P_r (va_P_r hP))) (ci := 4) (q0 := 0) rfl rfl) rfl hl.1 rfl (Nat.le_of_ble_eq_true rfl) ⟨by show cells + 4 ≤ 600074; omega, by show slots + 18 ≤ 7301550; omega⟩ dL_law_1435 ?_
                          refine z_top ((digC1 c (k1189 : Int) 20).1 1) (rfl) ?_
                          refine lv_iload S.1 S.2.1 dL_law_1438 (lv_at hl 3 rfl) ?_
                          refine lv_aload_n S.1 S.2.1 dL_law_1440 rfl (lv_at hl 7 rfl) ?_
                          refine lv_iload S.1 S.2.1 dL_law_1441 (lv_at hl 5 rfl) ?_
                          refine z_iconst S dL_law_1443 ?_
                          refine z_rV (As := [.int (zI (k1189 : Int)), .int (zI 5)]) (rest := [.int (zI (c.1 1)), .int (zI ((digC1 c (k1189 : Int) 20).1 1))]) S (r_X4_about l D g a (digC1 c (k1189 : Int) 20) hI2 (k1189 : Int) 5 (by omega) (by omega)) ml_L_141 im_X4_about se_X4_about ini_X4 cd_X4_about ds_X4_about ⟨Nat.le_of_ble_eq_true rfl, Nat.le_of_ble_eq_true rfl⟩ hK (va_P_l (va_P_r (va_P_r hP))) (va_recv hK.1 (va_P_l (va_P_r (va_P_r hP))) (ci := 4) (q0 := 0) rfl rfl) rfl hl.1 rfl (Nat.le_of_ble_eq_true rfl) ⟨by show cells + 4 ≤ 600074; omega, by show slots + 18 ≤ 7301550; omega⟩ dL_law_1444 ?_
                          refine z_iadd S dL_law_1447 ?_
                          refine lv_aload_n S.1 S.2.1 dL_law_1448 rfl (lv_at hl 7 rfl) ?_
                          refine lv_iload S.1 S.2.1 dL_law_1449 (lv_at hl 5 rfl) ?_
                          refine z_bipush S (by decide) dL_law_1451 ?_
                          refine z_rV (As := [.int (zI (k1189 : Int)), .int (zI 6)]) (rest := [.int (zI ((c.1 1) + (pitT (digC1 c (k1189 : Int) 20) (k1189 : Int) 5))), .int (zI ((digC1 c (k1189 : Int) 20).1 1))]) S (r_X4_about l D g a (digC1 c (k1189 : Int) 20) hI2 (k1189 : Int) 6 (by omega) (by omega)) ml_L_141 im_X4_about se_X4_about ini_X4 cd_X4_about ds_X4_about ⟨Nat.le_of_ble_eq_true rfl, Nat.le_of_ble_eq_true rfl⟩ hK (va_P_l (va_P_r (va_P_r hP))) (va_recv hK.1 (va_P_l (va_P_r (va_P_r hP))) (ci := 4) (q0 := 0) rfl rfl) rfl hl.1 rfl (Nat.le_of_ble_eq_true rfl) ⟨by show cells + 4 ≤ 600074; omega, by show slots + 18 ≤ 7301550; omega⟩ dL_law_1453 ?_
                          refine z_iadd S dL_law_1456 ?_
                          refine z_icmp_le (tgt := 1468) S dL_law_1457 (by decide) (by omega) (fun h_16 => ?_) (fun h_16 => ?_)
                          · have hP := va_P_r (va_P_r hP)
                            have hD := va_D_r (va_D_r hD)
                            refine W.widen (k := cells + 4) (n := slots + 18) (by omega) (by omega) ?_
                            exact next _ _ _ _ _ hI2 hT2 hR2 (sDig_3 t _ _) hB hP hD hS (lv_sub hl [6, 7, 8, 9, 10] rfl)
                          · exact absurd h_16 (by omega)
                      · exact absurd h_14 (by omega)
                  · exact absurd h_9 (by omega)
            · exact absurd h_6 (by omega)
        · refine z_goto (tgt := 1462) S dL_law_1222 (by decide) ?_
          refine z_iinc (lv' := [(25, .int (zI ((k1189 : Int) + 1))), (0, .ref sc), (1, .ref (a 0)), (2, .ref (b 0)), (3, .int (zI k)), (4, .int x), (7, .int (zI (c.1 3)))]) S dL_law_1462 hl (k := 0) rfl (by decide) rfl (fun ls hl => ?_)
          refine z_goto (tgt := 1189) S dL_law_1465 (by decide) ?_
          exact ih1189 () trivial _ _ hP hD hS _ (lv_sub hl [0, 1, 2, 3, 4, 5, 6] rfl)
  · have hl : lv_has ls 31 [(25, .int (zI (((c.1 5).toNat : Nat) : Int))), (0, .ref sc), (1, .ref (a 0)), (2, .ref (b 0)), (3, .int (zI k)), (4, .int x), (7, .int (zI (c.1 3)))] := hl
    have hP : va_P D vwCl (CW g a c ++ SW g b t) H := hP
    have hD : va_D A (CW g a c ++ SW g b t) := hD
    refine lv_iload S.1 S.2.1 dL_law_1189 (lv_at hl 0 rfl) ?_
    refine lv_aload_n S.1 S.2.1 dL_law_1191 rfl (lv_at hl 2 rfl) ?_
    refine z_iconst S dL_law_1192 ?_
    refine z_rV (As := [.int (zI 3)]) (rest := [.int (zI (((c.1 5).toNat : Nat) : Int))]) S (r_X4_count l D g a c hI 3 (by omega)) ml_L_118 im_X4_count se_X4_count ini_X4 cd_X4_count ds_X4_count ⟨Nat.le_of_ble_eq_true rfl, Nat.le_of_ble_eq_true rfl⟩ hK (va_P_l hP) (va_recv hK.1 (va_P_l hP) (ci := 4) (q0 := 0) rfl rfl) rfl hl.1 rfl (Nat.le_of_ble_eq_true rfl) ⟨by show cells ≤ 600074; omega, by show slots ≤ 7301550; omega⟩ dL_law_1193 ?_
    refine z_top (c.1 5) (rfl) ?_
    refine z_icmp_ge (tgt := 1468) S dL_law_1196 (by decide) (by omega) (fun h_17 => ?_) (fun h_17 => ?_)
    · refine W.widen (k := cells + 4) (n := slots + 18) (by omega) (by omega) ?_
      exact next _ _ _ _ _ (IC_up hI (by omega)) hT hR rfl hB hP hD hS (lv_sub hl [1, 2, 3, 4, 5] rfl)
    · exact absurd h_17 (by omega)
end SEGH
