/-! THE LAW: all spots -/
section SEGD
variable {p : Program} {l : Launch} {e : Env} {s : State} {m : MethodId} {args : Array Value} {below : List Frame} {meth : Method} {co : Code} {H : Heap} {locs : List Loc} {cells slots : Nat} {Q : State → Prop}
variable {ls : Array Slot} {D : va_G} {A : Nat → Prop} {g : ClassId × ClassId × ClassId} {a b : Nat → Nat} {c : CS} {t : SS} {B : Int} {sc : Nat} {k : Int} {x : Int32}
set_option maxHeartbeats 4000000 in
set_option maxRecDepth 100000 in
theorem lw_D (S : CallFix p m co cL_law 31 s args AW RL) (hX : KX D g s) (hZ : ZQ A s s.heap) (hst : l.stackTraces = false) (hda : CD 21 a) (hA : ∀ q, s.heap.size ≤ q → A q) (hAc : ∀ q, CA 21 a q → A q) (hI : IC B c) (hB8 : B ≤ 800000000) (hT : IT t) (hR : RS c t) (h3 : 1 ≤ t.1 3) (hB : SB A b t) (hcl : cells + 10 ≤ 600074 ∧ slots + 100 ≤ 7301550) (hP : va_P D vwCl (CW g a c ++ SW g b t) H) (hD : va_D A (CW g a c ++ SW g b t)) (hS : va_S A s.heap H locs) (hl : lv_has ls 31 [(0, .ref sc), (1, .ref (a 0)), (2, .ref (b 0)), (3, .int (zI k)), (4, .int x), (5, .long (digC c)), (7, .int (zI (c.1 3))), (10, .int (zI (c.1 4))), (11, .int (zI (paidL c (c.1 3).toNat)))]) (next : ∀ (q297 q303 : Nat) (H : Heap) (locs : List Loc) (ls : Array Slot), va_P D vwCl ([(q303, .inl (g.1, 20, .inl (zA (colD c (20 * 20))))), (q297, .inl (g.1, 20, .inl (zA (rowD c (20 * 20)))))] ++ (CW g a c ++ SW g b t)) H → va_D A ([(q303, .inl (g.1, 20, .inl (zA (colD c (20 * 20))))), (q297, .inl (g.1, 20, .inl (zA (rowD c (20 * 20)))))] ++ (CW g a c ++ SW g b t)) → va_S A s.heap H locs → lv_has ls 31 [(0, .ref sc), (1, .ref (a 0)), (2, .ref (b 0)), (3, .int (zI k)), (4, .int x), (5, .long (digC c)), (7, .int (zI (c.1 3))), (10, .int (zI (c.1 4))), (11, .int (zI (paidL c (c.1 3).toNat))), (12, .ref q297), (13, .ref q303)] → W p l e room_1 s m args below meth co H locs (cells + 2) (slots + 40) Q (F0 m 537 ls [])) : W p l e room_1 s m args below meth co H locs cells slots Q (F0 m 295 ls []) := by
  have hK := hX.1
  have hs := hT.s
  have hc := hI.s
  have hn := hR.n
  refine z_bipush S (by decide) dL_law_295 ?_
  refine y_newi S hK hP hD hS (fun q9 h9 => hA q9 (Nat.le_trans hS.1 h9)) 20 (by decide) (by show cells + 1 ≤ 600074; omega) (by show slots + 20 ≤ 7301550; omega) dL_law_297 (fun q297 H hq9 hk9 hP hD hS => ?_)
  have hP : va_P D vwCl ([(q297, .inl (g.1, 20, .inl (zA (fun _ => 0))))] ++ (CW g a c ++ SW g b t)) H := hP
  have hD : va_D A ([(q297, .inl (g.1, 20, .inl (zA (fun _ => 0))))] ++ (CW g a c ++ SW g b t)) := hD
  refine lv_astore (lv' := [(12, .ref q297), (0, .ref sc), (1, .ref (a 0)), (2, .ref (b 0)), (3, .int (zI k)), (4, .int x), (5, .long (digC c)), (7, .int (zI (c.1 3))), (10, .int (zI (c.1 4))), (11, .int (zI (paidL c (c.1 3).toNat)))]) S.1 S.2.1 dL_law_299 hl (by decide) rfl (fun ls hl => ?_)
  refine z_bipush S (by decide) dL_law_301 ?_
  refine y_newi S hK hP hD hS (fun q9 h9 => hA q9 (Nat.le_trans hS.1 h9)) 20 (by decide) (by show cells + 1 + 1 ≤ 600074; omega) (by show slots + 20 + 20 ≤ 7301550; omega) dL_law_303 (fun q303 H hq9 hk9 hP hD hS => ?_)
  have hP : va_P D vwCl ([(q303, .inl (g.1, 20, .inl (zA (fun _ => 0)))), (q297, .inl (g.1, 20, .inl (zA (fun _ => 0))))] ++ (CW g a c ++ SW g b t)) H := hP
  have hD : va_D A ([(q303, .inl (g.1, 20, .inl (zA (fun _ => 0)))), (q297, .inl (g.1, 20, .inl (zA (fun _ => 0))))] ++ (CW g a c ++ SW g b t)) := hD
  refine lv_astore (lv' := [(13, .ref q303), (12, .ref q297), (0, .ref sc), (1, .ref (a 0)), (2, .ref (b 0)), (3, .int (zI k)), (4, .int x), (5, .long (digC c)), (7, .int (zI (c.1 3))), (10, .int (zI (c.1 4))), (11, .int (zI (paidL c (c.1 3).toNat)))]) S.1 S.2.1 dL_law_305 hl (by decide) rfl (fun ls hl => ?_)
  refine z_iconst S dL_law_307 ?_
  refine lv_istore (lv' := [(14, .int (zI 0)), (13, .ref q303), (12, .ref q297), (0, .ref sc), (1, .ref (a 0)), (2, .ref (b 0)), (3, .int (zI k)), (4, .int x), (5, .long (digC c)), (7, .int (zI (c.1 3))), (10, .int (zI (c.1 4))), (11, .int (zI (paidL c (c.1 3).toNat)))]) S.1 S.2.1 dL_law_308 hl (by decide) rfl (fun ls hl => ?_)
  refine z_iconst S dL_law_310 ?_
  refine lv_istore (lv' := [(15, .int (zI 0)), (14, .int (zI 0)), (13, .ref q303), (12, .ref q297), (0, .ref sc), (1, .ref (a 0)), (2, .ref (b 0)), (3, .int (zI k)), (4, .int x), (5, .long (digC c)), (7, .int (zI (c.1 3))), (10, .int (zI (c.1 4))), (11, .int (zI (paidL c (c.1 3).toNat)))]) S.1 S.2.1 dL_law_311 hl (by decide) rfl (fun ls hl => ?_)
  refine z_iconst S dL_law_313 ?_
  refine lv_istore (lv' := [(16, .int (zI 0)), (15, .int (zI 0)), (14, .int (zI 0)), (13, .ref q303), (12, .ref q297), (0, .ref sc), (1, .ref (a 0)), (2, .ref (b 0)), (3, .int (zI k)), (4, .int x), (5, .long (digC c)), (7, .int (zI (c.1 3))), (10, .int (zI (c.1 4))), (11, .int (zI (paidL c (c.1 3).toNat)))]) S.1 S.2.1 dL_law_314 hl (by decide) rfl (fun ls hl => ?_)
  refine z_iconst S dL_law_316 ?_
  refine lv_istore (lv' := [(17, .int (zI 0)), (16, .int (zI 0)), (15, .int (zI 0)), (14, .int (zI 0)), (13, .ref q303), (12, .ref q297), (0, .ref sc), (1, .ref (a 0)), (2, .ref (b 0)), (3, .int (zI k)), (4, .int x), (5, .long (digC c)), (7, .int (zI (c.1 3))), (10, .int (zI (c.1 4))), (11, .int (zI (paidL c (c.1 3).toNat)))]) S.1 S.2.1 dL_law_317 hl (by decide) rfl (fun ls hl => ?_)
  refine z_iconst S dL_law_319 ?_
  refine lv_istore (lv' := [(18, .int (zI 0)), (17, .int (zI 0)), (16, .int (zI 0)), (15, .int (zI 0)), (14, .int (zI 0)), (13, .ref q303), (12, .ref q297), (0, .ref sc), (1, .ref (a 0)), (2, .ref (b 0)), (3, .int (zI k)), (4, .int x), (5, .long (digC c)), (7, .int (zI (c.1 3))), (10, .int (zI (c.1 4))), (11, .int (zI (paidL c (c.1 3).toNat)))]) S.1 S.2.1 dL_law_320 hl (by decide) rfl (fun ls hl => ?_)
  refine y_for (σ := Unit) (D := D) (A := A) (nL := 31) (H0 := s.heap) 20 (fun (_u : Unit) => s) (fun (k322 : Nat) (_u : Unit) => [(18, .int (zI (k322 : Int))), (17, .int (zI (watD c (20 * k322)))), (16, .int (zI (allD c (20 * k322)))), (15, .int (zI (truD c (20 * k322)))), (14, .int (zI (wetD c (20 * k322)))), (13, .ref q303), (12, .ref q297), (0, .ref sc), (1, .ref (a 0)), (2, .ref (b 0)), (3, .int (zI k)), (4, .int x), (5, .long (digC c)), (7, .int (zI (c.1 3))), (10, .int (zI (c.1 4))), (11, .int (zI (paidL c (c.1 3).toNat)))]) (fun (k322 : Nat) (_u : Unit) => ([(q303, .inl (g.1, 20, .inl (zA (colD c (20 * k322))))), (q297, .inl (g.1, 20, .inl (zA (rowD c (20 * k322)))))] ++ (CW g a c ++ SW g b t))) (fun _ => cells + 2) (fun _ => slots + 40) (fun (k322 : Nat) (_u : Unit) => True) (fun k322 hk322 _u hJ322 H locs hP hD hS ls hl ih322 => ?_) (fun _u hJ322 H locs hP hD hS ls hl => ?_) 0 (by omega) () trivial _ _ hP hD hS ls (lv_sub hl [0, 1, 2, 3, 4, 5, 6, 7, 8, 9, 10, 11, 12, 13, 14, 15] rfl)
  · have hl : lv_has ls 31 [(18, .int (zI (k322 : Int))), (17, .int (zI (watD c (20 * k322)))), (16, .int (zI (allD c (20 * k322)))), (15, .int (zI (truD c (20 * k322)))), (14, .int (zI (wetD c (20 * k322)))), (13, .ref q303), (12, .ref q297), (0, .ref sc), (1, .ref (a 0)), (2, .ref (b 0)), (3, .int (zI k)), (4, .int x), (5, .long (digC c)), (7, .int (zI (c.1 3))), (10, .int (zI (c.1 4))), (11, .int (zI (paidL c (c.1 3).toNat)))] := hl
    have hP : va_P D vwCl ([(q303, .inl (g.1, 20, .inl (zA (colD c (20 * k322))))), (q297, .inl (g.1, 20, .inl (zA (rowD c (20 * k322)))))] ++ (CW g a c ++ SW g b t)) H := hP
    have hD : va_D A ([(q303, .inl (g.1, 20, .inl (zA (colD c (20 * k322))))), (q297, .inl (g.1, 20, .inl (zA (rowD c (20 * k322)))))] ++ (CW g a c ++ SW g b t)) := hD
    refine lv_iload S.1 S.2.1 dL_law_322 (lv_at hl 0 rfl) ?_
    refine z_bipush S (by decide) dL_law_324 ?_
    refine z_icmp_ge (tgt := 483) S dL_law_326 (by decide) (by omega) (fun h_1 => ?_) (fun h_1 => ?_)
    · exact absurd h_1 (by omega)
    · refine z_iconst S dL_law_329 ?_
      refine lv_istore (lv' := [(19, .int (zI 0)), (18, .int (zI (k322 : Int))), (17, .int (zI (watD c (20 * k322)))), (16, .int (zI (allD c (20 * k322)))), (15, .int (zI (truD c (20 * k322)))), (14, .int (zI (wetD c (20 * k322)))), (13, .ref q303), (12, .ref q297), (0, .ref sc), (1, .ref (a 0)), (2, .ref (b 0)), (3, .int (zI k)), (4, .int x), (5, .long (digC c)), (7, .int (zI (c.1 3))), (10, .int (zI (c.1 4))), (11, .int (zI (paidL c (c.1 3).toNat)))]) S.1 S.2.1 dL_law_330 hl (by decide) rfl (fun ls hl => ?_)
      refine y_for (σ := Unit) (D := D) (A := A) (nL := 31) (H0 := s.heap) 20 (fun (_u : Unit) => s) (fun (k332 : Nat) (_u : Unit) => [(19, .int (zI (k332 : Int))), (18, .int (zI (k322 : Int))), (17, .int (zI (watD c (20 * k322 + k332)))), (16, .int (zI (allD c (20 * k322 + k332)))), (15, .int (zI (truD c (20 * k322 + k332)))), (14, .int (zI (wetD c (20 * k322 + k332)))), (13, .ref q303), (12, .ref q297), (0, .ref sc), (1, .ref (a 0)), (2, .ref (b 0)), (3, .int (zI k)), (4, .int x), (5, .long (digC c)), (7, .int (zI (c.1 3))), (10, .int (zI (c.1 4))), (11, .int (zI (paidL c (c.1 3).toNat)))]) (fun (k332 : Nat) (_u : Unit) => ([(q303, .inl (g.1, 20, .inl (zA (colD c (20 * k322 + k332))))), (q297, .inl (g.1, 20, .inl (zA (rowD c (20 * k322 + k332)))))] ++ (CW g a c ++ SW g b t))) (fun _ => cells + 2) (fun _ => slots + 40) (fun (k332 : Nat) (_u : Unit) => True) (fun k332 hk332 _u hJ332 H locs hP hD hS ls hl ih332 => ?_) (fun _u hJ332 H locs hP hD hS ls hl => ?_) 0 (by omega) () trivial _ _ hP hD hS ls (lv_sub hl [0, 1, 2, 3, 4, 5, 6, 7, 8, 9, 10, 11, 12, 13, 14, 15, 16] rfl)
      · have hl : lv_has ls 31 [(19, .int (zI (k332 : Int))), (18, .int (zI (k322 : Int))), (17, .int (zI (watD c (20 * k322 + k332)))), (16, .int (zI (allD c (20 * k322 + k332)))), (15, .int (zI (truD c (20 * k322 + k332)))), (14, .int (zI (wetD c (20 * k322 + k332)))), (13, .ref q303), (12, .ref q297), (0, .ref sc), (1, .ref (a 0)), (2, .ref (b 0)), (3, .int (zI k)), (4, .int x), (5, .long (digC c)), (7, .int (zI (c.1 3))), (10, .int (zI (c.1 4))), (11, .int (zI (paidL c (c.1 3).toNat)))] := hl
        have hP : va_P D vwCl ([(q303, .inl (g.1, 20, .inl (zA (colD c (20 * k322 + k332))))), (q297, .inl (g.1, 20, .inl (zA (rowD c (20 * k322 + k332)))))] ++ (CW g a c ++ SW g b t)) H := hP
        have hD : va_D A ([(q303, .inl (g.1, 20, .inl (zA (colD c (20 * k322 + k332))))), (q297, .inl (g.1, 20, .inl (zA (rowD c (20 * k322 + k332)))))] ++ (CW g a c ++ SW g b t)) := hD
        refine lv_iload S.1 S.2.1 dL_law_332 (lv_at hl 0 rfl) ?_
        refine z_bipush S (by decide) dL_law_334 ?_
        refine z_icmp_ge (tgt := 477) S dL_law_336 (by decide) (by omega) (fun h_2 => ?_) (fun h_2 => ?_)
        · exact absurd h_2 (by omega)
        · have hsp := L_spot hR hI hT (x := (k322 : Int)) (y := (k332 : Int)) (by omega)
          refine lv_aload_n S.1 S.2.1 dL_law_339 rfl (lv_at hl 9 rfl) ?_
          refine lv_iload S.1 S.2.1 dL_law_340 (lv_at hl 1 rfl) ?_
          refine lv_iload S.1 S.2.1 dL_law_342 (lv_at hl 0 rfl) ?_
          refine z_iconst S dL_law_344 ?_
          refine z_rV (As := [.int (zI (k322 : Int)), .int (zI (k332 : Int)), .int (zI 0)]) (rest := []) S (r_X4_spot l D g a c hI (k322 : Int) (k332 : Int) 0 (by omega) (by omega)) ml_L_124 im_X4_spot se_X4_spot ini_X4 cd_X4_spot ds_X4_spot ⟨Nat.le_of_ble_eq_true rfl, Nat.le_of_ble_eq_true rfl⟩ hK (va_P_l (va_P_r hP)) (va_recv hK.1 (va_P_l (va_P_r hP)) (ci := 4) (q0 := 0) rfl rfl) rfl hl.1 rfl (Nat.le_of_ble_eq_true rfl) ⟨by show cells + 2 ≤ 600074; omega, by show slots + 40 ≤ 7301550; omega⟩ dL_law_345 ?_
          refine lv_istore (lv' := [(20, .int (zI (spotT c ((k332 : Int) * 20 + (k322 : Int)) 0))), (19, .int (zI (k332 : Int))), (18, .int (zI (k322 : Int))), (17, .int (zI (watD c (20 * k322 + k332)))), (16, .int (zI (allD c (20 * k322 + k332)))), (15, .int (zI (truD c (20 * k322 + k332)))), (14, .int (zI (wetD c (20 * k322 + k332)))), (13, .ref q303), (12, .ref q297), (0, .ref sc), (1, .ref (a 0)), (2, .ref (b 0)), (3, .int (zI k)), (4, .int x), (5, .long (digC c)), (7, .int (zI (c.1 3))), (10, .int (zI (c.1 4))), (11, .int (zI (paidL c (c.1 3).toNat)))]) S.1 S.2.1 dL_law_348 hl (by decide) rfl (fun ls hl => ?_)
          refine lv_aload_n S.1 S.2.1 dL_law_350 rfl (lv_at hl 10 rfl) ?_
          refine lv_iload S.1 S.2.1 dL_law_351 (lv_at hl 2 rfl) ?_
          refine lv_iload S.1 S.2.1 dL_law_353 (lv_at hl 1 rfl) ?_
          refine z_iconst S dL_law_355 ?_
          refine z_rV (As := [.int (zI (k322 : Int)), .int (zI (k332 : Int)), .int (zI 1)]) (rest := []) S (r_X4_spot l D g a c hI (k322 : Int) (k332 : Int) 1 (by omega) (by omega)) ml_L_124 im_X4_spot se_X4_spot ini_X4 cd_X4_spot ds_X4_spot ⟨Nat.le_of_ble_eq_true rfl, Nat.le_of_ble_eq_true rfl⟩ hK (va_P_l (va_P_r hP)) (va_recv hK.1 (va_P_l (va_P_r hP)) (ci := 4) (q0 := 0) rfl rfl) rfl hl.1 rfl (Nat.le_of_ble_eq_true rfl) ⟨by show cells + 2 ≤ 600074; omega, by show slots + 40 ≤ 7301550; omega⟩ dL_law_356 ?_
          refine lv_istore (lv' := [(21, .int (zI (spotT c ((k332 : Int) * 20 + (k322 : Int)) 1))), (20, .int (zI (spotT c ((k332 : Int) * 20 + (k322 : Int)) 0))), (19, .int (zI (k332 : Int))), (18, .int (zI (k322 : Int))), (17, .int (zI (watD c (20 * k322 + k332)))), (16, .int (zI (allD c (20 * k322 + k332)))), (15, .int (zI (truD c (20 * k322 + k332)))), (14, .int (zI (wetD c (20 * k322 + k332)))), (13, .ref q303), (12, .ref q297), (0, .ref sc), (1, .ref (a 0)), (2, .ref (b 0)), (3, .int (zI k)), (4, .int x), (5, .long (digC c)), (7, .int (zI (c.1 3))), (10, .int (zI (c.1 4))), (11, .int (zI (paidL c (c.1 3).toNat)))]) S.1 S.2.1 dL_law_359 hl (by decide) rfl (fun ls hl => ?_)
          refine lv_iload S.1 S.2.1 dL_law_361 (lv_at hl 1 rfl) ?_
          refine z_if_lt (tgt := 396) S dL_law_363 (by decide) (by omega) (fun h_3 => ?_) (fun h_3 => ?_)
          · exact absurd h_3 (by omega)
          · refine y_joinV (nL := 31) (fun v => ((spotT c ((k332 : Int) * 20 + (k322 : Int)) 0) = 0 ∧ v = 1) ∨ ((spotT c ((k332 : Int) * 20 + (k322 : Int)) 0) ≠ 0 ∧ v = 0)) 376 (lv := [(21, .int (zI (spotT c ((k332 : Int) * 20 + (k322 : Int)) 1))), (20, .int (zI (spotT c ((k332 : Int) * 20 + (k322 : Int)) 0))), (19, .int (zI (k332 : Int))), (18, .int (zI (k322 : Int))), (17, .int (zI (watD c (20 * k322 + k332)))), (16, .int (zI (allD c (20 * k322 + k332)))), (15, .int (zI (truD c (20 * k322 + k332)))), (14, .int (zI (wetD c (20 * k322 + k332)))), (13, .ref q303), (12, .ref q297), (0, .ref sc), (1, .ref (a 0)), (2, .ref (b 0)), (3, .int (zI k)), (4, .int x), (5, .long (digC c)), (7, .int (zI (c.1 3))), (10, .int (zI (c.1 4))), (11, .int (zI (paidL c (c.1 3).toNat)))]) [] (fun J376 => ?_) (fun v376 hv376 ls hl => ?_)
            · refine lv_iload S.1 S.2.1 dL_law_366 (lv_at hl 1 rfl) ?_
              refine z_if_ne (tgt := 375) S dL_law_368 (by decide) (by omega) (fun h_4 => ?_) (fun h_4 => ?_)
              · refine z_iconst S dL_law_375 ?_
                exact J376 0 (by omega) ls hl
              · refine z_iconst S dL_law_371 ?_
                refine z_goto (tgt := 376) S dL_law_372 (by decide) ?_
                exact J376 1 (by omega) ls hl
            · have hl : lv_has ls 31 [(21, .int (zI (spotT c ((k332 : Int) * 20 + (k322 : Int)) 1))), (20, .int (zI (spotT c ((k332 : Int) * 20 + (k322 : Int)) 0))), (19, .int (zI (k332 : Int))), (18, .int (zI (k322 : Int))), (17, .int (zI (watD c (20 * k322 + k332)))), (16, .int (zI (allD c (20 * k322 + k332)))), (15, .int (zI (truD c (20 * k322 + k332)))), (14, .int (zI (wetD c (20 * k322 + k332)))), (13, .ref q303), (12, .ref q297), (0, .ref sc), (1, .ref (a 0)), (2, .ref (b 0)), (3, .int (zI k)), (4, .int x), (5, .long (digC c)), (7, .int (zI (c.1 3))), (10, .int (zI (c.1 4))), (11, .int (zI (paidL c (c.1 3).toNat)))] := hl
              have hv376 : ((spotT c ((k332 : Int) * 20 + (k322 : Int)) 0) = 0 ∧ v376 = 1) ∨ ((spotT c ((k332 : Int) * 20 + (k322 : Int)) 0) ≠ 0 ∧ v376 = 0) := hv376
              refine y_joinV (nL := 31) (fun v => ((spotT c ((k332 : Int) * 20 + (k322 : Int)) 1) = 0 ∧ v = 1) ∨ ((spotT c ((k332 : Int) * 20 + (k322 : Int)) 1) ≠ 0 ∧ v = 0)) 386 (lv := [(21, .int (zI (spotT c ((k332 : Int) * 20 + (k322 : Int)) 1))), (20, .int (zI (spotT c ((k332 : Int) * 20 + (k322 : Int)) 0))), (19, .int (zI (k332 : Int))), (18, .int (zI (k322 : Int))), (17, .int (zI (watD c (20 * k322 + k332)))), (16, .int (zI (allD c (20 * k322 + k332)))), (15, .int (zI (truD c (20 * k322 + k332)))), (14, .int (zI (wetD c (20 * k322 + k332)))), (13, .ref q303), (12, .ref q297), (0, .ref sc), (1, .ref (a 0)), (2, .ref (b 0)), (3, .int (zI k)), (4, .int x), (5, .long (digC c)), (7, .int (zI (c.1 3))), (10, .int (zI (c.1 4))), (11, .int (zI (paidL c (c.1 3).toNat)))]) [.int (zI v376)] (fun J386 => ?_) (fun v386 hv386 ls hl => ?_)
              · refine lv_iload S.1 S.2.1 dL_law_376 (lv_at hl 0 rfl) ?_
                refine z_if_ne (tgt := 385) S dL_law_378 (by decide) (by omega) (fun h_5 => ?_) (fun h_5 => ?_)
                · refine z_iconst S dL_law_385 ?_
                  exact J386 0 (by omega) ls hl
                · refine z_iconst S dL_law_381 ?_
                  refine z_goto (tgt := 386) S dL_law_382 (by decide) ?_
                  exact J386 1 (by omega) ls hl
              · have hl : lv_has ls 31 [(21, .int (zI (spotT c ((k332 : Int) * 20 + (k322 : Int)) 1))), (20, .int (zI (spotT c ((k332 : Int) * 20 + (k322 : Int)) 0))), (19, .int (zI (k332 : Int))), (18, .int (zI (k322 : Int))), (17, .int (zI (watD c (20 * k322 + k332)))), (16, .int (zI (allD c (20 * k322 + k332)))), (15, .int (zI (truD c (20 * k322 + k332)))), (14, .int (zI (wetD c (20 * k322 + k332)))), (13, .ref q303), (12, .ref q297), (0, .ref sc), (1, .ref (a 0)), (2, .ref (b 0)), (3, .int (zI k)), (4, .int x), (5, .long (digC c)), (7, .int (zI (c.1 3))), (10, .int (zI (c.1 4))), (11, .int (zI (paidL c (c.1 3).toNat)))] := hl
                have hv386 : ((spotT c ((k332 : Int) * 20 + (k322 : Int)) 1) = 0 ∧ v386 = 1) ∨ ((spotT c ((k332 : Int) * 20 + (k322 : Int)) 1) ≠ 0 ∧ v386 = 0) := hv386
                refine z_icmp_ne (tgt := 396) S dL_law_386 (by decide) (by omega) (fun h_6 => ?_) (fun h_6 => ?_)
                · exact absurd h_6 (by omega)
                · refine lv_iload S.1 S.2.1 dL_law_389 (lv_at hl 0 rfl) ?_
                  refine z_bipush S (by decide) dL_law_391 ?_
                  refine z_icmp_le (tgt := 398) S dL_law_393 (by decide) (by omega) (fun h_7 => ?_) (fun h_7 => ?_)
                  · have hwe := D_wet (c := c) (x := k322) (y := k332) (by omega)
                    refine lv_iload S.1 S.2.1 dL_law_398 (lv_at hl 7 rfl) ?_
                    refine y_joinV (nL := 31) (fun v => v = b01 (0 < (spotT c ((k332 : Int) * 20 + (k322 : Int)) 0))) 410 (lv := [(21, .int (zI (spotT c ((k332 : Int) * 20 + (k322 : Int)) 1))), (20, .int (zI (spotT c ((k332 : Int) * 20 + (k322 : Int)) 0))), (19, .int (zI (k332 : Int))), (18, .int (zI (k322 : Int))), (17, .int (zI (watD c (20 * k322 + k332)))), (16, .int (zI (allD c (20 * k322 + k332)))), (15, .int (zI (truD c (20 * k322 + k332)))), (14, .int (zI (wetD c (20 * k322 + k332)))), (13, .ref q303), (12, .ref q297), (0, .ref sc), (1, .ref (a 0)), (2, .ref (b 0)), (3, .int (zI k)), (4, .int x), (5, .long (digC c)), (7, .int (zI (c.1 3))), (10, .int (zI (c.1 4))), (11, .int (zI (paidL c (c.1 3).toNat)))]) [.int (zI (wetD c (20 * k322 + k332)))] (fun J410 => ?_) (fun v410 hv410 ls hl => ?_)
                    · refine lv_iload S.1 S.2.1 dL_law_400 (lv_at hl 1 rfl) ?_
                      refine z_if_le (tgt := 409) S dL_law_402 (by decide) (by omega) (fun h_8 => ?_) (fun h_8 => ?_)
                      · refine z_iconst S dL_law_409 ?_
                        exact J410 0 (b01_is (by omega)) ls hl
                      · refine z_iconst S dL_law_405 ?_
                        refine z_goto (tgt := 410) S dL_law_406 (by decide) ?_
                        exact J410 1 (b01_is (by omega)) ls hl
                    · have hl : lv_has ls 31 [(21, .int (zI (spotT c ((k332 : Int) * 20 + (k322 : Int)) 1))), (20, .int (zI (spotT c ((k332 : Int) * 20 + (k322 : Int)) 0))), (19, .int (zI (k332 : Int))), (18, .int (zI (k322 : Int))), (17, .int (zI (watD c (20 * k322 + k332)))), (16, .int (zI (allD c (20 * k322 + k332)))), (15, .int (zI (truD c (20 * k322 + k332)))), (14, .int (zI (wetD c (20 * k322 + k332)))), (13, .ref q303), (12, .ref q297), (0, .ref sc), (1, .ref (a 0)), (2, .ref (b 0)), (3, .int (zI k)), (4, .int x), (5, .long (digC c)), (7, .int (zI (c.1 3))), (10, .int (zI (c.1 4))), (11, .int (zI (paidL c (c.1 3).toNat)))] := hl
                      have hv410 : v410 = b01 (0 < (spotT c ((k332 : Int) * 20 + (k322 : Int)) 0)) := hv410
                      refine z_iadd S dL_law_410 ?_
                      refine lv_istore (lv' := [(14, .int (zI ((wetD c (20 * k322 + k332)) + v410))), (21, .int (zI (spotT c ((k332 : Int) * 20 + (k322 : Int)) 1))), (20, .int (zI (spotT c ((k332 : Int) * 20 + (k322 : Int)) 0))), (19, .int (zI (k332 : Int))), (18, .int (zI (k322 : Int))), (17, .int (zI (watD c (20 * k322 + k332)))), (16, .int (zI (allD c (20 * k322 + k332)))), (15, .int (zI (truD c (20 * k322 + k332)))), (13, .ref q303), (12, .ref q297), (0, .ref sc), (1, .ref (a 0)), (2, .ref (b 0)), (3, .int (zI k)), (4, .int x), (5, .long (digC c)), (7, .int (zI (c.1 3))), (10, .int (zI (c.1 4))), (11, .int (zI (paidL c (c.1 3).toNat)))]) S.1 S.2.1 dL_law_411 hl (by decide) rfl (fun ls hl => ?_)
                      refine lv_aload_n S.1 S.2.1 dL_law_413 rfl (lv_at hl 11 rfl) ?_
                      refine lv_iload S.1 S.2.1 dL_law_414 (lv_at hl 4 rfl) ?_
                      refine lv_iload S.1 S.2.1 dL_law_416 (lv_at hl 3 rfl) ?_
                      refine z_iconst S dL_law_418 ?_
                      refine z_rV (As := [.int (zI (k322 : Int)), .int (zI (k332 : Int)), .int (zI 2)]) (rest := []) S (r_X4_spot l D g a c hI (k322 : Int) (k332 : Int) 2 (by omega) (by omega)) ml_L_124 im_X4_spot se_X4_spot ini_X4 cd_X4_spot ds_X4_spot ⟨Nat.le_of_ble_eq_true rfl, Nat.le_of_ble_eq_true rfl⟩ hK (va_P_l (va_P_r hP)) (va_recv hK.1 (va_P_l (va_P_r hP)) (ci := 4) (q0 := 0) rfl rfl) rfl hl.1 rfl (Nat.le_of_ble_eq_true rfl) ⟨by show cells + 2 ≤ 600074; omega, by show slots + 40 ≤ 7301550; omega⟩ dL_law_419 ?_
                      refine z_if_ge (tgt := 428) S dL_law_422 (by decide) (by omega) (fun h_9 => ?_) (fun h_9 => ?_)
                      · have hst9 := D_take (c := c) (x := k322) (y := k332) (by omega) (by omega)
                        refine lv_aload S.1 S.2.1 dL_law_428 (lv_at hl 9 rfl) ?_
                        refine lv_iload S.1 S.2.1 dL_law_430 (lv_at hl 3 rfl) ?_
                        refine lv_dup2_11 S.1 S.2.1 dL_law_432 rfl rfl ?_
                        refine z_iald (F := rowD c (20 * k322 + k332)) S hK hP 1 rfl (by decide) (by omega) dL_law_433 ?_
                        refine z_iconst S dL_law_434 ?_
                        refine z_iadd S dL_law_435 ?_
                        refine y_iast (F := rowD c (20 * k322 + k332)) S hK hP hD hS 1 rfl (by decide) (by omega) dL_law_436 (fun H locs hP hD hS => ?_)
                        have hP : va_P D vwCl ([(q303, .inl (g.1, 20, .inl (zA (colD c (20 * k322 + k332))))), (q297, .inl (g.1, 20, .inl (zA (upZ (rowD c (20 * k322 + k332)) (k332 : Int) (((rowD c (20 * k322 + k332)) (k332 : Int)) + 1)))))] ++ (CW g a c ++ SW g b t)) H := hP
                        have hD : va_D A ([(q303, .inl (g.1, 20, .inl (zA (colD c (20 * k322 + k332))))), (q297, .inl (g.1, 20, .inl (zA (upZ (rowD c (20 * k322 + k332)) (k332 : Int) (((rowD c (20 * k322 + k332)) (k332 : Int)) + 1)))))] ++ (CW g a c ++ SW g b t)) := hD
                        refine lv_aload S.1 S.2.1 dL_law_437 (lv_at hl 8 rfl) ?_
                        refine lv_iload S.1 S.2.1 dL_law_439 (lv_at hl 4 rfl) ?_
                        refine lv_dup2_11 S.1 S.2.1 dL_law_441 rfl rfl ?_
                        refine z_iald (F := colD c (20 * k322 + k332)) S hK hP 0 rfl (by decide) (by omega) dL_law_442 ?_
                        refine z_iconst S dL_law_443 ?_
                        refine z_iadd S dL_law_444 ?_
                        refine y_iast (F := colD c (20 * k322 + k332)) S hK hP hD hS 0 rfl (by decide) (by omega) dL_law_445 (fun H locs hP hD hS => ?_)
                        have hP : va_P D vwCl ([(q303, .inl (g.1, 20, .inl (zA (upZ (colD c (20 * k322 + k332)) (k322 : Int) (((colD c (20 * k322 + k332)) (k322 : Int)) + 1))))), (q297, .inl (g.1, 20, .inl (zA (upZ (rowD c (20 * k322 + k332)) (k332 : Int) (((rowD c (20 * k322 + k332)) (k332 : Int)) + 1)))))] ++ (CW g a c ++ SW g b t)) H := hP
                        have hD : va_D A ([(q303, .inl (g.1, 20, .inl (zA (upZ (colD c (20 * k322 + k332)) (k322 : Int) (((colD c (20 * k322 + k332)) (k322 : Int)) + 1))))), (q297, .inl (g.1, 20, .inl (zA (upZ (rowD c (20 * k322 + k332)) (k332 : Int) (((rowD c (20 * k322 + k332)) (k332 : Int)) + 1)))))] ++ (CW g a c ++ SW g b t)) := hD
                        refine z_iinc (lv' := [(16, .int (zI ((allD c (20 * k322 + k332)) + 1))), (14, .int (zI ((wetD c (20 * k322 + k332)) + v410))), (21, .int (zI (spotT c ((k332 : Int) * 20 + (k322 : Int)) 1))), (20, .int (zI (spotT c ((k332 : Int) * 20 + (k322 : Int)) 0))), (19, .int (zI (k332 : Int))), (18, .int (zI (k322 : Int))), (17, .int (zI (watD c (20 * k322 + k332)))), (15, .int (zI (truD c (20 * k322 + k332)))), (13, .ref q303), (12, .ref q297), (0, .ref sc), (1, .ref (a 0)), (2, .ref (b 0)), (3, .int (zI k)), (4, .int x), (5, .long (digC c)), (7, .int (zI (c.1 3))), (10, .int (zI (c.1 4))), (11, .int (zI (paidL c (c.1 3).toNat)))]) S dL_law_446 hl (k := 6) rfl (by decide) rfl (fun ls hl => ?_)
                        refine lv_iload S.1 S.2.1 dL_law_449 (lv_at hl 7 rfl) ?_
                        refine y_joinV (nL := 31) (fun v => v = b01 (0 < (spotT c ((k332 : Int) * 20 + (k322 : Int)) 0))) 461 (lv := [(16, .int (zI ((allD c (20 * k322 + k332)) + 1))), (14, .int (zI ((wetD c (20 * k322 + k332)) + v410))), (21, .int (zI (spotT c ((k332 : Int) * 20 + (k322 : Int)) 1))), (20, .int (zI (spotT c ((k332 : Int) * 20 + (k322 : Int)) 0))), (19, .int (zI (k332 : Int))), (18, .int (zI (k322 : Int))), (17, .int (zI (watD c (20 * k322 + k332)))), (15, .int (zI (truD c (20 * k322 + k332)))), (13, .ref q303), (12, .ref q297), (0, .ref sc), (1, .ref (a 0)), (2, .ref (b 0)), (3, .int (zI k)), (4, .int x), (5, .long (digC c)), (7, .int (zI (c.1 3))), (10, .int (zI (c.1 4))), (11, .int (zI (paidL c (c.1 3).toNat)))]) [.int (zI (truD c (20 * k322 + k332)))] (fun J461 => ?_) (fun v461 hv461 ls hl => ?_)
                        · refine lv_iload S.1 S.2.1 dL_law_451 (lv_at hl 3 rfl) ?_
                          refine z_if_le (tgt := 460) S dL_law_453 (by decide) (by omega) (fun h_10 => ?_) (fun h_10 => ?_)
                          · refine z_iconst S dL_law_460 ?_
                            exact J461 0 (b01_is (by omega)) ls hl
                          · refine z_iconst S dL_law_456 ?_
                            refine z_goto (tgt := 461) S dL_law_457 (by decide) ?_
                            exact J461 1 (b01_is (by omega)) ls hl
                        · have hl : lv_has ls 31 [(16, .int (zI ((allD c (20 * k322 + k332)) + 1))), (14, .int (zI ((wetD c (20 * k322 + k332)) + v410))), (21, .int (zI (spotT c ((k332 : Int) * 20 + (k322 : Int)) 1))), (20, .int (zI (spotT c ((k332 : Int) * 20 + (k322 : Int)) 0))), (19, .int (zI (k332 : Int))), (18, .int (zI (k322 : Int))), (17, .int (zI (watD c (20 * k322 + k332)))), (15, .int (zI (truD c (20 * k322 + k332)))), (13, .ref q303), (12, .ref q297), (0, .ref sc), (1, .ref (a 0)), (2, .ref (b 0)), (3, .int (zI k)), (4, .int x), (5, .long (digC c)), (7, .int (zI (c.1 3))), (10, .int (zI (c.1 4))), (11, .int (zI (paidL c (c.1 3).toNat)))] := hl
                          have hv461 : v461 = b01 (0 < (spotT c ((k332 : Int) * 20 + (k322 : Int)) 0)) := hv461
                          refine z_iadd S dL_law_461 ?_
                          refine lv_istore (lv' := [(15, .int (zI ((truD c (20 * k322 + k332)) + v461))), (16, .int (zI ((allD c (20 * k322 + k332)) + 1))), (14, .int (zI ((wetD c (20 * k322 + k332)) + v410))), (21, .int (zI (spotT c ((k332 : Int) * 20 + (k322 : Int)) 1))), (20, .int (zI (spotT c ((k332 : Int) * 20 + (k322 : Int)) 0))), (19, .int (zI (k332 : Int))), (18, .int (zI (k322 : Int))), (17, .int (zI (watD c (20 * k322 + k332)))), (13, .ref q303), (12, .ref q297), (0, .ref sc), (1, .ref (a 0)), (2, .ref (b 0)), (3, .int (zI k)), (4, .int x), (5, .long (digC c)), (7, .int (zI (c.1 3))), (10, .int (zI (c.1 4))), (11, .int (zI (paidL c (c.1 3).toNat)))]) S.1 S.2.1 dL_law_462 hl (by decide) rfl (fun ls hl => ?_)
                          refine lv_iload S.1 S.2.1 dL_law_464 (lv_at hl 7 rfl) ?_
                          refine lv_iload S.1 S.2.1 dL_law_466 (lv_at hl 4 rfl) ?_
                          refine z_iadd S dL_law_468 ?_
                          refine lv_istore (lv' := [(17, .int (zI ((watD c (20 * k322 + k332)) + (spotT c ((k332 : Int) * 20 + (k322 : Int)) 0)))), (15, .int (zI ((truD c (20 * k322 + k332)) + v461))), (16, .int (zI ((allD c (20 * k322 + k332)) + 1))), (14, .int (zI ((wetD c (20 * k322 + k332)) + v410))), (21, .int (zI (spotT c ((k332 : Int) * 20 + (k322 : Int)) 1))), (20, .int (zI (spotT c ((k332 : Int) * 20 + (k322 : Int)) 0))), (19, .int (zI (k332 : Int))), (18, .int (zI (k322 : Int))), (13, .ref q303), (12, .ref q297), (0, .ref sc), (1, .ref (a 0)), (2, .ref (b 0)), (3, .int (zI k)), (4, .int x), (5, .long (digC c)), (7, .int (zI (c.1 3))), (10, .int (zI (c.1 4))), (11, .int (zI (paidL c (c.1 3).toNat)))]) S.1 S.2.1 dL_law_469 hl (by decide) rfl (fun ls hl => ?_)
                          refine z_iinc (lv' := [(19, .int (zI ((k332 : Int) + 1))), (17, .int (zI ((watD c (20 * k322 + k332)) + (spotT c ((k332 : Int) * 20 + (k322 : Int)) 0)))), (15, .int (zI ((truD c (20 * k322 + k332)) + v461))), (16, .int (zI ((allD c (20 * k322 + k332)) + 1))), (14, .int (zI ((wetD c (20 * k322 + k332)) + v410))), (21, .int (zI (spotT c ((k332 : Int) * 20 + (k322 : Int)) 1))), (20, .int (zI (spotT c ((k332 : Int) * 20 + (k322 : Int)) 0))), (18, .int (zI (k322 : Int))), (13, .ref q303), (12, .ref q297), (0, .ref sc), (1, .ref (a 0)), (2, .ref (b 0)), (3, .int (zI k)), (4, .int x), (5, .long (digC c)), (7, .int (zI (c.1 3))), (10, .int (zI (c.1 4))), (11, .int (zI (paidL c (c.1 3).toNat)))]) S dL_law_471 hl (k := 6) rfl (by decide) rfl (fun ls hl => ?_)
                          refine z_goto (tgt := 332) S dL_law_474 (by decide) ?_
                          have e_11 : watD c (20 * k322 + (k332 + 1)) = (watD c (20 * k322 + k332)) + (spotT c ((k332 : Int) * 20 + (k322 : Int)) 0) := by exact hst9.2.2.1
                          have e_12 : allD c (20 * k322 + (k332 + 1)) = (allD c (20 * k322 + k332)) + 1 := by exact hst9.2.1
                          have e_13 : truD c (20 * k322 + (k332 + 1)) = (truD c (20 * k322 + k332)) + v461 := by first | exact hst9.1 | rw [hst9.1, hv461]
                          have e_14 : wetD c (20 * k322 + (k332 + 1)) = (wetD c (20 * k322 + k332)) + v410 := by rw [hwe, hv410]
                          have hw : ([(q303, .inl (g.1, 20, .inl (zA (upZ (colD c (20 * k322 + k332)) (k322 : Int) (((colD c (20 * k322 + k332)) (k322 : Int)) + 1))))), (q297, .inl (g.1, 20, .inl (zA (upZ (rowD c (20 * k322 + k332)) (k332 : Int) (((rowD c (20 * k322 + k332)) (k332 : Int)) + 1)))))] ++ (CW g a c ++ SW g b t)) = ([(q303, .inl (g.1, 20, .inl (zA (colD c (20 * k322 + (k332 + 1)))))), (q297, .inl (g.1, 20, .inl (zA (rowD c (20 * k322 + (k332 + 1))))))] ++ (CW g a c ++ SW g b t)) := by rw [hst9.2.2.2.1, hst9.2.2.2.2]
                          rw [hw] at hP hD
                          exact ih332 () trivial _ _ hP hD hS _ (lv_sub hl [0, 7, 1, 3, 2, 4, 8, 9, 10, 11, 12, 13, 14, 15, 16, 17, 18] (by show _ = ([(19, .int (zI ((k332 + 1 : Nat) : Int))), (18, .int (zI (k322 : Int))), (17, .int (zI (watD c (20 * k322 + (k332 + 1))))), (16, .int (zI (allD c (20 * k322 + (k332 + 1))))), (15, .int (zI (truD c (20 * k322 + (k332 + 1))))), (14, .int (zI (wetD c (20 * k322 + (k332 + 1))))), (13, .ref q303), (12, .ref q297), (0, .ref sc), (1, .ref (a 0)), (2, .ref (b 0)), (3, .int (zI k)), (4, .int x), (5, .long (digC c)), (7, .int (zI (c.1 3))), (10, .int (zI (c.1 4))), (11, .int (zI (paidL c (c.1 3).toNat)))] : List (Nat × Value)); rw [e_11, e_12, e_13, e_14]; first | done | rfl))
                      · have hst9 := D_skip (c := c) (x := k322) (y := k332) (by omega) (by omega)
                        refine z_goto (tgt := 471) S dL_law_425 (by decide) ?_
                        refine z_iinc (lv' := [(19, .int (zI ((k332 : Int) + 1))), (14, .int (zI ((wetD c (20 * k322 + k332)) + v410))), (21, .int (zI (spotT c ((k332 : Int) * 20 + (k322 : Int)) 1))), (20, .int (zI (spotT c ((k332 : Int) * 20 + (k322 : Int)) 0))), (18, .int (zI (k322 : Int))), (17, .int (zI (watD c (20 * k322 + k332)))), (16, .int (zI (allD c (20 * k322 + k332)))), (15, .int (zI (truD c (20 * k322 + k332)))), (13, .ref q303), (12, .ref q297), (0, .ref sc), (1, .ref (a 0)), (2, .ref (b 0)), (3, .int (zI k)), (4, .int x), (5, .long (digC c)), (7, .int (zI (c.1 3))), (10, .int (zI (c.1 4))), (11, .int (zI (paidL c (c.1 3).toNat)))]) S dL_law_471 hl (k := 3) rfl (by decide) rfl (fun ls hl => ?_)
                        refine z_goto (tgt := 332) S dL_law_474 (by decide) ?_
                        have e_15 : watD c (20 * k322 + (k332 + 1)) = watD c (20 * k322 + k332) := by exact hst9.2.2.1
                        have e_16 : allD c (20 * k322 + (k332 + 1)) = allD c (20 * k322 + k332) := by exact hst9.2.1
                        have e_17 : truD c (20 * k322 + (k332 + 1)) = truD c (20 * k322 + k332) := by first | exact hst9.1 | rw [hst9.1, hv461]
                        have e_18 : wetD c (20 * k322 + (k332 + 1)) = (wetD c (20 * k322 + k332)) + v410 := by rw [hwe, hv410]
                        have hw : ([(q303, .inl (g.1, 20, .inl (zA (colD c (20 * k322 + k332))))), (q297, .inl (g.1, 20, .inl (zA (rowD c (20 * k322 + k332)))))] ++ (CW g a c ++ SW g b t)) = ([(q303, .inl (g.1, 20, .inl (zA (colD c (20 * k322 + (k332 + 1)))))), (q297, .inl (g.1, 20, .inl (zA (rowD c (20 * k322 + (k332 + 1))))))] ++ (CW g a c ++ SW g b t)) := by rw [hst9.2.2.2.1, hst9.2.2.2.2]
                        rw [hw] at hP hD
                        exact ih332 () trivial _ _ hP hD hS _ (lv_sub hl [0, 4, 5, 6, 7, 1, 8, 9, 10, 11, 12, 13, 14, 15, 16, 17, 18] (by show _ = ([(19, .int (zI ((k332 + 1 : Nat) : Int))), (18, .int (zI (k322 : Int))), (17, .int (zI (watD c (20 * k322 + (k332 + 1))))), (16, .int (zI (allD c (20 * k322 + (k332 + 1))))), (15, .int (zI (truD c (20 * k322 + (k332 + 1))))), (14, .int (zI (wetD c (20 * k322 + (k332 + 1))))), (13, .ref q303), (12, .ref q297), (0, .ref sc), (1, .ref (a 0)), (2, .ref (b 0)), (3, .int (zI k)), (4, .int x), (5, .long (digC c)), (7, .int (zI (c.1 3))), (10, .int (zI (c.1 4))), (11, .int (zI (paidL c (c.1 3).toNat)))] : List (Nat × Value)); rw [e_15, e_16, e_17, e_18]; first | done | rfl))
                  · exact absurd h_7 (by omega)
      · have hl : lv_has ls 31 [(19, .int (zI ((20 : Nat) : Int))), (18, .int (zI (k322 : Int))), (17, .int (zI (watD c (20 * k322 + 20)))), (16, .int (zI (allD c (20 * k322 + 20)))), (15, .int (zI (truD c (20 * k322 + 20)))), (14, .int (zI (wetD c (20 * k322 + 20)))), (13, .ref q303), (12, .ref q297), (0, .ref sc), (1, .ref (a 0)), (2, .ref (b 0)), (3, .int (zI k)), (4, .int x), (5, .long (digC c)), (7, .int (zI (c.1 3))), (10, .int (zI (c.1 4))), (11, .int (zI (paidL c (c.1 3).toNat)))] := hl
        have hP : va_P D vwCl ([(q303, .inl (g.1, 20, .inl (zA (colD c (20 * k322 + 20))))), (q297, .inl (g.1, 20, .inl (zA (rowD c (20 * k322 + 20)))))] ++ (CW g a c ++ SW g b t)) H := hP
        have hD : va_D A ([(q303, .inl (g.1, 20, .inl (zA (colD c (20 * k322 + 20))))), (q297, .inl (g.1, 20, .inl (zA (rowD c (20 * k322 + 20)))))] ++ (CW g a c ++ SW g b t)) := hD
        refine lv_iload S.1 S.2.1 dL_law_332 (lv_at hl 0 rfl) ?_
        refine z_bipush S (by decide) dL_law_334 ?_
        refine z_icmp_ge (tgt := 477) S dL_law_336 (by decide) (by omega) (fun h_19 => ?_) (fun h_19 => ?_)
        · refine z_iinc (lv' := [(18, .int (zI ((k322 : Int) + 1))), (19, .int (zI ((20 : Nat) : Int))), (17, .int (zI (watD c (20 * k322 + 20)))), (16, .int (zI (allD c (20 * k322 + 20)))), (15, .int (zI (truD c (20 * k322 + 20)))), (14, .int (zI (wetD c (20 * k322 + 20)))), (13, .ref q303), (12, .ref q297), (0, .ref sc), (1, .ref (a 0)), (2, .ref (b 0)), (3, .int (zI k)), (4, .int x), (5, .long (digC c)), (7, .int (zI (c.1 3))), (10, .int (zI (c.1 4))), (11, .int (zI (paidL c (c.1 3).toNat)))]) S dL_law_477 hl (k := 1) rfl (by decide) rfl (fun ls hl => ?_)
          refine z_goto (tgt := 322) S dL_law_480 (by decide) ?_
          have hw : ([(q303, .inl (g.1, 20, .inl (zA (colD c (20 * k322 + 20))))), (q297, .inl (g.1, 20, .inl (zA (rowD c (20 * k322 + 20)))))] ++ (CW g a c ++ SW g b t)) = ([(q303, .inl (g.1, 20, .inl (zA (colD c (20 * (k322 + 1)))))), (q297, .inl (g.1, 20, .inl (zA (rowD c (20 * (k322 + 1))))))] ++ (CW g a c ++ SW g b t)) := by exact rfl
          rw [hw] at hP hD
          exact ih322 () trivial _ _ hP hD hS _ (lv_sub hl [0, 2, 3, 4, 5, 6, 7, 8, 9, 10, 11, 12, 13, 14, 15, 16] rfl)
        · exact absurd h_19 (by omega)
  · have hl : lv_has ls 31 [(18, .int (zI ((20 : Nat) : Int))), (17, .int (zI (watD c (20 * 20)))), (16, .int (zI (allD c (20 * 20)))), (15, .int (zI (truD c (20 * 20)))), (14, .int (zI (wetD c (20 * 20)))), (13, .ref q303), (12, .ref q297), (0, .ref sc), (1, .ref (a 0)), (2, .ref (b 0)), (3, .int (zI k)), (4, .int x), (5, .long (digC c)), (7, .int (zI (c.1 3))), (10, .int (zI (c.1 4))), (11, .int (zI (paidL c (c.1 3).toNat)))] := hl
    have hP : va_P D vwCl ([(q303, .inl (g.1, 20, .inl (zA (colD c (20 * 20))))), (q297, .inl (g.1, 20, .inl (zA (rowD c (20 * 20)))))] ++ (CW g a c ++ SW g b t)) H := hP
    have hD : va_D A ([(q303, .inl (g.1, 20, .inl (zA (colD c (20 * 20))))), (q297, .inl (g.1, 20, .inl (zA (rowD c (20 * 20)))))] ++ (CW g a c ++ SW g b t)) := hD
    refine lv_iload S.1 S.2.1 dL_law_322 (lv_at hl 0 rfl) ?_
    refine z_bipush S (by decide) dL_law_324 ?_
    refine z_icmp_ge (tgt := 483) S dL_law_326 (by decide) (by omega) (fun h_20 => ?_) (fun h_20 => ?_)
    · have hall := L_all hR hI hT
      refine lv_iload S.1 S.2.1 dL_law_483 (lv_at hl 4 rfl) ?_
      refine lv_aload_n S.1 S.2.1 dL_law_485 rfl (lv_at hl 8 rfl) ?_
      refine z_iconst S dL_law_486 ?_
      refine z_rV (As := [.int (zI 5)]) (rest := [.int (zI (wetD c (20 * 20)))]) S (r_X4_count l D g a c hI 5 (by omega)) ml_L_118 im_X4_count se_X4_count ini_X4 cd_X4_count ds_X4_count ⟨Nat.le_of_ble_eq_true rfl, Nat.le_of_ble_eq_true rfl⟩ hK (va_P_l (va_P_r hP)) (va_recv hK.1 (va_P_l (va_P_r hP)) (ci := 4) (q0 := 0) rfl rfl) rfl hl.1 rfl (Nat.le_of_ble_eq_true rfl) ⟨by show cells + 2 ≤ 600074; omega, by show slots + 40 ≤ 7301550; omega⟩ dL_law_487 ?_
      refine z_icmp_ne (tgt := 535) S dL_law_490 (by decide) (by omega) (fun h_21 => ?_) (fun h_21 => ?_)
      · exact absurd h_21 (by omega)
      · refine lv_iload S.1 S.2.1 dL_law_493 (lv_at hl 2 rfl) ?_
        refine lv_iload S.1 S.2.1 dL_law_495 (lv_at hl 14 rfl) ?_
        refine z_icmp_ne (tgt := 535) S dL_law_497 (by decide) (by omega) (fun h_22 => ?_) (fun h_22 => ?_)
        · exact absurd h_22 (by omega)
        · refine lv_iload S.1 S.2.1 dL_law_500 (lv_at hl 3 rfl) ?_
          refine lv_aload_n S.1 S.2.1 dL_law_502 rfl (lv_at hl 8 rfl) ?_
          refine z_bipush S (by decide) dL_law_503 ?_
          refine z_rV (As := [.int (zI 6)]) (rest := [.int (zI (truD c (20 * 20)))]) S (r_X4_count l D g a c hI 6 (by omega)) ml_L_118 im_X4_count se_X4_count ini_X4 cd_X4_count ds_X4_count ⟨Nat.le_of_ble_eq_true rfl, Nat.le_of_ble_eq_true rfl⟩ hK (va_P_l (va_P_r hP)) (va_recv hK.1 (va_P_l (va_P_r hP)) (ci := 4) (q0 := 0) rfl rfl) rfl hl.1 rfl (Nat.le_of_ble_eq_true rfl) ⟨by show cells + 2 ≤ 600074; omega, by show slots + 40 ≤ 7301550; omega⟩ dL_law_505 ?_
          refine z_icmp_ne (tgt := 535) S dL_law_508 (by decide) (by omega) (fun h_23 => ?_) (fun h_23 => ?_)
          · exact absurd h_23 (by omega)
          · refine lv_aload_n S.1 S.2.1 dL_law_511 rfl (lv_at hl 8 rfl) ?_
            refine z_rVd (As := []) (rest := []) S (r_X4_mean l D g a c hI) ml_L_128 im_X4_mean se_X4_mean ini_X4 cd_X4_mean ds_X4_mean ⟨Nat.le_of_ble_eq_true rfl, Nat.le_of_ble_eq_true rfl⟩ hK (va_P_l (va_P_r hP)) (va_recv hK.1 (va_P_l (va_P_r hP)) (ci := 4) (q0 := 0) rfl rfl) rfl hl.1 rfl (Nat.le_of_ble_eq_true rfl) ⟨by show cells + 2 ≤ 600074; omega, by show slots + 40 ≤ 7301550; omega⟩ dL_law_512 ?_
            refine lv_iload S.1 S.2.1 dL_law_515 (lv_at hl 14 rfl) ?_
            refine z_if_ne (tgt := 524) S dL_law_517 (by decide) (by omega) (fun h_24 => ?_) (fun h_24 => ?_)
            · refine lv_iload S.1 S.2.1 dL_law_524 (lv_at hl 1 rfl) ?_
              refine lv_i2d S.1 S.2.1 dL_law_526 ?_
              refine lv_iload S.1 S.2.1 dL_law_527 (lv_at hl 14 rfl) ?_
              refine lv_i2d S.1 S.2.1 dL_law_529 ?_
              refine lv_ddiv S.1 S.2.1 dL_law_530 (mn_n64 (by omega)) ?_
              refine lv_dcmp S.1 S.2.1 dL_law_531 ?_
              rw [show Op.cmpValue (FP.dcmp (mnV (meanW c) (c.1 4)) (FP.ddiv (FP.i2d (zI (watD c (20 * 20)))) (FP.i2d (zI (c.1 4))))) .l = zI 0 from by first | (rw [show FP.ddiv (FP.i2d (zI (watD c (20 * 20)))) (FP.i2d (zI (c.1 4))) = mnV (meanW c) (c.1 4) from by rw [hall.2.2.2.1]; unfold mnV; rw [if_pos (by omega)]]; exact mnV_self (by omega) _) | (rw [show FP.dconst0 = mnV (meanW c) (c.1 4) from by unfold mnV; rw [if_neg (by omega)]]; exact mnV_self (by omega) _)]
              refine z_if_eq (tgt := 537) S dL_law_532 (by decide) (by omega) (fun h_25 => ?_) (fun h_25 => ?_)
              · exact next _ _ _ _ _ hP hD hS (lv_sub hl [7, 8, 9, 10, 11, 12, 13, 14, 15, 6, 5] rfl)
              · exact absurd h_25 (by omega)
            · refine lv_dconst0 S.1 S.2.1 dL_law_520 ?_
              refine z_goto (tgt := 531) S dL_law_521 (by decide) ?_
              refine lv_dcmp S.1 S.2.1 dL_law_531 ?_
              rw [show Op.cmpValue (FP.dcmp (mnV (meanW c) (c.1 4)) FP.dconst0) .l = zI 0 from by first | (rw [show FP.ddiv (FP.i2d (zI (watD c (20 * 20)))) (FP.i2d (zI (c.1 4))) = mnV (meanW c) (c.1 4) from by rw [hall.2.2.2.1]; unfold mnV; rw [if_pos (by omega)]]; exact mnV_self (by omega) _) | (rw [show FP.dconst0 = mnV (meanW c) (c.1 4) from by unfold mnV; rw [if_neg (by omega)]]; exact mnV_self (by omega) _)]
              refine z_if_eq (tgt := 537) S dL_law_532 (by decide) (by omega) (fun h_26 => ?_) (fun h_26 => ?_)
              · exact next _ _ _ _ _ hP hD hS (lv_sub hl [7, 8, 9, 10, 11, 12, 13, 14, 15, 6, 5] rfl)
              · exact absurd h_26 (by omega)
    · exact absurd h_20 (by omega)
end SEGD
