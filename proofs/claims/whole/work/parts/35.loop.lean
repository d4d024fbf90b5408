/-! THE LAW'S LOOP -/
section LP
variable {p : Program} {l : Launch} {e : Env} {s : State} {m : MethodId} {args : Array Value} {below : List Frame} {meth : Method} {co : Code} {Q : State → Prop} {D : va_G} {g : ClassId × ClassId × ClassId} {a b : Nat → Nat} {o sc L : Nat} {xs : Nat → Int32}
set_option maxHeartbeats 4000000 in
set_option maxRecDepth 100000 in
theorem law_loop (S0 : ∀ d : Drawn, CallFix p m co cL_law 9 (s.setDrawn d) args AW RL) (hx : LX D g a b o sc L xs s) (hst : l.stackTraces = false) (fin : ∀ (d1 : Drawn) (H2 : Heap) (locs2 : List Loc) (ls2 : Array Slot) (cells2 slots2 : Nat), s.drawn.sameBut d1 lw_cs → va_S (fun q => s.heap.size ≤ q) s.heap H2 locs2 → cells2 ≤ 1086 → slots2 ≤ 15587 → W p l e room_1 (s.setDrawn d1) m args below meth co H2 locs2 cells2 slots2 Q (F0 m 1436 ls2 [])) : ∀ (n k : Nat), L < 7 * (k + n) → 7 * k ≤ L → ∀ (d0 : Drawn) (c mm : CS) (G : Nat → Int64) (H : Heap) (locs : List Loc) (ls : Array Slot), s.drawn.sameBut d0 lw_cs → OK2 (1000 + 100000 * (k : Int)) c mm → va_P D vwCl (LW g a c o G ++ MW g b mm) H → va_S (fun q => s.heap.size ≤ q) s.heap H locs → lv_has ls 9 [(0, .ref sc), (1, .ref (a 0)), (2, .ref (b 0)), (3, .ref o), (4, .int (zI (7 * (k : Int))))] → W p l e room_1 (s.setDrawn d0) m args below meth co H locs (36 + k) (7239 + 6 * k) Q (F0 m 23 ls []) := by
  have hL : L ≤ 3584 := hx.2.2.2.2.2.2.2.2.2
  have hX := hx.2.2.2.2.2.2.2.1
  have hsc := hx.2.2.2.2.2.2.2.2.1
  intro n
  induction n with
  | zero => intro k h1 h2; exact absurd h1 (by omega)
  | succ n ih =>
    intro k hn hk d0 c mm G H locs ls hd0 hok hP hS hl
    have S := S0 d0
    refine lv_iload S.1 S.2.1 dL_law_23 (lv_at hl 4 rfl) ?_
    refine lv_aload_n S.1 S.2.1 dL_law_25 rfl (lv_at hl 0 rfl) ?_
    refine va_slen S.1 S.2.1 (hx.dr d0).2.2.2.2.2.2.2.1 hsc (Nat.not_le.mpr hsc) hS dL_law_26 ?_
    rw [show Int32.ofNat L = zI (L : Int) from Int32.ofInt_eq_ofNat.symm]
    refine z_bipush S (by decide) dL_law_27 ?_
    refine z_isub S dL_law_29 ?_
    refine z_icmp_gt (tgt := 1436) S dL_law_30 (by decide) ⟨by omega, by omega⟩ (fun _ => fin d0 H locs ls _ _ hd0 hS (by omega) (by omega)) (fun hle => ?_)
    have hi : 0 ≤ 7 * (k : Int) ∧ 7 * (k : Int) + 6 < L := by omega
    have hB : 1000 ≤ 1000 + 100000 * (k : Int) ∧ 1000 + 100000 * (k : Int) ≤ 900000000 := by omega
    have hc : 36 + k + 1 ≤ 1086 ∧ 7239 + 6 * k + 6 ≤ 15587 := by omega
    have eB : 1000 + 100000 * (k : Int) + 100000 = 1000 + 100000 * ((k + 1 : Nat) : Int) := by omega
    -- the loop's step
    have next : ∀ (d1 : Drawn) (c2 m2 : CS) (G2 : Nat → Int64) (H2 : Heap) (locs2 : List Loc) (ls2 : Array Slot), s.drawn.sameBut d1 lw_cs → OK2 (1000 + 100000 * (k : Int) + 100000) c2 m2 → va_P D vwCl (LW g a c2 o G2 ++ MW g b m2) H2 → va_S (fun q => s.heap.size ≤ q) s.heap H2 locs2 → lv_has ls2 9 [(0, .ref sc), (1, .ref (a 0)), (2, .ref (b 0)), (3, .ref o), (4, .int (zI (7 * (k : Int))))] → W p l e room_1 (s.setDrawn d1) m args below meth co H2 locs2 (36 + k + 1) (7239 + 6 * k + 6) Q (F0 m 1430 ls2 []) := by
      intro d1 c2 m2 G2 H2 locs2 ls2 hd1 hok2 hP2 hS2 hl2
      have S1 := S0 d1
      refine z_iinc (n := 7) (a := 7 * (k : Int)) (lv' := [(4, .int (zI (7 * (k : Int) + 7))), (0, .ref sc), (1, .ref (a 0)), (2, .ref (b 0)), (3, .ref o)]) S1 dL_law_1430 hl2 (k := 4) rfl (by decide) rfl (fun ls3 hl3 => ?_)
      refine z_goto (tgt := 23) S1 dL_law_1433 (by decide) ?_
      refine W.widen (k := 36 + (k + 1)) (n := 7239 + 6 * (k + 1)) (by omega) (by omega) ?_
      rw [eB] at hok2
      have e7 : 7 * (k : Int) + 7 = 7 * ((k + 1 : Nat) : Int) := by omega
      rw [e7] at hl3
      exact ih (k + 1) (by omega) (by omega) d1 c2 m2 G2 H2 locs2 ls3 hd1 hok2 hP2 hS2 (lv_sub hl3 [1, 2, 3, 4, 0] rfl)
    refine lv_aload_n S.1 S.2.1 dL_law_33 rfl (lv_at hl 0 rfl) ?_
    refine lv_iload S.1 S.2.1 dL_law_34 (lv_at hl 4 rfl) ?_
    refine l_sld S (hx.dr d0) hS (j := 7 * (k : Int)) (by omega) dL_law_36 ?_
    refine z_bipush S (by decide) dL_law_37 ?_
    refine lv_iand S.1 S.2.1 dL_law_39 ?_
    obtain ⟨j, hj⟩ : ∃ j : Int, j = (zI (sx xs (7 * (k : Int))) &&& zI 31).toInt := ⟨_, rfl⟩
    have hjI : I32 j := by rw [hj]; exact I32_of _
    rw [zI_of (zI (sx xs (7 * (k : Int))) &&& zI 31), ← hj]
    have hcs : (j < 0 ∨ 18 < j) ∨ j = 0 ∨ j = 1 ∨ j = 2 ∨ j = 3 ∨ j = 4 ∨ j = 5 ∨ j = 6 ∨ j = 7 ∨ j = 8 ∨ j = 9 ∨ j = 10 ∨ j = 11 ∨ j = 12 ∨ j = 13 ∨ j = 14 ∨ j = 15 ∨ j = 16 ∨ j = 17 ∨ j = 18 := by omega
    rcases hcs with hd | rfl | rfl | rfl | rfl | rfl | rfl | rfl | rfl | rfl | rfl | rfl | rfl | rfl | rfl | rfl | rfl | rfl | rfl | rfl
    · refine z_tabOut (tgt := 1430) S hjI dL_law_40 hd (by decide) ?_
      refine W.widen (k := 36 + k + 1) (n := 7239 + 6 * k + 6) (by omega) (by omega) ?_
      exact next d0 _ _ _ _ _ _ hd0 ⟨hok.1, hok.2.1.mono (by omega), hok.2.2.mono (by omega)⟩ hP hS hl
    · refine z_tabIn (tgt := 132) S 0 rfl (by decide) dL_law_40 (by decide) (by decide) rfl (by decide) ?_
      exact lc_vein S (hx.dr d0) hst hok hB hi hl hP hS hc (fun c2 m2 G2 H2 locs2 ls2 q1 q2 q3 q4 => next d0 c2 m2 G2 H2 locs2 ls2 hd0 q1 q2 q3 q4)
    · refine z_tabIn (tgt := 250) S 1 rfl (by decide) dL_law_40 (by decide) (by decide) rfl (by decide) ?_
      exact lc_dowser S (hx.dr d0) hst hok hB hi hl hP hS hc (fun c2 m2 G2 H2 locs2 ls2 q1 q2 q3 q4 => next d0 c2 m2 G2 H2 locs2 ls2 hd0 q1 q2 q3 q4)
    · refine z_tabIn (tgt := 318) S 2 rfl (by decide) dL_law_40 (by decide) (by decide) rfl (by decide) ?_
      exact lc_setMark S (hx.dr d0) hst hok hB hi hl hP hS hc (fun c2 m2 G2 H2 locs2 ls2 q1 q2 q3 q4 => next d0 c2 m2 G2 H2 locs2 ls2 hd0 q1 q2 q3 q4)
    · refine z_tabIn (tgt := 374) S 3 rfl (by decide) dL_law_40 (by decide) (by decide) rfl (by decide) ?_
      exact lc_walk S (hx.dr d0) hst hok hB hi hl hP hS hc (fun c2 m2 G2 H2 locs2 ls2 q1 q2 q3 q4 => next d0 c2 m2 G2 H2 locs2 ls2 hd0 q1 q2 q3 q4)
    · refine z_tabIn (tgt := 478) S 4 rfl (by decide) dL_law_40 (by decide) (by decide) rfl (by decide) ?_
      exact lc_pull S (hx.dr d0) hst hok hB hi hl hP hS hc (fun c2 m2 G2 H2 locs2 ls2 q1 q2 q3 q4 => next d0 c2 m2 G2 H2 locs2 ls2 hd0 q1 q2 q3 q4)
    · refine z_tabIn (tgt := 546) S 5 rfl (by decide) dL_law_40 (by decide) (by decide) rfl (by decide) ?_
      exact lc_pit S (hx.dr d0) hst hok hB hi hl hP hS hc (fun c2 m2 G2 H2 locs2 ls2 q1 q2 q3 q4 => next d0 c2 m2 G2 H2 locs2 ls2 hd0 q1 q2 q3 q4)
    · refine z_tabIn (tgt := 614) S 6 rfl (by decide) dL_law_40 (by decide) (by decide) rfl (by decide) ?_
      exact lc_bet S (hx.dr d0) hst hok hB hi hl hP hS hc (fun c2 m2 G2 H2 locs2 ls2 q1 q2 q3 q4 => next d0 c2 m2 G2 H2 locs2 ls2 hd0 q1 q2 q3 q4)
    · refine z_tabIn (tgt := 722) S 7 rfl (by decide) dL_law_40 (by decide) (by decide) rfl (by decide) ?_
      exact lc_dig S (hx.dr d0) hst hok hB hi hl hP hS hc (fun c2 m2 G2 H2 locs2 ls2 q1 q2 q3 q4 => next d0 c2 m2 G2 H2 locs2 ls2 hd0 q1 q2 q3 q4)
    · refine z_tabIn (tgt := 790) S 8 rfl (by decide) dL_law_40 (by decide) (by decide) rfl (by decide) ?_
      exact lc_spot S (hx.dr d0) hst hok hB hi hl hP hS hc (fun c2 m2 G2 H2 locs2 ls2 q1 q2 q3 q4 => next d0 c2 m2 G2 H2 locs2 ls2 hd0 q1 q2 q3 q4)
    · refine z_tabIn (tgt := 870) S 9 rfl (by decide) dL_law_40 (by decide) (by decide) rfl (by decide) ?_
      exact lc_rod S (hx.dr d0) hst hok hB hi hl hP hS hc (fun c2 m2 G2 H2 locs2 ls2 q1 q2 q3 q4 => next d0 c2 m2 G2 H2 locs2 ls2 hd0 q1 q2 q3 q4)
    · refine z_tabIn (tgt := 950) S 10 rfl (by decide) dL_law_40 (by decide) (by decide) rfl (by decide) ?_
      exact lc_told S (hx.dr d0) hst hok hB hi hl hP hS hc (fun c2 m2 G2 H2 locs2 ls2 q1 q2 q3 q4 => next d0 c2 m2 G2 H2 locs2 ls2 hd0 q1 q2 q3 q4)
    · refine z_tabIn (tgt := 1018) S 11 rfl (by decide) dL_law_40 (by decide) (by decide) rfl (by decide) ?_
      exact lc_about S (hx.dr d0) hst hok hB hi hl hP hS hc (fun c2 m2 G2 H2 locs2 ls2 q1 q2 q3 q4 => next d0 c2 m2 G2 H2 locs2 ls2 hd0 q1 q2 q3 q4)
    · refine z_tabIn (tgt := 1086) S 12 rfl (by decide) dL_law_40 (by decide) (by decide) rfl (by decide) ?_
      exact lc_count S (hx.dr d0) hst hok hB hi hl hP hS hc (fun c2 m2 G2 H2 locs2 ls2 q1 q2 q3 q4 => next d0 c2 m2 G2 H2 locs2 ls2 hd0 q1 q2 q3 q4)
    · refine z_tabIn (tgt := 1142) S 13 rfl (by decide) dL_law_40 (by decide) (by decide) rfl (by decide) ?_
      exact lc_line S (hx.dr d0) hst hok hB hi hl hP hS hc (fun c2 m2 G2 H2 locs2 ls2 q1 q2 q3 q4 => next d0 c2 m2 G2 H2 locs2 ls2 hd0 q1 q2 q3 q4)
    · refine z_tabIn (tgt := 1198) S 14 rfl (by decide) dL_law_40 (by decide) (by decide) rfl (by decide) ?_
      exact lc_would S (hx.dr d0) hst hok hB hi hl hP hS hc (fun c2 m2 G2 H2 locs2 ls2 q1 q2 q3 q4 => next d0 c2 m2 G2 H2 locs2 ls2 hd0 q1 q2 q3 q4)
    · refine z_tabIn (tgt := 1294) S 15 rfl (by decide) dL_law_40 (by decide) (by decide) rfl (by decide) ?_
      exact lc_best S (hx.dr d0) hst hok hB hi hl hP hS hc (fun c2 m2 G2 H2 locs2 ls2 q1 q2 q3 q4 => next d0 c2 m2 G2 H2 locs2 ls2 hd0 q1 q2 q3 q4)
    · refine z_tabIn (tgt := 1362) S 16 rfl (by decide) dL_law_40 (by decide) (by decide) rfl (by decide) ?_
      exact lc_advise S (hx.dr d0) hok hB hl hP hS hc (fun c2 m2 G2 H2 locs2 ls2 q1 q2 q3 q4 => next d0 c2 m2 G2 H2 locs2 ls2 hd0 q1 q2 q3 q4)
    · refine z_tabIn (tgt := 1375) S 17 rfl (by decide) dL_law_40 (by decide) (by decide) rfl (by decide) ?_
      exact lc_mean hd0 S hx hok hB hl hP hS hc next
    · refine z_tabIn (tgt := 1416) S 18 rfl (by decide) dL_law_40 (by decide) (by decide) rfl (by decide) ?_
      exact lc_digest S (hx.dr d0) hok hB hl hP hS hc (fun c2 m2 G2 H2 locs2 ls2 q1 q2 q3 q4 => next d0 c2 m2 G2 H2 locs2 ls2 hd0 q1 q2 q3 q4)
end LP
