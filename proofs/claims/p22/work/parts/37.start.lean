/-! THE START -/
theorem KX.dr {D : va_G} {g : ClassId × ClassId × ClassId} {U : State} (d : Drawn) (h : KX D g U) : KX D g (U.setDrawn d) := ⟨⟨va_K.moved (u := U) (U := U.setDrawn d) (Vm.Alike.refl U.vm) h.1.1, NW.same (u := U) (U := U.setDrawn d) rfl h.1.2.1, va_AOA.moved (u := U) (U := U.setDrawn d) (Vm.Alike.refl U.vm) h.1.2.2⟩, fun w hw => xw_same (u := U) (U := U.setDrawn d) (XWl_x w hw) rfl (h.2.1 w hw), fun q hq => (h.2.2.1 q hq).elim fun sa z => ⟨sa, vk_R.same (u := U) (U := U.setDrawn d) rfl z⟩, fun q hq => va_Nc.moved (u := U) (U := U.setDrawn d) (Vm.Alike.refl U.vm) (h.2.2.2 q hq)⟩
theorem va_AOA.of {t : FieldType} {A : Array Value} {U : State} (h : (Cond.arrayOver (.array t)).before A U = true) : va_AOA t U := h
/-! WHAT THE START GIVES: the tables, the text constants, the statics; and which cells are whose -/
theorem xw_of {w : Cond} (h : xw w = true) {A : Array Value} {U : State} (q : w.before A U = true) : va_Nw w U := by
  cases w <;> first | exact va_Nw.of rfl q | cases h
theorem nw_t : ∀ q ∈ NWl, Cond.methodLinkNest q.1 q.2.1 q.2.2.1 q.2.2.2 ∈ lw_tbl := by decide +kernel
theorem sx_t : ∀ q ∈ SXl, Cond.stringRef RX4 q.1 q.2 ∈ lw_tbl := by decide +kernel
theorem sx_e : ∀ q ∈ SXl, Cond.exactly (.string RX4 q.1) "java/lang/String" ∈ flatC (Cond.and given_1 narrow_1) := by decide +kernel
theorem nc_e : ∀ q ∈ NCl, Cond.not (.castable q.1 q.2) ∈ flatC (Cond.and given_1 narrow_1) := fun q h => absurd h List.not_mem_nil
theorem zq_1 : Cond.laysStatic Bundle.tN "UNASSIGNED_STACK" Bundle.steD ∈ lw_tbl := by decide +kernel
theorem zq_2 : Cond.laysStatic Bundle.tN "SUPPRESSED_SENTINEL" Bundle.listD ∈ lw_tbl := by decide +kernel
theorem zq_3 : Cond.initialized Bundle.tN ∈ lw_tbl := by decide +kernel
theorem zq_4 : Cond.isRef (.static Bundle.tN "UNASSIGNED_STACK" Bundle.steD) ∈ flatC (Cond.and given_1 narrow_1) := by decide +kernel
theorem zq_5 : Cond.isRef (.static Bundle.tN "SUPPRESSED_SENTINEL" Bundle.listD) ∈ flatC (Cond.and given_1 narrow_1) := by decide +kernel
theorem arr_of {args : Array Value} {s : State} {ty : FieldType} (h : (Cond.arrayClass ty).before args s = true) (hn : ∀ C, ty ≠ .object C) : ∃ cA : ClassId, ArrOfT s cA ty ∧ s.vm.findClass ("[" ++ ty.toString) = some cA := by
  obtain ⟨cA, kA, comp, f1, f2, f3⟩ := Cond.arrayClass_spec (args := args) (first := s) (o := none) (s := s) (idx := []) h
  exact ⟨cA, fun n z => ⟨fun k h => (by cases h), kA, f2, comp, f3⟩, f1⟩
theorem kx_of {args : Array Value} {s : State} (hts : ∀ w ∈ lw_tbl, w.before args s = true) (hgv : (Cond.and given_1 narrow_1).before args s = true) : ∃ (D : va_G) (g : ClassId × ClassId × ClassId), KX D g s := by
  have hAW : ∀ w ∈ AW, w.before args s = true := fun w h => hts w (AW_tbl w h)
  have hs := flat_of_before _ hgv
  obtain ⟨c0, i0, k0⟩ := u_known (C := RX0) (T := TX0) (N := 4) (n := 4) hAW inA0 (hAW _ ins_X0)
  obtain ⟨c1, i1, k1⟩ := u_known (C := RX1) (T := TX1) (N := 3) (n := 3) hAW inA1 (hAW _ ins_X1)
  obtain ⟨c2, i2, k2⟩ := u_known (C := RX2) (T := TX2) (N := 7) (n := 7) hAW inA2 (hAW _ ins_X2)
  obtain ⟨c3, i3, k3⟩ := u_known (C := RX3) (T := TX3) (N := 6) (n := 6) hAW inA3 (hAW _ ins_X3)
  obtain ⟨c4, i4, k4⟩ := u_known (C := RX4) (T := TX4) (N := 6) (n := 6) hAW inA4 (hAW _ ins_X4)
  obtain ⟨c5, i5, k5⟩ := u_known (C := RX5) (T := TX5) (N := 6) (n := 6) hAW inA5 (hAW _ ins_X5)
  obtain ⟨g0, a0, n0⟩ := arr_of (hAW _ ac_int) (fun C h => by cases h)
  obtain ⟨g1, a1, n1⟩ := arr_of (hAW _ ac_boolean) (fun C h => by cases h)
  have hAO : va_AOA .int s := va_AOA.of (hts _ ao_int)
  obtain ⟨comp, g2, kA, e1, -, e2, e3, e4⟩ := arrayOverA_spec (va_AOA.use (A := args) hAO)
  refine ⟨(fun k => [c0, c1, c2, c3, c4, c5].getD k 0, fun k => [i0, i1, i2, i3, i4, i5].getD k i0), (g0, g1, g2), ⟨⟨fun k q hq => ?_, fun k q hq => ?_⟩, fun q hq => va_Nw.of rfl (hts _ (nw_t q hq)), hAO⟩, fun w hw => xw_of (XWl_x w hw) (hts _ (XWl_t w hw)), fun q hq => ?_, fun q hq => va_Nc.of (hs _ (nc_e q hq))⟩
  · match k, hq with
    | 0, hq => cases hq; exact k0
    | 1, hq => cases hq; exact k1
    | 2, hq => cases hq; exact k2
    | 3, hq => cases hq; exact k3
    | 4, hq => cases hq; exact k4
    | 5, hq => cases hq; exact k5
    | k + 6, hq => simp [vwCl] at hq
  · match k, hq with
    | 0, hq => cases hq; exact ⟨a0, n0⟩
    | 1, hq => cases hq; exact ⟨a1, n1⟩
    | 2, hq => cases hq; exact ⟨fun n z => ⟨fun k h => (by cases h), kA, e2, comp, e3⟩, e4⟩
    | k + 3, hq => simp at hq
  · obtain ⟨a, c, cell, k, q1, -⟩ := Cond.exactly_spec (args := args) (first := s) (o := none) (s := s) (idx := []) (t := .string RX4 q.1) (cls := "java/lang/String") (hs _ (sx_e q hq))
    exact ⟨a, vk_R.of (hts _ (sx_t q hq)) q1⟩
theorem zq_of {args : Array Value} {s : State} (hts : ∀ w ∈ lw_tbl, w.before args s = true) (hgv : (Cond.and given_1 narrow_1).before args s = true) : ZQ (fun q => s.heap.size ≤ q) s s.heap := by
  have hs := flat_of_before _ hgv
  exact ⟨vx_Zqof (hts _ zq_1) (hts _ zq_3) (hs _ zq_4) (fun a h q => absurd h (Nat.not_lt.mpr q)), vx_Zqof (hts _ zq_2) (hts _ zq_3) (hs _ zq_5) (fun a h q => absurd h (Nat.not_lt.mpr q))⟩
