/-! WHAT THE START GIVES: the tables, the text constants, the statics; and which cells are whose -/
theorem xw_of {w : Cond} (h : xw w = true) {A : Array Value} {U : State} (q : w.before A U = true) : va_Nw w U := by
  cases w <;> first | exact va_Nw.of rfl q | cases h
theorem nw_t : ∀ q ∈ NWl, Cond.methodLinkNest q.1 q.2.1 q.2.2.1 q.2.2.2 ∈ lw_tbl := by decide +kernel
theorem sx_t : ∀ q ∈ SXl, Cond.stringRef RX4 q.1 q.2 ∈ lw_tbl := by decide +kernel
theorem sx_e : ∀ q ∈ SXl, Cond.exactly (.string RX4 q.1) "java/lang/String" ∈ flatC (Cond.and given_1 narrow_1) := by decide +kernel
theorem nc_e : ∀ q ∈ NCl, Cond.not (.castable q.1 q.2) ∈ flatC (Cond.and given_1 narrow_1) := by decide +kernel
theorem zq_1 : Cond.laysStatic Bundle.tN "UNASSIGNED_STACK" Bundle.steD ∈ lw_tbl := by decide +kernel
theorem zq_2 : Cond.laysStatic Bundle.tN "SUPPRESSED_SENTINEL" Bundle.listD ∈ lw_tbl := by decide +kernel
theorem zq_3 : Cond.initialized Bundle.tN ∈ lw_tbl := by decide +kernel
theorem zq_4 : Cond.isRef (.static Bundle.tN "UNASSIGNED_STACK" Bundle.steD) ∈ flatC (Cond.and given_1 narrow_1) := by decide +kernel
theorem zq_5 : Cond.isRef (.static Bundle.tN "SUPPRESSED_SENTINEL" Bundle.listD) ∈ flatC (Cond.and given_1 narrow_1) := by decide +kernel
theorem at_fst {ws : va_W} {n : Nat} {a : Nat → Nat} (hw : ws.map Prod.fst = (List.range n).map a) {i : Nat} (hi : i < n) : ∃ q, ws[i]? = some q ∧ q.1 = a i := by
  have h1 : (ws.map Prod.fst)[i]? = some (a i) := by rw [hw, List.getElem?_map, List.getElem?_range hi]; rfl
  rw [List.getElem?_map] at h1
  cases hq : ws[i]? with
  | none => rw [hq] at h1; simp at h1
  | some q => rw [hq] at h1; exact ⟨q, rfl, Option.some.inj h1⟩
theorem l_apart {A : Nat → Prop} {a b : Nat → Nat} {o : Nat} {w1 w2 : va_W} {eo : va_E} (h1 : w1.map Prod.fst = (List.range 21).map a) (h2 : w2.map Prod.fst = (List.range 14).map b) (hD : va_D A ((w1 ++ w2) ++ [(o, eo)])) : (CD 21 a ∧ CD 14 b) ∧ (∀ k : Nat, k < 21 → o ≠ a k) ∧ (∀ q, LA a o q → ¬ CA 14 b q) ∧ (∀ q, LA a o q → A q) ∧ ∀ q, CA 14 b q → A q := by
  have l1 : w1.length = 21 := by have := congrArg List.length h1; simpa using this
  have l2 : w2.length = 14 := by have := congrArg List.length h2; simpa using this
  have e0 : ∀ i : Nat, i < 21 → ∃ q, ((w1 ++ w2) ++ [(o, eo)])[i]? = some q ∧ q.1 = a i := fun i hi => by
    obtain ⟨q, q1, q2⟩ := at_fst h1 hi
    exact ⟨q, by rw [List.getElem?_append_left (by rw [List.length_append]; omega), List.getElem?_append_left (by omega)]; exact q1, q2⟩
  have e1 : ∀ j : Nat, j < 14 → ∃ q, ((w1 ++ w2) ++ [(o, eo)])[21 + j]? = some q ∧ q.1 = b j := fun j hj => by
    obtain ⟨q, q1, q2⟩ := at_fst h2 hj
    exact ⟨q, by rw [List.getElem?_append_left (by rw [List.length_append]; omega), List.getElem?_append_right (by omega), l1, Nat.add_sub_cancel_left]; exact q1, q2⟩
  have e2 : ((w1 ++ w2) ++ [(o, eo)])[35]? = some (o, eo) := by
    rw [List.getElem?_append_right (by rw [List.length_append]; omega), List.length_append, l1, l2]
    rfl
  refine ⟨⟨fun i j hi hj h => ?_, fun i j hi hj h => ?_⟩, fun k hk h => ?_, fun q h hb => ?_, fun q h => ?_, fun q h => ?_⟩
  · obtain ⟨q, q1, q2⟩ := e0 i hi
    obtain ⟨r, r1, r2⟩ := e0 j hj
    exact hD.1 i j q r q1 r1 (by rw [q2, r2, h])
  · obtain ⟨q, q1, q2⟩ := e1 i hi
    obtain ⟨r, r1, r2⟩ := e1 j hj
    have := hD.1 (21 + i) (21 + j) q r q1 r1 (by rw [q2, r2, h])
    omega
  · obtain ⟨q, q1, q2⟩ := e0 k hk
    have := hD.1 k 35 q (o, eo) q1 e2 (by rw [q2, ← h])
    omega
  · obtain ⟨j, hj, hb⟩ := hb
    obtain ⟨r, r1, r2⟩ := e1 j hj
    rcases h with ⟨i, hi, h⟩ | h
    · obtain ⟨q', q1, q2⟩ := e0 i hi
      have := hD.1 i (21 + j) q' r q1 r1 (by rw [q2, r2, ← h, hb])
      omega
    · have := hD.1 35 (21 + j) (o, eo) r e2 r1 (by rw [r2, ← hb, h])
      omega
  · rcases h with ⟨i, hi, h⟩ | h
    · obtain ⟨q', q1, q2⟩ := e0 i hi
      rw [h, ← q2]; exact hD.2 i q' q1
    · rw [h]; exact hD.2 35 (o, eo) e2
  · obtain ⟨j, hj, hb⟩ := h
    obtain ⟨r, r1, r2⟩ := e1 j hj
    rw [hb, ← r2]; exact hD.2 _ r r1
theorem arr_of {args : Array Value} {s : State} {ty : FieldType} (h : (Cond.arrayClass ty).before args s = true) (hn : ∀ C, ty ≠ .object C) : ∃ cA : ClassId, ArrOfT s cA ty ∧ s.vm.findClass ("[" ++ ty.toString) = some cA := by
  obtain ⟨cA, kA, comp, f1, f2, f3⟩ := Cond.arrayClass_spec (args := args) (first := s) (o := none) (s := s) (idx := []) h
  exact ⟨cA, fun n z => ⟨fun k h => (by cases h), kA, f2, comp, f3⟩, f1⟩
theorem kx_of {args : Array Value} {s : State} (hts : ∀ w ∈ lw_tbl, w.before args s = true) (hgv : (Cond.and given_1 narrow_1).before args s = true) : ∃ (D : va_G) (g : ClassId × ClassId × ClassId), KX D g s := by
  have hAW : ∀ w ∈ AW, w.before args s = true := fun w h => hts w (AW_tbl w h)
  have hs := flat_of_before _ hgv
  obtain ⟨c0, i0, k0⟩ := u_known (C := RX0) (T := TX0) (N := 4) (n := 4) hAW inA0 (hAW _ ins_X0)
  obtain ⟨c1, i1, k1⟩ := u_known (C := RX1) (T := TX1) (N := 3) (n := 3) hAW inA1 (hAW _ ins_X1)
  obtain ⟨c2, i2, k2⟩ := u_known (C := RX2) (T := TX2) (N := 7) (n := 7) hAW inA2 (hAW _ ins_X2)
  obtain ⟨c3, i3, k3⟩ := u_known (C := RX3) (T := TX3) (N := 6) (n := 6) hAW inA3 (hAW _ ins_X3)
  obtain ⟨c4, i4, k4⟩ := u_known (C := RX4) (T := TX4) (N := 6) (n := 6) hAW inA4 (hAW _ ins_X4)
  obtain ⟨c5, i5, k5⟩ := u_known (C := RX5) (T := TX5) (N := 20) (n := 20) hAW inA5 (hAW _ ins_X5)
  obtain ⟨g0, a0, n0⟩ := arr_of (hAW _ ac_int) (fun C h => by cases h)
  obtain ⟨g1, a1, n1⟩ := arr_of (hAW _ ac_boolean) (fun C h => by cases h)
  obtain ⟨g2, a2, n2⟩ := arr_of (hAW _ ac_long) (fun C h => by cases h)
  refine ⟨(fun k => [c0, c1, c2, c3, c4, c5].getD k 0, fun k => [i0, i1, i2, i3, i4, i5].getD k i0), (g0, g1, g2), ⟨⟨fun k q hq => ?_, fun k q hq => ?_⟩, fun q hq => va_Nw.of rfl (hts _ (nw_t q hq))⟩, fun w hw => xw_of (XWl_x w hw) (hts _ (XWl_t w hw)), fun q hq => ?_, fun q hq => va_Nc.of (hs _ (nc_e q hq))⟩
  · match k, hq with
    | 0, hq => cases hq; exact k0
    | 1, hq => cases hq; exact k1
    | 2, hq => cases hq; exact k2
    | 3, hq => cases hq; exact k3
    | 4, hq => cases hq; exact k4
    | 5, hq => cases hq; exact k5
    | k + 6, hq => simp [vwCl] at hq
  · match k, hq with
    | 0, hq => cases hq; exact ⟨a0, n0⟩
    | 1, hq => cases hq; exact ⟨a1, n1⟩
    | 2, hq => cases hq; exact ⟨a2, n2⟩
    | k + 3, hq => simp at hq
  · obtain ⟨a, c, cell, k, q1, -⟩ := Cond.exactly_spec (args := args) (first := s) (o := none) (s := s) (idx := []) (t := .string RX4 q.1) (cls := "java/lang/String") (hs _ (sx_e q hq))
    exact ⟨a, vk_R.of (hts _ (sx_t q hq)) q1⟩
theorem zq_of {args : Array Value} {s : State} (hts : ∀ w ∈ lw_tbl, w.before args s = true) (hgv : (Cond.and given_1 narrow_1).before args s = true) : ZQ (fun q => s.heap.size ≤ q) s s.heap := by
  have hs := flat_of_before _ hgv
  exact ⟨vx_Zqof (hts _ zq_1) (hts _ zq_3) (hs _ zq_4) (fun a h q => absurd h (Nat.not_lt.mpr q)), vx_Zqof (hts _ zq_2) (hts _ zq_3) (hs _ zq_5) (fun a h q => absurd h (Nat.not_lt.mpr q))⟩
