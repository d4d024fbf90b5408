/-! THE JDK's OWN: Integer.signum over small numbers, Arrays.fill -/
theorem sig_ok : ∀ n : Nat, n < 41 → ((zI ((n : Int) - 20) >>> (zI 31 &&& 31)) ||| ((zI (-((n : Int) - 20))).toUInt32 >>> ((zI 31).toUInt32 &&& Int32.toUInt32 31)).toInt32) = zI (sgn ((n : Int) - 20)) := by decide +kernel
set_option maxHeartbeats 4000000 in
set_option maxRecDepth 100000 in
theorem m_J6_signum_0f7a4 (l : Launch) (D : va_G) (g : ClassId × ClassId × ClassId) (z : Int) (h0 : -20 ≤ z ∧ z ≤ 20) : RD l yJ6_signum_0f7a4 cJ6_signum_0f7a4 1 (some .int) 0 0 D g [] [.int (zI z)] (sgn z) := by
  refine z_enter RJ6 (by decide) rfl (Nat.le_of_ble_eq_true rfl) ?_
  intro p e s m args below meth co S hr hlk hK hP ls hl
  have hl : lv_has ls 1 [(0, .int (zI z))] := hl
  refine lv_iload_n S.1 S.2.1 dJ6_signum_0f7a4_0 rfl (lv_at hl 0 rfl) ?_
  refine z_bipush S (by decide) dJ6_signum_0f7a4_1 ?_
  refine lv_ishr S.1 S.2.1 dJ6_signum_0f7a4_3 ?_
  refine lv_iload_n S.1 S.2.1 dJ6_signum_0f7a4_4 rfl (lv_at hl 0 rfl) ?_
  refine z_ineg S dJ6_signum_0f7a4_5 ?_
  refine z_bipush S (by decide) dJ6_signum_0f7a4_6 ?_
  refine lv_iushr (v := ((zI (-z)).toUInt32 >>> ((zI 31).toUInt32 &&& Int32.toUInt32 31)).toInt32) S.1 S.2.1 dJ6_signum_0f7a4_8 rfl ?_
  refine lv_ior S.1 S.2.1 dJ6_signum_0f7a4_9 ?_
  have h1 := sig_ok (z + 20).toNat (by omega)
  rw [show (((z + 20).toNat : Nat) : Int) - 20 = z by omega] at h1
  rw [h1]
  exact z_ret S hr hlk rfl dJ6_signum_0f7a4_10
/-- what a row holds beyond its length doesn't matter -/
theorem va_P_row {D : va_G} {cl : List vw_C} {ws : va_W} {H : Heap} (h : va_P D cl ws H) (q0 : Nat) {r n : Nat} {cA : ClassId} {f f' : Nat → Int32} (hw : ws[q0]? = some (r, .inl (cA, n, .inl f))) (hf : ∀ j : Nat, j < n → f j = f' j) : va_P D cl (ws.set q0 (r, .inl (cA, n, .inl f'))) H := by
  intro k q hk
  by_cases e : k = q0
  · subst e
    have hlt : k < ws.length := (List.getElem?_eq_some_iff.mp hw).1
    rw [List.getElem?_set_self hlt] at hk
    cases Option.some.inj hk
    have h1 := h k _ hw
    show H[r]? = some (vp_cell cA (n, .inl f'))
    have h2 : H[r]? = some (vp_cell cA (n, .inl f)) := h1
    rw [h2]
    congr 1
    rw [vp_cell_i, vp_cell_i]
    unfold arrV
    congr 1
    congr 1
    funext j
    show Value.int (f j.val) = Value.int (f' j.val)
    rw [hf j.val j.isLt]
  · rw [List.getElem?_set_ne (fun z => e z.symm)] at hk
    exact h k q hk
theorem va_set_set {ws : va_W} {q0 : Nat} {x y : Nat × va_E} : (ws.set q0 x).set q0 y = ws.set q0 y := by simp
theorem va_set_at {ws : va_W} {q0 : Nat} {x z : Nat × va_E} (h : ws[q0]? = some z) : (ws.set q0 x)[q0]? = some x := List.getElem?_set_self (List.getElem?_eq_some_iff.mp h).1
theorem va_D_set {A : Nat → Prop} {ws : va_W} {q0 r : Nat} {e e' : va_E} (hD : va_D A ws) (h : ws[q0]? = some (r, e)) : va_D A (ws.set q0 (r, e')) := hD.set h
set_option maxHeartbeats 4000000 in
set_option maxRecDepth 100000 in
theorem m_J7_fill_53178 (l : Launch) (D : va_G) (g : ClassId × ClassId × ClassId) {A : Nat → Prop} (ws : va_W) (q0 : Nat) {r n : Nat} {F : Int → Int} (v : Int) (hw : ws[q0]? = some (r, .inl (g.1, n, .inl (zA F)))) (hD : va_D A ws) (hn : n < 2147483647) : WRv l yJ7_fill_53178 cJ7_fill_53178 4 none 0 0 D g A ws [.ref r, .int (zI v)] (ws.set q0 (r, .inl (g.1, n, .inl (zA (fun _ => v))))) := by
  refine z_enter RJ7 (by decide) rfl (Nat.le_of_ble_eq_true rfl) ?_
  intro p e s m args below meth co S hr hlk hK hP ls hl
  have hl : lv_has ls 4 [(0, .ref r), (1, .int (zI v))] := hl
  have hS : va_S A s.heap s.heap [] := va_S.rf
  refine z_iconst S dJ7_fill_53178_0 ?_
  refine lv_istore_n (lv' := [(2, .int (zI 0)), (0, .ref r), (1, .int (zI v))]) S.1 S.2.1 dJ7_fill_53178_1 rfl hl (by decide) rfl (fun ls hl => ?_)
  refine lv_aload_n S.1 S.2.1 dJ7_fill_53178_2 rfl (lv_at hl 1 rfl) ?_
  refine va_alen S.1 S.2.1 hK.1 hP q0 0 hw rfl (zI_nI n) dJ7_fill_53178_3 ?_
  refine lv_istore_n (lv' := [(3, .int (zI (n : Int))), (2, .int (zI 0)), (0, .ref r), (1, .int (zI v))]) S.1 S.2.1 dJ7_fill_53178_4 rfl hl (by decide) rfl (fun ls hl => ?_)
  have hP0 : va_P D vwCl (ws.set q0 (r, .inl (g.1, n, .inl (zA (fun j => if j < ((0 : Nat) : Int) then v else F j))))) s.heap := va_P_row hP q0 hw (fun j _ => by show zI (F j) = zI (if (j : Int) < ((0 : Nat) : Int) then v else F j); rw [if_neg (by omega)])
  refine z_forW (D := D) (nL := 4) (A := A) (H0 := s.heap) n (fun k => [(3, .int (zI (n : Int))), (2, .int (zI (k : Int))), (0, .ref r), (1, .int (zI v))]) (fun k => ws.set q0 (r, .inl (g.1, n, .inl (zA (fun j => if j < (k : Int) then v else F j))))) (fun _ => True) (fun k hk _ H locs hP hS ls hl ih => ?_) (fun _ H locs hP hS ls hl => ?_) 0 (Nat.zero_le _) trivial _ _ hP0 hS ls hl
  · have hl : lv_has ls 4 [(3, .int (zI (n : Int))), (2, .int (zI (k : Int))), (0, .ref r), (1, .int (zI v))] := hl
    refine lv_iload_n S.1 S.2.1 dJ7_fill_53178_5 rfl (lv_at hl 1 rfl) ?_
    refine lv_iload_n S.1 S.2.1 dJ7_fill_53178_6 rfl (lv_at hl 0 rfl) ?_
    refine z_icmp_ge (tgt := 20) S dJ7_fill_53178_7 (by decide) (by omega) (fun h_1 => ?_) (fun h_1 => ?_)
    · exact absurd h_1 (by omega)
    · refine lv_aload_n S.1 S.2.1 dJ7_fill_53178_10 rfl (lv_at hl 2 rfl) ?_
      refine lv_iload_n S.1 S.2.1 dJ7_fill_53178_11 rfl (lv_at hl 1 rfl) ?_
      refine lv_iload_n S.1 S.2.1 dJ7_fill_53178_12 rfl (lv_at hl 3 rfl) ?_
      refine z_iast S hK hP (va_D_set hD hw) hS q0 (va_set_at hw) (by omega) (by omega) dJ7_fill_53178_13 (fun H locs hP hS => ?_)
      rw [va_set_set] at hP
      refine z_iinc (lv' := [(2, .int (zI ((k : Int) + 1))), (3, .int (zI (n : Int))), (0, .ref r), (1, .int (zI v))]) S dJ7_fill_53178_14 hl (k := 1) rfl (by decide) rfl (fun ls hl => ?_)
      refine z_goto (tgt := 5) S dJ7_fill_53178_17 (by decide) ?_
      have hF : upZ (fun j => if j < (k : Int) then v else F j) (k : Int) v = fun j => if j < ((k + 1 : Nat) : Int) then v else F j := by
        funext j
        unfold upZ
        by_cases q : j = k
        · rw [if_pos q, if_pos (by omega)]
        · rw [if_neg q]
          show (if j < (k : Int) then v else F j) = _
          by_cases q2 : j < (k : Int)
          · rw [if_pos q2, if_pos (by omega)]
          · rw [if_neg q2, if_neg (by omega)]
      rw [hF] at hP
      exact ih _ _ hP hS _ (lv_sub hl [1, 0, 2, 3] rfl) trivial
  · have hl : lv_has ls 4 [(3, .int (zI (n : Int))), (2, .int (zI (n : Int))), (0, .ref r), (1, .int (zI v))] := hl
    refine lv_iload_n S.1 S.2.1 dJ7_fill_53178_5 rfl (lv_at hl 1 rfl) ?_
    refine lv_iload_n S.1 S.2.1 dJ7_fill_53178_6 rfl (lv_at hl 0 rfl) ?_
    refine z_icmp_ge (tgt := 20) S dJ7_fill_53178_7 (by decide) (by omega) (fun h_1 => ?_) (fun h_1 => ?_)
    · have hP := va_P_row hP q0 (va_set_at hw) (f' := zA (fun _ => v)) (fun j hj => by show zI (if (j : Int) < (n : Int) then v else F j) = zI v; rw [if_pos (by omega)])
      rw [va_set_set] at hP
      exact z_retv S hr hlk hP hS dJ7_fill_53178_20
    · exact absurd h_1 (by omega)
