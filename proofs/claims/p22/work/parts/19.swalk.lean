/-! THE LAW'S OWN FIELD: a vein more, a walk; a new field; the law's two little methods -/
def vrow (x y tx ty dp fl : Int) : Int → Int := upZ (upZ (upZ (upZ (upZ (upZ (upZ (fun _ => 0) 0 x) 1 y) 2 (sgn (tx - x))) 3 (sgn (ty - y))) 4 (max (ab (x - tx)) (ab (y - ty)))) 5 dp) 6 fl
def prow (x y d : Int) : Int → Int := upZ (upZ (upZ (fun _ => 0) 0 x) 1 y) 2 d
/-- a peg is marked, or not -/
def skM (t : SS) (d x y : Int) : SS := if t.1 4 < 60 ∧ sPA t x y < 0 ∧ t.1 0 ≤ sRod t d x y then sAdd t 2 (prow x y d) else t
def pX (x tx n : Int) : Int := if n ≤ ab (tx - x) then x + n * sgn (tx - x) else tx
def pY (x tx y ty n : Int) : Int := if n ≤ ab (tx - x) then y else y + (n - ab (tx - x)) * sgn (ty - y)
def skC (t : SS) (d x y tx ty : Int) : Nat → SS
  | 0 => t
  | n + 1 => skM (skC t d x y tx ty n) d (pX x tx (n : Int)) (pY x tx y ty (n : Int))
def skN (x y tx ty : Int) : Nat := (ab (tx - x) + ab (ty - y)).toNat
def skW (t : SS) (d x y tx ty : Int) : SS := skC t d x y tx ty (skN x y tx ty + 1)
theorem bAdd_0 (b : Nat → Nat) (t : SS) (k o r : Nat) : bAdd b t k o r 0 = b 0 := by rw [bAdd, if_neg (by omega), if_neg (by omega)]
theorem sgn_ab (z : Int) : (0 < z ∧ sgn z = 1 ∧ ab z = z) ∨ (z < 0 ∧ sgn z = -1 ∧ ab z = -z) ∨ (z = 0 ∧ sgn z = 0 ∧ ab z = 0) := by
  unfold sgn ab
  rcases (show 0 < z ∨ z < 0 ∨ z = 0 by omega) with h | h | h
  · rw [if_pos h, if_pos (by omega)]; omega
  · rw [if_neg (by omega), if_pos h, if_neg (by omega)]; omega
  · subst h; decide
theorem pth {x y tx ty : Int} (h : inF x y ∧ inF tx ty) (k : Int) (hk : 0 ≤ k ∧ k ≤ ab (tx - x) + ab (ty - y)) : (inF (pX x tx k) (pY x tx y ty k)) ∧
    ((k < ab (tx - x) ∧ pX x tx k ≠ tx ∧ pY x tx y ty (k + 1) = pY x tx y ty k ∧ ((pX x tx k < tx ∧ pX x tx (k + 1) = pX x tx k + 1) ∨ (tx < pX x tx k ∧ pX x tx (k + 1) = pX x tx k + (-1)))) ∨
     (ab (tx - x) ≤ k ∧ k < ab (tx - x) + ab (ty - y) ∧ pX x tx k = tx ∧ pX x tx (k + 1) = tx ∧ pY x tx y ty k ≠ ty ∧ ((pY x tx y ty k < ty ∧ pY x tx y ty (k + 1) = pY x tx y ty k + 1) ∨ (ty < pY x tx y ty k ∧ pY x tx y ty (k + 1) = pY x tx y ty k + (-1)))) ∨
     (k = ab (tx - x) + ab (ty - y) ∧ pX x tx k = tx ∧ pY x tx y ty k = ty)) := by
  have hx := sgn_ab (tx - x)
  have hy := sgn_ab (ty - y)
  have ex : ∀ n : Int, pX x tx n = if n ≤ ab (tx - x) then x + n * sgn (tx - x) else tx := fun _ => rfl
  have ey : ∀ n : Int, pY x tx y ty n = if n ≤ ab (tx - x) then y else y + (n - ab (tx - x)) * sgn (ty - y) := fun _ => rfl
  rw [ex k, ex (k + 1), ey k, ey (k + 1)]
  generalize sgn (tx - x) = sx at *
  generalize sgn (ty - y) = sy at *
  generalize ab (tx - x) = ax at *
  generalize ab (ty - y) = ay at *
  rcases hx with ⟨x1, rfl, rfl⟩ | ⟨x1, rfl, rfl⟩ | ⟨x1, rfl, rfl⟩ <;> rcases hy with ⟨y1, rfl, rfl⟩ | ⟨y1, rfl, rfl⟩ | ⟨y1, rfl, rfl⟩ <;> simp only [Int.mul_one, Int.mul_zero, Int.mul_neg] <;> split <;> split <;> omega
theorem skM_c (t : SS) (d x y : Int) : (skM t d x y).1 0 = t.1 0 ∧ (skM t d x y).1 1 = t.1 1 ∧ (skM t d x y).1 2 = t.1 2 ∧ (skM t d x y).1 3 = t.1 3 ∧ (skM t d x y).1 5 = t.1 5 ∧ (skM t d x y).2 0 = t.2 0 ∧ (skM t d x y).2 1 = t.2 1 ∧ (skM t d x y).2 3 = t.2 3 := by
  unfold skM
  split
  · exact ⟨rfl, rfl, rfl, rfl, rfl, rfl, rfl, rfl⟩
  · exact ⟨rfl, rfl, rfl, rfl, rfl, rfl, rfl, rfl⟩
theorem skC_c (t : SS) (d x y tx ty : Int) : ∀ n : Nat, (skC t d x y tx ty n).1 0 = t.1 0 ∧ (skC t d x y tx ty n).1 1 = t.1 1 ∧ (skC t d x y tx ty n).1 2 = t.1 2 ∧ (skC t d x y tx ty n).1 3 = t.1 3 ∧ (skC t d x y tx ty n).1 5 = t.1 5 ∧ (skC t d x y tx ty n).2 0 = t.2 0 ∧ (skC t d x y tx ty n).2 1 = t.2 1 ∧ (skC t d x y tx ty n).2 3 = t.2 3
  | 0 => ⟨rfl, rfl, rfl, rfl, rfl, rfl, rfl, rfl⟩
  | n + 1 => by
    have h1 := skC_c t d x y tx ty n
    have h2 := skM_c (skC t d x y tx ty n) d (pX x tx (n : Int)) (pY x tx y ty (n : Int))
    show (skM _ _ _ _).1 0 = _ ∧ (skM _ _ _ _).1 1 = _ ∧ (skM _ _ _ _).1 2 = _ ∧ (skM _ _ _ _).1 3 = _ ∧ (skM _ _ _ _).1 5 = _ ∧ (skM _ _ _ _).2 0 = _ ∧ (skM _ _ _ _).2 1 = _ ∧ (skM _ _ _ _).2 3 = _
    rw [h2.1, h2.2.1, h2.2.2.1, h2.2.2.2.1, h2.2.2.2.2.1, h2.2.2.2.2.2.1, h2.2.2.2.2.2.2.1, h2.2.2.2.2.2.2.2]
    exact h1
theorem sAdd2_IT {t : SS} (h : IT t) (hn : t.1 4 < 60) {d x y : Int} (hd : 0 ≤ d ∧ d < t.1 3) (hxy : inF x y) : IT (sAdd t 2 (prow x y d)) := by
  have hs := h.s
  refine ⟨⟨hs.1, hs.2.1, hs.2.2.1, ?_, hs.2.2.2.2⟩, h.2.1, h.2.2.1, fun i h0 h1 => ?_, h.2.2.2.2⟩
  · show 0 ≤ t.1 4 + 1 ∧ t.1 4 + 1 ≤ 60
    omega
  · have h1 : i < t.1 4 + 1 := h1
    show PB (t.1 3) ((sAdd t 2 (prow x y d)).2 2 i)
    rw [sAdd_r]
    by_cases e : i = t.1 4
    · show PB (t.1 3) (if i = t.1 4 then _ else _)
      rw [if_pos e]
      exact ⟨hxy.1, hxy.2, hd⟩
    · show PB (t.1 3) (if i = t.1 4 then _ else _)
      rw [if_neg e]
      exact h.p ⟨h0, by omega⟩
theorem skM_IT {t : SS} (h : IT t) {d x y : Int} (hd : 0 ≤ d ∧ d < t.1 3) (hxy : inF x y) : IT (skM t d x y) := by
  unfold skM
  split
  · next z => exact sAdd2_IT h z.1 hd hxy
  · exact h
theorem skC_IT {t : SS} (h : IT t) {d x y tx ty : Int} (hd : 0 ≤ d ∧ d < t.1 3) (hf : inF x y ∧ inF tx ty) : ∀ n : Nat, (n : Int) ≤ ab (tx - x) + ab (ty - y) + 1 → IT (skC t d x y tx ty n)
  | 0, _ => h
  | n + 1, hn => by
    have h1 := skC_IT h hd hf n (by omega)
    have h2 := skC_c t d x y tx ty n
    exact skM_IT h1 (by rw [h2.2.2.2.1]; exact hd) (pth hf (n : Int) (by omega)).1
section YR
variable {p : Program} {l : Launch} {e : Env} {R : Room} {s : State} {m : MethodId} {args : Array Value} {below : List Frame} {meth : Method} {c : Code} {H : Heap} {locs : List Loc} {cells slots : Nat} {Q : State → Prop}
variable {cc : ByteArray} {nL pc : Nat} {own : String} {ls : Array Slot} {rest st0 : List Value} {D : va_G} {A : Nat → Prop} {g : ClassId × ClassId × ClassId} {H0 : Heap} {b u : Nat → Nat} {t' : SS}
theorem y_vret (S : CallFix p m c cc nL s args AW own) (hr : meth.sig.returnType = none) (hlk : meth.locks = false) (hu : u 0 = b 0) (hP : va_P D vwCl (SW g u t') H) (hB : SB A u t') (hS : va_S A s.heap H locs) (hdg : decode cc pc = .ok (.return_, 1)) : W p l e R s m args below meth c H locs cells slots (MQ below (va_Qv (fun (u : Nat → Nat) => u 0 = b 0) (fun u U => va_P D vwCl (SW g u t') U.heap ∧ SB A u t') A) args s cells slots A) (F0 m pc ls []) :=
  W.vret S.1 S.2.1 hr (fun t ht _ => ⟨⟨u, rfl, hu, by show va_P D vwCl (SW g u t') t.heap; rw [ht]; exact hP, hB⟩, hS.F ht⟩) hS.2.2 hdg hlk
theorem y_iretS (S : CallFix p m c cc nL s args AW own) (hr : meth.sig.returnType = some .int) (hlk : meth.locks = false) {x r : Int} (he : x = r) (hu : u 0 = b 0) (hP : va_P D vwCl (SW g u t') H) (hB : SB A u t') (hS : va_S A s.heap H locs) (hdg : decode cc pc = .ok (.ireturn, 1)) : W p l e R s m args below meth c H locs cells slots (MQ below (va_Qi (fun v (u : Nat → Nat) => v = zI r ∧ u 0 = b 0) (fun u U => va_P D vwCl (SW g u t') U.heap ∧ SB A u t') A) args s cells slots A) (F0 m pc ls [.int (zI x)]) :=
  W.iret S.1 S.2.1 hr (fun t ht _ => ⟨⟨_, u, rfl, ⟨by rw [he], hu⟩, by show va_P D vwCl (SW g u t') t.heap; rw [ht]; exact hP, hB⟩, hS.F ht⟩) hS.2.2 hdg hlk
end YR
theorem and_nn (v : Int32) : 0 ≤ (v &&& 2147483647).toInt := by
  have h : (v &&& 2147483647).toBitVec.msb = false := by
    rw [Int32.toBitVec_and, BitVec.msb_and, show (2147483647 : Int32).toBitVec.msb = false from by decide, Bool.and_false]
  show 0 ≤ (v &&& 2147483647).toBitVec.toInt
  rw [BitVec.toInt_eq_toNat_of_msb h]
  omega
/-- a number below n, out of v -/
def blw (v : Int32) (n : Int) : Int := (v &&& 2147483647).toInt % n
theorem blw_b (v : Int32) (n : Int) (hn : 1 ≤ n ∧ n ≤ 1000) : 0 ≤ blw v n ∧ blw v n < n := ⟨Int.emod_nonneg _ (by omega), Int.emod_lt_of_pos _ (by omega)⟩
set_option maxHeartbeats 4000000 in
theorem m_L_below (l : Launch) (D : va_G) (g : ClassId × ClassId × ClassId) (v : Int32) (n : Int) (hn : 1 ≤ n ∧ n ≤ 1000) : RD l yL_below cL_below 2 (some .int) 0 0 D g [] [.int v, .int (zI n)] (blw v n) := by
  refine z_enter RL (by decide) rfl (Nat.le_of_ble_eq_true rfl) ?_
  intro p e s m args below meth co S hr hlk hK hP ls hl
  have hl : lv_has ls 2 [(0, .int v), (1, .int (zI n))] := hl
  have h1 := and_nn v
  have h2 := I32_of (v &&& 2147483647)
  refine lv_iload_n S.1 S.2.1 dL_below_0 rfl (lv_at hl 0 rfl) ?_
  refine lv_ldc S.1 S.2.1 S.2.2.2.1 (S.2.2.2.2 _ ki_L_7) dL_below_1 ?_
  refine lv_iand S.1 S.2.1 dL_below_3 ?_
  refine lv_iload_n S.1 S.2.1 dL_below_4 rfl (lv_at hl 1 rfl) ?_
  rw [zI_of (v &&& 2147483647)]
  refine z_iremn S (by omega) dL_below_5 ?_
  exact z_ret S hr hlk rfl dL_below_6
/-- the script's cell, or a number in its place -/
def cll (xs : Nat → Int32) (L : Nat) (k : Int) : Int32 := if k < (L : Int) then xs k.toNat else 790386105 * (zI k + zI 3)
/-- the script -/
abbrev XP (D : va_G) (g : ClassId × ClassId × ClassId) (sc L : Nat) (xs : Nat → Int32) : State → Prop := fun U => va_X sc L xs U U.heap ∧ KG D g U
theorem va_X.lt {b L : Nat} {xs : Nat → Int32} {U : State} {H : Heap} (h : va_X b L xs U H) : b < H.size := by
  obtain ⟨scr, h1, -⟩ := h
  exact (Array.getElem?_eq_some_iff.mp h1).1
set_option maxHeartbeats 4000000 in
theorem m_L_cell (l : Launch) (D : va_G) (g : ClassId × ClassId × ClassId) (sc L : Nat) (xs : Nat → Int32) (hL : L ≤ 260) (k : Int) (hk : 0 ≤ k ∧ k ≤ 1000) : Met l yL_cell (WS yL_cell cL_cell 2 (some .int)) { frames := 0, cells := 0, slots := 0, locals := 0 } (va_Pc [.ref sc, .int (zI k)] (XP D g sc L xs)) (vp_Si (fun v => v = cll xs L k)) 0 0 (fun _ => False) := by
  refine Met.ofW (cc := cL_cell) (maxL := 2) (ret := some .int) (by decide) rfl ?_
  intro p e s m args below meth co s₁ B hml hv
  obtain ⟨rfl, hX, hK⟩ := hv
  have hts := atoms_spec (ws := WS yL_cell cL_cell 2 (some .int)) B.pre
  have hown : s.vm.findClass RL = some m.cls := findClass_of_methodNamed B.named
  rw [lg_entry_eq]
  have S : CallFix p m co cL_cell 2 s _ AW RL := ⟨B.exec, B.bytes, hml, hown, fun w h => hts w (List.mem_cons_of_mem _ h)⟩
  have hl := lv_entry [.ref sc, .int (zI k)] (Nat.le_of_ble_eq_true rfl : (lg_sl [Value.ref sc, .int (zI k)]).length ≤ 2)
  revert hl
  generalize (lg_sl [Value.ref sc, .int (zI k)] ++ List.replicate (2 - (lg_sl [Value.ref sc, .int (zI k)]).length) Slot.unset).toArray = ls
  intro hl
  have hl : lv_has ls 2 [(0, .ref sc), (1, .int (zI k))] := hl
  have hS : va_S (fun _ => False) s.heap s.heap [] := va_S.rf
  refine lv_iload_n S.1 S.2.1 dL_cell_0 rfl (lv_at hl 1 rfl) ?_
  refine lv_aload_n S.1 S.2.1 dL_cell_1 rfl (lv_at hl 0 rfl) ?_
  refine va_slen S.1 S.2.1 hX hX.lt (fun h => h) hS dL_cell_2 ?_
  rw [show Int32.ofNat L = zI (L : Int) from zI_nI L]
  refine z_icmp_ge (tgt := 12) S dL_cell_3 (by decide) (by omega) (fun h => ?_) (fun h => ?_)
  · refine lv_ldc S.1 S.2.1 S.2.2.2.1 (S.2.2.2.2 _ ki_L_8) dL_cell_12 ?_
    refine lv_iload_n S.1 S.2.1 dL_cell_14 rfl (lv_at hl 1 rfl) ?_
    refine z_iconst S dL_cell_15 ?_
    refine lv_iadd S.1 S.2.1 dL_cell_16 ?_
    refine lv_imul S.1 S.2.1 dL_cell_17 ?_
    exact W.iret S.1 S.2.1 B.returns (fun t ht _ => ⟨_, rfl, (if_neg (by omega)).symm, ht⟩) (fun q h => absurd h List.not_mem_nil) dL_cell_18 B.notSynchronized
  · refine lv_aload_n S.1 S.2.1 dL_cell_6 rfl (lv_at hl 0 rfl) ?_
    refine lv_iload_n S.1 S.2.1 dL_cell_7 rfl (lv_at hl 1 rfl) ?_
    refine va_sld S.1 S.2.1 hX hX.lt (fun h => h) hS (zI_in (n := L) (by omega) (by omega)) dL_cell_8 ?_
    refine z_goto (tgt := 18) S dL_cell_9 (by decide) ?_
    have hc := zI_clamp (z := k) (by omega)
    exact W.iret S.1 S.2.1 B.returns (fun t ht _ => ⟨_, rfl, by show _ = cll xs L k; rw [cll, if_pos h, show (zI k).toNatClampNeg = k.toNat by omega], ht⟩) (fun q h => absurd h List.not_mem_nil) dL_cell_18 B.notSynchronized
set_option maxHeartbeats 4000000 in
set_option maxRecDepth 100000 in
theorem m_X5_vein (l : Launch) (D : va_G) (g : ClassId × ClassId × ClassId) (b : Nat → Nat) (t : SS) (hT : IT t) (x y tx ty dp fl : Int) (h0 : inF x y ∧ inF tx ty) : MSv l yX5_vein cX5_vein 8 1 2 68 23 D g b t [.ref (b 0), .int (zI x), .int (zI y), .int (zI tx), .int (zI ty), .int (zI dp), .int (zI fl)] (sAdd t 0 (vrow x y tx ty dp fl)) := by
  intro sz hB
  refine v_enter RX5 (by decide) rfl (Nat.le_of_ble_eq_true rfl) ?_
  intro p e s m args below meth co S hr hlk hz hK hP ls hl
  obtain ⟨A, hAe⟩ : ∃ A, A = va_A (SW g b t) sz := ⟨_, rfl⟩
  rw [← hAe] at hB ⊢
  have hA : ∀ q, s.heap.size ≤ q → A q := by rw [hAe]; intro q h; exact Or.inr (by omega)
  have hS : va_S A s.heap s.heap [] := va_S.rf
  have hD := hB.D g
  have hs := hT.s
  have hl : lv_has ls 8 [(0, .ref (b 0)), (1, .int (zI x)), (2, .int (zI y)), (3, .int (zI tx)), (4, .int (zI ty)), (5, .int (zI dp)), (6, .int (zI fl))] := hl
  have hb1 := ab_le (x := x - tx) (n := 19) (by omega)
  have hb2 := ab_le (x := y - ty) (n := 19) (by omega)
  refine lv_iload_n S.1 S.2.1 dX5_vein_0 rfl (lv_at hl 1 rfl) ?_
  refine lv_iload_n S.1 S.2.1 dX5_vein_1 rfl (lv_at hl 3 rfl) ?_
  refine z_isub S dX5_vein_2 ?_
  refine z_abs S ml_X5_28 hl.1 (Nat.le_of_ble_eq_true rfl) (Nat.le_of_ble_eq_true rfl) ⟨Nat.le_of_ble_eq_true rfl, Nat.le_of_ble_eq_true rfl⟩ (by omega) dX5_vein_3 ?_
  refine lv_iload_n S.1 S.2.1 dX5_vein_6 rfl (lv_at hl 2 rfl) ?_
  refine lv_iload S.1 S.2.1 dX5_vein_7 (lv_at hl 4 rfl) ?_
  refine z_isub S dX5_vein_9 ?_
  refine z_abs S ml_X5_28 hl.1 (Nat.le_of_ble_eq_true rfl) (Nat.le_of_ble_eq_true rfl) ⟨Nat.le_of_ble_eq_true rfl, Nat.le_of_ble_eq_true rfl⟩ (by omega) dX5_vein_10 ?_
  refine z_max S ml_X5_42 hl.1 (Nat.le_of_ble_eq_true rfl) (Nat.le_of_ble_eq_true rfl) ⟨Nat.le_of_ble_eq_true rfl, Nat.le_of_ble_eq_true rfl⟩ (by omega) dX5_vein_13 ?_
  refine lv_istore (lv' := [(7, .int (zI (max (ab (x - tx)) (ab (y - ty))))), (0, .ref (b 0)), (1, .int (zI x)), (2, .int (zI y)), (3, .int (zI tx)), (4, .int (zI ty)), (5, .int (zI dp)), (6, .int (zI fl))]) S.1 S.2.1 dX5_vein_16 hl (by decide) rfl (fun ls hl => ?_)
  refine lv_aload_n S.1 S.2.1 dX5_vein_18 rfl (lv_at hl 1 rfl) ?_
  refine lv_aload_n S.1 S.2.1 dX5_vein_19 rfl (lv_at hl 1 rfl) ?_
  refine z_get (v := .ref (b 1)) S inA5 hK hP 0 rfl rfl 2 (by decide) fl_X5_15 rfl dX5_vein_20 ?_
  refine z_bipush S (by decide) dX5_vein_23 ?_
  refine y_newi S hK hP hD hS (fun q9 h9 => hA q9 (Nat.le_trans hS.1 h9)) 7 (by decide) (Nat.le_of_ble_eq_true rfl) (Nat.le_of_ble_eq_true rfl) dX5_vein_25 (fun q25 H hq9 hk9 hP hD hS => ?_)
  have hP : va_P D vwCl ([(q25, .inl (g.1, 7, .inl (zA (fun _ => 0))))] ++ SW g b t) H := hP
  have hD : va_D A ([(q25, .inl (g.1, 7, .inl (zA (fun _ => 0))))] ++ SW g b t) := hD
  refine lv_dup S.1 S.2.1 dX5_vein_27 rfl ?_
  refine z_iconst S dX5_vein_28 ?_
  refine lv_iload_n S.1 S.2.1 dX5_vein_29 rfl (lv_at hl 2 rfl) ?_
  refine y_iast (F := fun _ => 0) S hK hP hD hS 0 rfl (by decide) (by omega) dX5_vein_30 (fun H locs hP hD hS => ?_)
  have hP : va_P D vwCl ([(q25, .inl (g.1, 7, .inl (zA (upZ (fun _ => 0) 0 x))))] ++ SW g b t) H := hP
  have hD : va_D A ([(q25, .inl (g.1, 7, .inl (zA (upZ (fun _ => 0) 0 x))))] ++ SW g b t) := hD
  refine lv_dup S.1 S.2.1 dX5_vein_31 rfl ?_
  refine z_iconst S dX5_vein_32 ?_
  refine lv_iload_n S.1 S.2.1 dX5_vein_33 rfl (lv_at hl 3 rfl) ?_
  refine y_iast (F := upZ (fun _ => 0) 0 x) S hK hP hD hS 0 rfl (by decide) (by omega) dX5_vein_34 (fun H locs hP hD hS => ?_)
  have hP : va_P D vwCl ([(q25, .inl (g.1, 7, .inl (zA (upZ (upZ (fun _ => 0) 0 x) 1 y))))] ++ SW g b t) H := hP
  have hD : va_D A ([(q25, .inl (g.1, 7, .inl (zA (upZ (upZ (fun _ => 0) 0 x) 1 y))))] ++ SW g b t) := hD
  refine lv_dup S.1 S.2.1 dX5_vein_35 rfl ?_
  refine z_iconst S dX5_vein_36 ?_
  refine lv_iload_n S.1 S.2.1 dX5_vein_37 rfl (lv_at hl 4 rfl) ?_
  refine lv_iload_n S.1 S.2.1 dX5_vein_38 rfl (lv_at hl 2 rfl) ?_
  refine z_isub S dX5_vein_39 ?_
  refine z_rS (As := [.int (zI (tx - x))]) (rest := [.int (zI 2), .ref q25, .ref q25, .ref (b 1), .ref (b 0)]) S (m_J6_signum_0f7a4 l D g (tx - x) (by omega)) ml_X5_45 sm_J6_signum_0f7a4 ini_J6 cd_J6_signum_0f7a4 ds_J6_signum_0f7a4 ⟨Nat.le_of_ble_eq_true rfl, Nat.le_of_ble_eq_true rfl⟩ hK va_P_nil rfl hl.1 rfl (Nat.le_of_ble_eq_true rfl) ⟨Nat.le_of_ble_eq_true rfl, Nat.le_of_ble_eq_true rfl⟩ dX5_vein_40 ?_
  refine y_iast (F := upZ (upZ (fun _ => 0) 0 x) 1 y) S hK hP hD hS 0 rfl (by decide) (by omega) dX5_vein_43 (fun H locs hP hD hS => ?_)
  have hP : va_P D vwCl ([(q25, .inl (g.1, 7, .inl (zA (upZ (upZ (upZ (fun _ => 0) 0 x) 1 y) 2 (sgn (tx - x))))))] ++ SW g b t) H := hP
  have hD : va_D A ([(q25, .inl (g.1, 7, .inl (zA (upZ (upZ (upZ (fun _ => 0) 0 x) 1 y) 2 (sgn (tx - x))))))] ++ SW g b t) := hD
  refine lv_dup S.1 S.2.1 dX5_vein_44 rfl ?_
  refine z_iconst S dX5_vein_45 ?_
  refine lv_iload S.1 S.2.1 dX5_vein_46 (lv_at hl 5 rfl) ?_
  refine lv_iload_n S.1 S.2.1 dX5_vein_48 rfl (lv_at hl 3 rfl) ?_
  refine z_isub S dX5_vein_49 ?_
  refine z_rS (As := [.int (zI (ty - y))]) (rest := [.int (zI 3), .ref q25, .ref q25, .ref (b 1), .ref (b 0)]) S (m_J6_signum_0f7a4 l D g (ty - y) (by omega)) ml_X5_45 sm_J6_signum_0f7a4 ini_J6 cd_J6_signum_0f7a4 ds_J6_signum_0f7a4 ⟨Nat.le_of_ble_eq_true rfl, Nat.le_of_ble_eq_true rfl⟩ hK va_P_nil rfl hl.1 rfl (Nat.le_of_ble_eq_true rfl) ⟨Nat.le_of_ble_eq_true rfl, Nat.le_of_ble_eq_true rfl⟩ dX5_vein_50 ?_
  refine y_iast (F := upZ (upZ (upZ (fun _ => 0) 0 x) 1 y) 2 (sgn (tx - x))) S hK hP hD hS 0 rfl (by decide) (by omega) dX5_vein_53 (fun H locs hP hD hS => ?_)
  have hP : va_P D vwCl ([(q25, .inl (g.1, 7, .inl (zA (upZ (upZ (upZ (upZ (fun _ => 0) 0 x) 1 y) 2 (sgn (tx - x))) 3 (sgn (ty - y))))))] ++ SW g b t) H := hP
  have hD : va_D A ([(q25, .inl (g.1, 7, .inl (zA (upZ (upZ (upZ (upZ (fun _ => 0) 0 x) 1 y) 2 (sgn (tx - x))) 3 (sgn (ty - y))))))] ++ SW g b t) := hD
  refine lv_dup S.1 S.2.1 dX5_vein_54 rfl ?_
  refine z_iconst S dX5_vein_55 ?_
  refine lv_iload S.1 S.2.1 dX5_vein_56 (lv_at hl 0 rfl) ?_
  refine y_iast (F := upZ (upZ (upZ (upZ (fun _ => 0) 0 x) 1 y) 2 (sgn (tx - x))) 3 (sgn (ty - y))) S hK hP hD hS 0 rfl (by decide) (by omega) dX5_vein_58 (fun H locs hP hD hS => ?_)
  have hP : va_P D vwCl ([(q25, .inl (g.1, 7, .inl (zA (upZ (upZ (upZ (upZ (upZ (fun _ => 0) 0 x) 1 y) 2 (sgn (tx - x))) 3 (sgn (ty - y))) 4 (max (ab (x - tx)) (ab (y - ty)))))))] ++ SW g b t) H := hP
  have hD : va_D A ([(q25, .inl (g.1, 7, .inl (zA (upZ (upZ (upZ (upZ (upZ (fun _ => 0) 0 x) 1 y) 2 (sgn (tx - x))) 3 (sgn (ty - y))) 4 (max (ab (x - tx)) (ab (y - ty)))))))] ++ SW g b t) := hD
  refine lv_dup S.1 S.2.1 dX5_vein_59 rfl ?_
  refine z_iconst S dX5_vein_60 ?_
  refine lv_iload S.1 S.2.1 dX5_vein_61 (lv_at hl 6 rfl) ?_
  refine y_iast (F := upZ (upZ (upZ (upZ (upZ (fun _ => 0) 0 x) 1 y) 2 (sgn (tx - x))) 3 (sgn (ty - y))) 4 (max (ab (x - tx)) (ab (y - ty)))) S hK hP hD hS 0 rfl (by decide) (by omega) dX5_vein_63 (fun H locs hP hD hS => ?_)
  have hP : va_P D vwCl ([(q25, .inl (g.1, 7, .inl (zA (upZ (upZ (upZ (upZ (upZ (upZ (fun _ => 0) 0 x) 1 y) 2 (sgn (tx - x))) 3 (sgn (ty - y))) 4 (max (ab (x - tx)) (ab (y - ty)))) 5 dp))))] ++ SW g b t) H := hP
  have hD : va_D A ([(q25, .inl (g.1, 7, .inl (zA (upZ (upZ (upZ (upZ (upZ (upZ (fun _ => 0) 0 x) 1 y) 2 (sgn (tx - x))) 3 (sgn (ty - y))) 4 (max (ab (x - tx)) (ab (y - ty)))) 5 dp))))] ++ SW g b t) := hD
  refine lv_dup S.1 S.2.1 dX5_vein_64 rfl ?_
  refine z_bipush S (by decide) dX5_vein_65 ?_
  refine lv_iload S.1 S.2.1 dX5_vein_67 (lv_at hl 7 rfl) ?_
  refine y_iast (F := upZ (upZ (upZ (upZ (upZ (upZ (fun _ => 0) 0 x) 1 y) 2 (sgn (tx - x))) 3 (sgn (ty - y))) 4 (max (ab (x - tx)) (ab (y - ty)))) 5 dp) S hK hP hD hS 0 rfl (by decide) (by omega) dX5_vein_69 (fun H locs hP hD hS => ?_)
  have hP : va_P D vwCl ([(q25, .inl (g.1, 7, .inl (zA (upZ (upZ (upZ (upZ (upZ (upZ (upZ (fun _ => 0) 0 x) 1 y) 2 (sgn (tx - x))) 3 (sgn (ty - y))) 4 (max (ab (x - tx)) (ab (y - ty)))) 5 dp) 6 fl))))] ++ SW g b t) H := hP
  have hD : va_D A ([(q25, .inl (g.1, 7, .inl (zA (upZ (upZ (upZ (upZ (upZ (upZ (upZ (fun _ => 0) 0 x) 1 y) 2 (sgn (tx - x))) 3 (sgn (ty - y))) 4 (max (ab (x - tx)) (ab (y - ty)))) 5 dp) 6 fl))))] ++ SW g b t) := hD
  refine y_addrow (rest := []) 0 (by decide) (PRE := []) (G := upZ (upZ (upZ (upZ (upZ (upZ (upZ (fun _ => 0) 0 x) 1 y) 2 (sgn (tx - x))) 3 (sgn (ty - y))) 4 (max (ab (x - tx)) (ab (y - ty)))) 5 dp) 6 fl) S hK hP hD hB hS (fun q9 h9 => hA q9 (Nat.le_trans hS.1 h9)) (by show 0 ≤ t.1 2 ∧ t.1 2 ≤ 60; omega) ml_X5_50 fl_X5_15 ⟨Nat.le_of_ble_eq_true rfl, Nat.le_of_ble_eq_true rfl⟩ hl.1 (Nat.le_of_ble_eq_true rfl) ⟨(Nat.le_of_ble_eq_true rfl), (Nat.le_of_ble_eq_true rfl)⟩ dX5_vein_70 dX5_vein_73 (fun o70 H locs hP hD hB hS => ?_)
  have hP : va_P D vwCl (SW g (bAdd b t 0 o70 q25) (sAdd t 0 (upZ (upZ (upZ (upZ (upZ (upZ (upZ (fun _ => 0) 0 x) 1 y) 2 (sgn (tx - x))) 3 (sgn (ty - y))) 4 (max (ab (x - tx)) (ab (y - ty)))) 5 dp) 6 fl))) H := hP
  have hD : va_D A (SW g (bAdd b t 0 o70 q25) (sAdd t 0 (upZ (upZ (upZ (upZ (upZ (upZ (upZ (fun _ => 0) 0 x) 1 y) 2 (sgn (tx - x))) 3 (sgn (ty - y))) 4 (max (ab (x - tx)) (ab (y - ty)))) 5 dp) 6 fl))) := hD
  have hB : SB A (bAdd b t 0 o70 q25) (sAdd t 0 (upZ (upZ (upZ (upZ (upZ (upZ (upZ (fun _ => 0) 0 x) 1 y) 2 (sgn (tx - x))) 3 (sgn (ty - y))) 4 (max (ab (x - tx)) (ab (y - ty)))) 5 dp) 6 fl)) := hB
  exact y_vret S hr hlk (bAdd_0 _ _ _ _ _) hP hB hS dX5_vein_76
set_option maxHeartbeats 4000000 in
set_option maxRecDepth 100000 in
theorem m_X5_walk (l : Launch) (D : va_G) (g : ClassId × ClassId × ClassId) (b : Nat → Nat) (t : SS) (hT : IT t) (d x y tx ty : Int) (hd : 0 ≤ d ∧ d < t.1 3) (h0 : inF x y ∧ inF tx ty) : MSi l yX5_walk cX5_walk 9 4 78 2496 97 D g b t [.ref (b 0), .int (zI d), .int (zI x), .int (zI y), .int (zI tx), .int (zI ty)] (skW t d x y tx ty) ((skW t d x y tx ty).1 4 - t.1 4) := by
  intro sz hB
  refine v_enter RX5 (by decide) rfl (Nat.le_of_ble_eq_true rfl) ?_
  intro p e s m args below meth co S hr hlk hz hK hP ls hl
  obtain ⟨A, hAe⟩ : ∃ A, A = va_A (SW g b t) sz := ⟨_, rfl⟩
  rw [← hAe] at hB ⊢
  have hA : ∀ q, s.heap.size ≤ q → A q := by rw [hAe]; intro q h; exact Or.inr (by omega)
  have hS : va_S A s.heap s.heap [] := va_S.rf
  have hD := hB.D g
  have hs := hT.s
  have hl : lv_has ls 9 [(0, .ref (b 0)), (1, .int (zI d)), (2, .int (zI x)), (3, .int (zI y)), (4, .int (zI tx)), (5, .int (zI ty))] := hl
  have hb1 := ab_le (x := tx - x) (n := 19) (by omega)
  have hb2 := ab_le (x := ty - y) (n := 19) (by omega)
  obtain ⟨M, hM⟩ : ∃ M, M = skN x y tx ty := ⟨_, rfl⟩
  have hM2 : (M : Int) = ab (tx - x) + ab (ty - y) := by rw [hM]; unfold skN; omega
  refine lv_aload_n S.1 S.2.1 dX5_walk_0 rfl (lv_at hl 0 rfl) ?_
  refine z_get (v := .ref (b 3)) S inA5 hK hP 0 rfl rfl 4 (by decide) fl_X5_22 rfl dX5_walk_1 ?_
  refine y_alen S hK hP 3 rfl (v := t.1 4) (by show (((t.1 4).toNat : Nat) : Int) = _; omega) dX5_walk_4 ?_
  refine lv_istore (lv' := [(6, .int (zI (t.1 4))), (0, .ref (b 0)), (1, .int (zI d)), (2, .int (zI x)), (3, .int (zI y)), (4, .int (zI tx)), (5, .int (zI ty))]) S.1 S.2.1 dX5_walk_5 hl (by decide) rfl (fun ls hl => ?_)
  refine lv_iload_n S.1 S.2.1 dX5_walk_7 rfl (lv_at hl 3 rfl) ?_
  refine lv_istore (lv' := [(7, .int (zI x)), (6, .int (zI (t.1 4))), (0, .ref (b 0)), (1, .int (zI d)), (2, .int (zI x)), (3, .int (zI y)), (4, .int (zI tx)), (5, .int (zI ty))]) S.1 S.2.1 dX5_walk_8 hl (by decide) rfl (fun ls hl => ?_)
  refine lv_iload_n S.1 S.2.1 dX5_walk_10 rfl (lv_at hl 5 rfl) ?_
  refine lv_istore (lv' := [(8, .int (zI y)), (7, .int (zI x)), (6, .int (zI (t.1 4))), (0, .ref (b 0)), (1, .int (zI d)), (2, .int (zI x)), (3, .int (zI y)), (4, .int (zI tx)), (5, .int (zI ty))]) S.1 S.2.1 dX5_walk_11 hl (by decide) rfl (fun ls hl => ?_)
  refine y_for (σ := Nat → Nat) (D := D) (A := A) (nL := 9) (H0 := s.heap) M (fun (u : Nat → Nat) => s) (fun (k13 : Nat) (u : Nat → Nat) => [(8, .int (zI (pY x tx y ty (k13 : Int)))), (7, .int (zI (pX x tx (k13 : Int)))), (6, .int (zI (t.1 4))), (0, .ref (u 0)), (1, .int (zI d)), (2, .int (zI x)), (3, .int (zI y)), (4, .int (zI tx)), (5, .int (zI ty))]) (fun (k13 : Nat) (u : Nat → Nat) => SW g u (skC t d x y tx ty k13)) (fun (k13 : Nat) => 2 * k13) (fun (k13 : Nat) => 64 * k13) (fun (k13 : Nat) (u : Nat → Nat) => u 0 = b 0 ∧ SB A u (skC t d x y tx ty k13)) (fun k13 hk13 u hJ13 H locs hP hD hS ls hl ih13 => ?_) (fun u hJ13 H locs hP hD hS ls hl => ?_) 0 (by omega) b (⟨rfl, hB⟩) _ _ hP hD hS ls (lv_sub hl [0, 1, 2, 3, 4, 5, 6, 7, 8] (by show _ = [(8, Value.int (zI (pY x tx y ty ((0 : Nat) : Int)))), (7, .int (zI (pX x tx ((0 : Nat) : Int)))), (6, .int (zI (t.1 4))), (0, .ref (b 0)), (1, .int (zI d)), (2, .int (zI x)), (3, .int (zI y)), (4, .int (zI tx)), (5, .int (zI ty))]; rw [show pX x tx ((0 : Nat) : Int) = x by (unfold pX; rw [if_pos (by omega)]; omega), show pY x tx y ty ((0 : Nat) : Int) = y by (unfold pY; rw [if_pos (by omega)])]; first | done | rfl))
  · have hl : lv_has ls 9 [(8, .int (zI (pY x tx y ty (k13 : Int)))), (7, .int (zI (pX x tx (k13 : Int)))), (6, .int (zI (t.1 4))), (0, .ref (u 0)), (1, .int (zI d)), (2, .int (zI x)), (3, .int (zI y)), (4, .int (zI tx)), (5, .int (zI ty))] := hl
    have hP : va_P D vwCl (SW g u (skC t d x y tx ty k13)) H := hP
    have hD : va_D A (SW g u (skC t d x y tx ty k13)) := hD
    have hJ13 : u 0 = b 0 ∧ SB A u (skC t d x y tx ty k13) := hJ13
    obtain ⟨hu0, hB⟩ := hJ13
    have hb3 := pth h0 (k13 : Int) (by omega)
    have hc := skC_c t d x y tx ty k13
    have hIk := skC_IT hT hd h0 k13 (by omega)
    have hsk := hIk.s
    have hpa := sPA_b hIk (pX x tx (k13 : Int)) (pY x tx y ty (k13 : Int))
    have hro := sRs_b hIk (d := d) (by rw [hc.2.2.2.1]; exact hd) (pX x tx (k13 : Int)) (pY x tx y ty (k13 : Int))
    have hro2 : sRod (skC t d x y tx ty k13) d (pX x tx (k13 : Int)) (pY x tx y ty (k13 : Int)) = if sRs (skC t d x y tx ty k13) d (pX x tx (k13 : Int)) (pY x tx y ty (k13 : Int)) < 0 then 0 else sRs (skC t d x y tx ty k13) d (pX x tx (k13 : Int)) (pY x tx y ty (k13 : Int)) := rfl
    have hb4 := hb3.1
    refine lv_aload_n S.1 S.2.1 dX5_walk_13 rfl (lv_at hl 3 rfl) ?_
    refine z_get (v := .ref (u 3)) S inA5 hK hP 0 rfl rfl 4 (by decide) fl_X5_22 rfl dX5_walk_14 ?_
    refine y_alen S hK hP 3 rfl (v := (skC t d x y tx ty k13).1 4) (by show ((((skC t d x y tx ty k13).1 4).toNat : Nat) : Int) = _; omega) dX5_walk_17 ?_
    refine z_bipush S (by decide) dX5_walk_18 ?_
    refine z_icmp_ge (tgt := 78) S dX5_walk_20 (by decide) (by omega) (fun h_1 => ?_) (fun h_1 => ?_)
    · refine lv_iload S.1 S.2.1 dX5_walk_78 (lv_at hl 1 rfl) ?_
      refine lv_iload S.1 S.2.1 dX5_walk_80 (lv_at hl 7 rfl) ?_
      refine z_icmp_eq (tgt := 105) S dX5_walk_82 (by decide) (by omega) (fun h_2 => ?_) (fun h_2 => ?_)
      · refine lv_iload S.1 S.2.1 dX5_walk_105 (lv_at hl 0 rfl) ?_
        refine lv_iload S.1 S.2.1 dX5_walk_107 (lv_at hl 8 rfl) ?_
        refine z_icmp_eq (tgt := 132) S dX5_walk_109 (by decide) (by omega) (fun h_3 => ?_) (fun h_3 => ?_)
        · exact absurd h_3 (by omega)
        · refine lv_iload S.1 S.2.1 dX5_walk_112 (lv_at hl 0 rfl) ?_
          refine lv_iload S.1 S.2.1 dX5_walk_114 (lv_at hl 0 rfl) ?_
          refine lv_iload S.1 S.2.1 dX5_walk_116 (lv_at hl 8 rfl) ?_
          refine z_icmp_ge (tgt := 125) S dX5_walk_118 (by decide) (by omega) (fun h_4 => ?_) (fun h_4 => ?_)
          · refine z_iconst S dX5_walk_125 ?_
            refine z_iadd S dX5_walk_126 ?_
            refine lv_istore (lv' := [(8, .int (zI ((pY x tx y ty (k13 : Int)) + (-1)))), (7, .int (zI (pX x tx (k13 : Int)))), (6, .int (zI (t.1 4))), (0, .ref (u 0)), (1, .int (zI d)), (2, .int (zI x)), (3, .int (zI y)), (4, .int (zI tx)), (5, .int (zI ty))]) S.1 S.2.1 dX5_walk_127 hl (by decide) rfl (fun ls hl => ?_)
            refine z_goto (tgt := 13) S dX5_walk_129 (by decide) ?_
            have hTk : (skC t d x y tx ty k13) = skC t d x y tx ty (k13 + 1) := by (show _ = skM _ _ _ _; first | (rw [skM, if_neg (by omega)]; done) | (rw [skM, if_pos (by omega)]; rfl))
            have hB : SB A u (skC t d x y tx ty (k13 + 1)) := hTk ▸ hB
            have e_5 : pY x tx y ty ((k13 + 1 : Nat) : Int) = (pY x tx y ty (k13 : Int)) + (-1) := by (show pY x tx y ty ((k13 : Int) + 1) = _; omega)
            have e_6 : pX x tx ((k13 + 1 : Nat) : Int) = pX x tx (k13 : Int) := by (show pX x tx ((k13 : Int) + 1) = _; omega)
            have e_7 : u 0 = u 0 := by first | rfl | exact bAdd_0 _ _ _ _ _
            have hw : SW g u (skC t d x y tx ty k13) = SW g u (skC t d x y tx ty (k13 + 1)) := by rw [hTk]
            rw [hw] at hP hD
            refine W.widen (k := 2 * (k13 + 1)) (n := 64 * (k13 + 1)) (by omega) (by omega) ?_
            exact ih13 u (⟨by first | exact hu0 | exact (bAdd_0 _ _ _ _ _).trans hu0, hB⟩) _ _ hP hD hS _ (lv_sub hl [0, 1, 2, 3, 4, 5, 6, 7, 8] (by show _ = ([(8, .int (zI (pY x tx y ty ((k13 + 1 : Nat) : Int)))), (7, .int (zI (pX x tx ((k13 + 1 : Nat) : Int)))), (6, .int (zI (t.1 4))), (0, .ref (u 0)), (1, .int (zI d)), (2, .int (zI x)), (3, .int (zI y)), (4, .int (zI tx)), (5, .int (zI ty))] : List (Nat × Value)); rw [e_5, e_6, e_7]; first | done | rfl))
          · refine z_iconst S dX5_walk_121 ?_
            refine z_goto (tgt := 126) S dX5_walk_122 (by decide) ?_
            refine z_iadd S dX5_walk_126 ?_
            refine lv_istore (lv' := [(8, .int (zI ((pY x tx y ty (k13 : Int)) + 1))), (7, .int (zI (pX x tx (k13 : Int)))), (6, .int (zI (t.1 4))), (0, .ref (u 0)), (1, .int (zI d)), (2, .int (zI x)), (3, .int (zI y)), (4, .int (zI tx)), (5, .int (zI ty))]) S.1 S.2.1 dX5_walk_127 hl (by decide) rfl (fun ls hl => ?_)
            refine z_goto (tgt := 13) S dX5_walk_129 (by decide) ?_
            have hTk : (skC t d x y tx ty k13) = skC t d x y tx ty (k13 + 1) := by (show _ = skM _ _ _ _; first | (rw [skM, if_neg (by omega)]; done) | (rw [skM, if_pos (by omega)]; rfl))
            have hB : SB A u (skC t d x y tx ty (k13 + 1)) := hTk ▸ hB
            have e_8 : pY x tx y ty ((k13 + 1 : Nat) : Int) = (pY x tx y ty (k13 : Int)) + 1 := by (show pY x tx y ty ((k13 : Int) + 1) = _; omega)
            have e_9 : pX x tx ((k13 + 1 : Nat) : Int) = pX x tx (k13 : Int) := by (show pX x tx ((k13 : Int) + 1) = _; omega)
            have e_10 : u 0 = u 0 := by first | rfl | exact bAdd_0 _ _ _ _ _
            have hw : SW g u (skC t d x y tx ty k13) = SW g u (skC t d x y tx ty (k13 + 1)) := by rw [hTk]
            rw [hw] at hP hD
            refine W.widen (k := 2 * (k13 + 1)) (n := 64 * (k13 + 1)) (by omega) (by omega) ?_
            exact ih13 u (⟨by first | exact hu0 | exact (bAdd_0 _ _ _ _ _).trans hu0, hB⟩) _ _ hP hD hS _ (lv_sub hl [0, 1, 2, 3, 4, 5, 6, 7, 8] (by show _ = ([(8, .int (zI (pY x tx y ty ((k13 + 1 : Nat) : Int)))), (7, .int (zI (pX x tx ((k13 + 1 : Nat) : Int)))), (6, .int (zI (t.1 4))), (0, .ref (u 0)), (1, .int (zI d)), (2, .int (zI x)), (3, .int (zI y)), (4, .int (zI tx)), (5, .int (zI ty))] : List (Nat × Value)); rw [e_8, e_9, e_10]; first | done | rfl))
      · refine lv_iload S.1 S.2.1 dX5_walk_85 (lv_at hl 1 rfl) ?_
        refine lv_iload S.1 S.2.1 dX5_walk_87 (lv_at hl 1 rfl) ?_
        refine lv_iload S.1 S.2.1 dX5_walk_89 (lv_at hl 7 rfl) ?_
        refine z_icmp_ge (tgt := 98) S dX5_walk_91 (by decide) (by omega) (fun h_11 => ?_) (fun h_11 => ?_)
        · refine z_iconst S dX5_walk_98 ?_
          refine z_iadd S dX5_walk_99 ?_
          refine lv_istore (lv' := [(7, .int (zI ((pX x tx (k13 : Int)) + (-1)))), (8, .int (zI (pY x tx y ty (k13 : Int)))), (6, .int (zI (t.1 4))), (0, .ref (u 0)), (1, .int (zI d)), (2, .int (zI x)), (3, .int (zI y)), (4, .int (zI tx)), (5, .int (zI ty))]) S.1 S.2.1 dX5_walk_100 hl (by decide) rfl (fun ls hl => ?_)
          refine z_goto (tgt := 13) S dX5_walk_102 (by decide) ?_
          have hTk : (skC t d x y tx ty k13) = skC t d x y tx ty (k13 + 1) := by (show _ = skM _ _ _ _; first | (rw [skM, if_neg (by omega)]; done) | (rw [skM, if_pos (by omega)]; rfl))
          have hB : SB A u (skC t d x y tx ty (k13 + 1)) := hTk ▸ hB
          have e_12 : pY x tx y ty ((k13 + 1 : Nat) : Int) = pY x tx y ty (k13 : Int) := by (show pY x tx y ty ((k13 : Int) + 1) = _; omega)
          have e_13 : pX x tx ((k13 + 1 : Nat) : Int) = (pX x tx (k13 : Int)) + (-1) := by (show pX x tx ((k13 : Int) + 1) = _; omega)
          have e_14 : u 0 = u 0 := by first | rfl | exact bAdd_0 _ _ _ _ _
          have hw : SW g u (skC t d x y tx ty k13) = SW g u (skC t d x y tx ty (k13 + 1)) := by rw [hTk]
          rw [hw] at hP hD
          refine W.widen (k := 2 * (k13 + 1)) (n := 64 * (k13 + 1)) (by omega) (by omega) ?_
          exact ih13 u (⟨by first | exact hu0 | exact (bAdd_0 _ _ _ _ _).trans hu0, hB⟩) _ _ hP hD hS _ (lv_sub hl [1, 0, 2, 3, 4, 5, 6, 7, 8] (by show _ = ([(8, .int (zI (pY x tx y ty ((k13 + 1 : Nat) : Int)))), (7, .int (zI (pX x tx ((k13 + 1 : Nat) : Int)))), (6, .int (zI (t.1 4))), (0, .ref (u 0)), (1, .int (zI d)), (2, .int (zI x)), (3, .int (zI y)), (4, .int (zI tx)), (5, .int (zI ty))] : List (Nat × Value)); rw [e_12, e_13, e_14]; first | done | rfl))
        · refine z_iconst S dX5_walk_94 ?_
          refine z_goto (tgt := 99) S dX5_walk_95 (by decide) ?_
          refine z_iadd S dX5_walk_99 ?_
          refine lv_istore (lv' := [(7, .int (zI ((pX x tx (k13 : Int)) + 1))), (8, .int (zI (pY x tx y ty (k13 : Int)))), (6, .int (zI (t.1 4))), (0, .ref (u 0)), (1, .int (zI d)), (2, .int (zI x)), (3, .int (zI y)), (4, .int (zI tx)), (5, .int (zI ty))]) S.1 S.2.1 dX5_walk_100 hl (by decide) rfl (fun ls hl => ?_)
          refine z_goto (tgt := 13) S dX5_walk_102 (by decide) ?_
          have hTk : (skC t d x y tx ty k13) = skC t d x y tx ty (k13 + 1) := by (show _ = skM _ _ _ _; first | (rw [skM, if_neg (by omega)]; done) | (rw [skM, if_pos (by omega)]; rfl))
          have hB : SB A u (skC t d x y tx ty (k13 + 1)) := hTk ▸ hB
          have e_15 : pY x tx y ty ((k13 + 1 : Nat) : Int) = pY x tx y ty (k13 : Int) := by (show pY x tx y ty ((k13 : Int) + 1) = _; omega)
          have e_16 : pX x tx ((k13 + 1 : Nat) : Int) = (pX x tx (k13 : Int)) + 1 := by (show pX x tx ((k13 : Int) + 1) = _; omega)
          have e_17 : u 0 = u 0 := by first | rfl | exact bAdd_0 _ _ _ _ _
          have hw : SW g u (skC t d x y tx ty k13) = SW g u (skC t d x y tx ty (k13 + 1)) := by rw [hTk]
          rw [hw] at hP hD
          refine W.widen (k := 2 * (k13 + 1)) (n := 64 * (k13 + 1)) (by omega) (by omega) ?_
          exact ih13 u (⟨by first | exact hu0 | exact (bAdd_0 _ _ _ _ _).trans hu0, hB⟩) _ _ hP hD hS _ (lv_sub hl [1, 0, 2, 3, 4, 5, 6, 7, 8] (by show _ = ([(8, .int (zI (pY x tx y ty ((k13 + 1 : Nat) : Int)))), (7, .int (zI (pX x tx ((k13 + 1 : Nat) : Int)))), (6, .int (zI (t.1 4))), (0, .ref (u 0)), (1, .int (zI d)), (2, .int (zI x)), (3, .int (zI y)), (4, .int (zI tx)), (5, .int (zI ty))] : List (Nat × Value)); rw [e_15, e_16, e_17]; first | done | rfl))
    · refine lv_aload_n S.1 S.2.1 dX5_walk_23 rfl (lv_at hl 3 rfl) ?_
      refine lv_iload S.1 S.2.1 dX5_walk_24 (lv_at hl 1 rfl) ?_
      refine lv_iload S.1 S.2.1 dX5_walk_26 (lv_at hl 0 rfl) ?_
      refine z_rV (As := [.int (zI (pX x tx (k13 : Int))), .int (zI (pY x tx y ty (k13 : Int)))]) (rest := []) S (m_X5_pegAt l D g u (skC t d x y tx ty k13) (skC_IT hT hd h0 k13 (by omega)) (pX x tx (k13 : Int)) (pY x tx y ty (k13 : Int)) (by omega)) ml_X5_57 im_X5_pegAt se_X5_pegAt ini_X5 cd_X5_pegAt ds_X5_pegAt ⟨Nat.le_of_ble_eq_true rfl, Nat.le_of_ble_eq_true rfl⟩ hK hP (va_recv hK.1 hP (ci := 5) (q0 := 0) rfl rfl) rfl hl.1 rfl (Nat.le_of_ble_eq_true rfl) ⟨by show 2 * k13 ≤ 78; omega, by show 64 * k13 ≤ 2496; omega⟩ dX5_walk_28 ?_
      refine z_if_ge (tgt := 78) S dX5_walk_31 (by decide) (by omega) (fun h_18 => ?_) (fun h_18 => ?_)
      · refine lv_iload S.1 S.2.1 dX5_walk_78 (lv_at hl 1 rfl) ?_
        refine lv_iload S.1 S.2.1 dX5_walk_80 (lv_at hl 7 rfl) ?_
        refine z_icmp_eq (tgt := 105) S dX5_walk_82 (by decide) (by omega) (fun h_19 => ?_) (fun h_19 => ?_)
        · refine lv_iload S.1 S.2.1 dX5_walk_105 (lv_at hl 0 rfl) ?_
          refine lv_iload S.1 S.2.1 dX5_walk_107 (lv_at hl 8 rfl) ?_
          refine z_icmp_eq (tgt := 132) S dX5_walk_109 (by decide) (by omega) (fun h_20 => ?_) (fun h_20 => ?_)
          · exact absurd h_20 (by omega)
          · refine lv_iload S.1 S.2.1 dX5_walk_112 (lv_at hl 0 rfl) ?_
            refine lv_iload S.1 S.2.1 dX5_walk_114 (lv_at hl 0 rfl) ?_
            refine lv_iload S.1 S.2.1 dX5_walk_116 (lv_at hl 8 rfl) ?_
            refine z_icmp_ge (tgt := 125) S dX5_walk_118 (by decide) (by omega) (fun h_21 => ?_) (fun h_21 => ?_)
            · refine z_iconst S dX5_walk_125 ?_
              refine z_iadd S dX5_walk_126 ?_
              refine lv_istore (lv' := [(8, .int (zI ((pY x tx y ty (k13 : Int)) + (-1)))), (7, .int (zI (pX x tx (k13 : Int)))), (6, .int (zI (t.1 4))), (0, .ref (u 0)), (1, .int (zI d)), (2, .int (zI x)), (3, .int (zI y)), (4, .int (zI tx)), (5, .int (zI ty))]) S.1 S.2.1 dX5_walk_127 hl (by decide) rfl (fun ls hl => ?_)
              refine z_goto (tgt := 13) S dX5_walk_129 (by decide) ?_
              have hTk : (skC t d x y tx ty k13) = skC t d x y tx ty (k13 + 1) := by (show _ = skM _ _ _ _; first | (rw [skM, if_neg (by omega)]; done) | (rw [skM, if_pos (by omega)]; rfl))
              have hB : SB A u (skC t d x y tx ty (k13 + 1)) := hTk ▸ hB
              have e_22 : pY x tx y ty ((k13 + 1 : Nat) : Int) = (pY x tx y ty (k13 : Int)) + (-1) := by (show pY x tx y ty ((k13 : Int) + 1) = _; omega)
              have e_23 : pX x tx ((k13 + 1 : Nat) : Int) = pX x tx (k13 : Int) := by (show pX x tx ((k13 : Int) + 1) = _; omega)
              have e_24 : u 0 = u 0 := by first | rfl | exact bAdd_0 _ _ _ _ _
              have hw : SW g u (skC t d x y tx ty k13) = SW g u (skC t d x y tx ty (k13 + 1)) := by rw [hTk]
              rw [hw] at hP hD
              refine W.widen (k := 2 * (k13 + 1)) (n := 64 * (k13 + 1)) (by omega) (by omega) ?_
              exact ih13 u (⟨by first | exact hu0 | exact (bAdd_0 _ _ _ _ _).trans hu0, hB⟩) _ _ hP hD hS _ (lv_sub hl [0, 1, 2, 3, 4, 5, 6, 7, 8] (by show _ = ([(8, .int (zI (pY x tx y ty ((k13 + 1 : Nat) : Int)))), (7, .int (zI (pX x tx ((k13 + 1 : Nat) : Int)))), (6, .int (zI (t.1 4))), (0, .ref (u 0)), (1, .int (zI d)), (2, .int (zI x)), (3, .int (zI y)), (4, .int (zI tx)), (5, .int (zI ty))] : List (Nat × Value)); rw [e_22, e_23, e_24]; first | done | rfl))
            · refine z_iconst S dX5_walk_121 ?_
              refine z_goto (tgt := 126) S dX5_walk_122 (by decide) ?_
              refine z_iadd S dX5_walk_126 ?_
              refine lv_istore (lv' := [(8, .int (zI ((pY x tx y ty (k13 : Int)) + 1))), (7, .int (zI (pX x tx (k13 : Int)))), (6, .int (zI (t.1 4))), (0, .ref (u 0)), (1, .int (zI d)), (2, .int (zI x)), (3, .int (zI y)), (4, .int (zI tx)), (5, .int (zI ty))]) S.1 S.2.1 dX5_walk_127 hl (by decide) rfl (fun ls hl => ?_)
              refine z_goto (tgt := 13) S dX5_walk_129 (by decide) ?_
              have hTk : (skC t d x y tx ty k13) = skC t d x y tx ty (k13 + 1) := by (show _ = skM _ _ _ _; first | (rw [skM, if_neg (by omega)]; done) | (rw [skM, if_pos (by omega)]; rfl))
              have hB : SB A u (skC t d x y tx ty (k13 + 1)) := hTk ▸ hB
              have e_25 : pY x tx y ty ((k13 + 1 : Nat) : Int) = (pY x tx y ty (k13 : Int)) + 1 := by (show pY x tx y ty ((k13 : Int) + 1) = _; omega)
              have e_26 : pX x tx ((k13 + 1 : Nat) : Int) = pX x tx (k13 : Int) := by (show pX x tx ((k13 : Int) + 1) = _; omega)
              have e_27 : u 0 = u 0 := by first | rfl | exact bAdd_0 _ _ _ _ _
              have hw : SW g u (skC t d x y tx ty k13) = SW g u (skC t d x y tx ty (k13 + 1)) := by rw [hTk]
              rw [hw] at hP hD
              refine W.widen (k := 2 * (k13 + 1)) (n := 64 * (k13 + 1)) (by omega) (by omega) ?_
              exact ih13 u (⟨by first | exact hu0 | exact (bAdd_0 _ _ _ _ _).trans hu0, hB⟩) _ _ hP hD hS _ (lv_sub hl [0, 1, 2, 3, 4, 5, 6, 7, 8] (by show _ = ([(8, .int (zI (pY x tx y ty ((k13 + 1 : Nat) : Int)))), (7, .int (zI (pX x tx ((k13 + 1 : Nat) : Int)))), (6, .int (zI (t.1 4))), (0, .ref (u 0)), (1, .int (zI d)), (2, .int (zI x)), (3, .int (zI y)), (4, .int (zI tx)), (5, .int (zI ty))] : List (Nat × Value)); rw [e_25, e_26, e_27]; first | done | rfl))
        · refine lv_iload S.1 S.2.1 dX5_walk_85 (lv_at hl 1 rfl) ?_
          refine lv_iload S.1 S.2.1 dX5_walk_87 (lv_at hl 1 rfl) ?_
          refine lv_iload S.1 S.2.1 dX5_walk_89 (lv_at hl 7 rfl) ?_
          refine z_icmp_ge (tgt := 98) S dX5_walk_91 (by decide) (by omega) (fun h_28 => ?_) (fun h_28 => ?_)
          · refine z_iconst S dX5_walk_98 ?_
            refine z_iadd S dX5_walk_99 ?_
            refine lv_istore (lv' := [(7, .int (zI ((pX x tx (k13 : Int)) + (-1)))), (8, .int (zI (pY x tx y ty (k13 : Int)))), (6, .int (zI (t.1 4))), (0, .ref (u 0)), (1, .int (zI d)), (2, .int (zI x)), (3, .int (zI y)), (4, .int (zI tx)), (5, .int (zI ty))]) S.1 S.2.1 dX5_walk_100 hl (by decide) rfl (fun ls hl => ?_)
            refine z_goto (tgt := 13) S dX5_walk_102 (by decide) ?_
            have hTk : (skC t d x y tx ty k13) = skC t d x y tx ty (k13 + 1) := by (show _ = skM _ _ _ _; first | (rw [skM, if_neg (by omega)]; done) | (rw [skM, if_pos (by omega)]; rfl))
            have hB : SB A u (skC t d x y tx ty (k13 + 1)) := hTk ▸ hB
            have e_29 : pY x tx y ty ((k13 + 1 : Nat) : Int) = pY x tx y ty (k13 : Int) := by (show pY x tx y ty ((k13 : Int) + 1) = _; omega)
            have e_30 : pX x tx ((k13 + 1 : Nat) : Int) = (pX x tx (k13 : Int)) + (-1) := by (show pX x tx ((k13 : Int) + 1) = _; omega)
            have e_31 : u 0 = u 0 := by first | rfl | exact bAdd_0 _ _ _ _ _
            have hw : SW g u (skC t d x y tx ty k13) = SW g u (skC t d x y tx ty (k13 + 1)) := by rw [hTk]
            rw [hw] at hP hD
            refine W.widen (k := 2 * (k13 + 1)) (n := 64 * (k13 + 1)) (by omega) (by omega) ?_
            exact ih13 u (⟨by first | exact hu0 | exact (bAdd_0 _ _ _ _ _).trans hu0, hB⟩) _ _ hP hD hS _ (lv_sub hl [1, 0, 2, 3, 4, 5, 6, 7, 8] (by show _ = ([(8, .int (zI (pY x tx y ty ((k13 + 1 : Nat) : Int)))), (7, .int (zI (pX x tx ((k13 + 1 : Nat) : Int)))), (6, .int (zI (t.1 4))), (0, .ref (u 0)), (1, .int (zI d)), (2, .int (zI x)), (3, .int (zI y)), (4, .int (zI tx)), (5, .int (zI ty))] : List (Nat × Value)); rw [e_29, e_30, e_31]; first | done | rfl))
          · refine z_iconst S dX5_walk_94 ?_
            refine z_goto (tgt := 99) S dX5_walk_95 (by decide) ?_
            refine z_iadd S dX5_walk_99 ?_
            refine lv_istore (lv' := [(7, .int (zI ((pX x tx (k13 : Int)) + 1))), (8, .int (zI (pY x tx y ty (k13 : Int)))), (6, .int (zI (t.1 4))), (0, .ref (u 0)), (1, .int (zI d)), (2, .int (zI x)), (3, .int (zI y)), (4, .int (zI tx)), (5, .int (zI ty))]) S.1 S.2.1 dX5_walk_100 hl (by decide) rfl (fun ls hl => ?_)
            refine z_goto (tgt := 13) S dX5_walk_102 (by decide) ?_
            have hTk : (skC t d x y tx ty k13) = skC t d x y tx ty (k13 + 1) := by (show _ = skM _ _ _ _; first | (rw [skM, if_neg (by omega)]; done) | (rw [skM, if_pos (by omega)]; rfl))
            have hB : SB A u (skC t d x y tx ty (k13 + 1)) := hTk ▸ hB
            have e_32 : pY x tx y ty ((k13 + 1 : Nat) : Int) = pY x tx y ty (k13 : Int) := by (show pY x tx y ty ((k13 : Int) + 1) = _; omega)
            have e_33 : pX x tx ((k13 + 1 : Nat) : Int) = (pX x tx (k13 : Int)) + 1 := by (show pX x tx ((k13 : Int) + 1) = _; omega)
            have e_34 : u 0 = u 0 := by first | rfl | exact bAdd_0 _ _ _ _ _
            have hw : SW g u (skC t d x y tx ty k13) = SW g u (skC t d x y tx ty (k13 + 1)) := by rw [hTk]
            rw [hw] at hP hD
            refine W.widen (k := 2 * (k13 + 1)) (n := 64 * (k13 + 1)) (by omega) (by omega) ?_
            exact ih13 u (⟨by first | exact hu0 | exact (bAdd_0 _ _ _ _ _).trans hu0, hB⟩) _ _ hP hD hS _ (lv_sub hl [1, 0, 2, 3, 4, 5, 6, 7, 8] (by show _ = ([(8, .int (zI (pY x tx y ty ((k13 + 1 : Nat) : Int)))), (7, .int (zI (pX x tx ((k13 + 1 : Nat) : Int)))), (6, .int (zI (t.1 4))), (0, .ref (u 0)), (1, .int (zI d)), (2, .int (zI x)), (3, .int (zI y)), (4, .int (zI tx)), (5, .int (zI ty))] : List (Nat × Value)); rw [e_32, e_33, e_34]; first | done | rfl))
      · refine lv_aload_n S.1 S.2.1 dX5_walk_34 rfl (lv_at hl 3 rfl) ?_
        refine lv_iload_n S.1 S.2.1 dX5_walk_35 rfl (lv_at hl 4 rfl) ?_
        refine lv_iload S.1 S.2.1 dX5_walk_36 (lv_at hl 1 rfl) ?_
        refine lv_iload S.1 S.2.1 dX5_walk_38 (lv_at hl 0 rfl) ?_
        refine z_rV (As := [.int (zI d), .int (zI (pX x tx (k13 : Int))), .int (zI (pY x tx y ty (k13 : Int)))]) (rest := []) S (m_X5_rod l D g u (skC t d x y tx ty k13) (skC_IT hT hd h0 k13 (by omega)) d (pX x tx (k13 : Int)) (pY x tx y ty (k13 : Int)) (by omega) (by omega)) ml_X5_60 im_X5_rod se_X5_rod ini_X5 cd_X5_rod ds_X5_rod ⟨Nat.le_of_ble_eq_true rfl, Nat.le_of_ble_eq_true rfl⟩ hK hP (va_recv hK.1 hP (ci := 5) (q0 := 0) rfl rfl) rfl hl.1 rfl (Nat.le_of_ble_eq_true rfl) ⟨by show 2 * k13 ≤ 78; omega, by show 64 * k13 ≤ 2496; omega⟩ dX5_walk_40 ?_
        refine lv_aload_n S.1 S.2.1 dX5_walk_43 rfl (lv_at hl 3 rfl) ?_
        refine z_get (v := .int (zI ((skC t d x y tx ty k13).1 0))) S inA5 hK hP 0 rfl rfl 0 (by decide) fl_X5_7 rfl dX5_walk_44 ?_
        refine z_icmp_lt (tgt := 78) S dX5_walk_47 (by decide) (by omega) (fun h_35 => ?_) (fun h_35 => ?_)
        · refine lv_iload S.1 S.2.1 dX5_walk_78 (lv_at hl 1 rfl) ?_
          refine lv_iload S.1 S.2.1 dX5_walk_80 (lv_at hl 7 rfl) ?_
          refine z_icmp_eq (tgt := 105) S dX5_walk_82 (by decide) (by omega) (fun h_36 => ?_) (fun h_36 => ?_)
          · refine lv_iload S.1 S.2.1 dX5_walk_105 (lv_at hl 0 rfl) ?_
            refine lv_iload S.1 S.2.1 dX5_walk_107 (lv_at hl 8 rfl) ?_
            refine z_icmp_eq (tgt := 132) S dX5_walk_109 (by decide) (by omega) (fun h_37 => ?_) (fun h_37 => ?_)
            · exact absurd h_37 (by omega)
            · refine lv_iload S.1 S.2.1 dX5_walk_112 (lv_at hl 0 rfl) ?_
              refine lv_iload S.1 S.2.1 dX5_walk_114 (lv_at hl 0 rfl) ?_
              refine lv_iload S.1 S.2.1 dX5_walk_116 (lv_at hl 8 rfl) ?_
              refine z_icmp_ge (tgt := 125) S dX5_walk_118 (by decide) (by omega) (fun h_38 => ?_) (fun h_38 => ?_)
              · refine z_iconst S dX5_walk_125 ?_
                refine z_iadd S dX5_walk_126 ?_
                refine lv_istore (lv' := [(8, .int (zI ((pY x tx y ty (k13 : Int)) + (-1)))), (7, .int (zI (pX x tx (k13 : Int)))), (6, .int (zI (t.1 4))), (0, .ref (u 0)), (1, .int (zI d)), (2, .int (zI x)), (3, .int (zI y)), (4, .int (zI tx)), (5, .int (zI ty))]) S.1 S.2.1 dX5_walk_127 hl (by decide) rfl (fun ls hl => ?_)
                refine z_goto (tgt := 13) S dX5_walk_129 (by decide) ?_
                have hTk : (skC t d x y tx ty k13) = skC t d x y tx ty (k13 + 1) := by (show _ = skM _ _ _ _; first | (rw [skM, if_neg (by omega)]; done) | (rw [skM, if_pos (by omega)]; rfl))
                have hB : SB A u (skC t d x y tx ty (k13 + 1)) := hTk ▸ hB
                have e_39 : pY x tx y ty ((k13 + 1 : Nat) : Int) = (pY x tx y ty (k13 : Int)) + (-1) := by (show pY x tx y ty ((k13 : Int) + 1) = _; omega)
                have e_40 : pX x tx ((k13 + 1 : Nat) : Int) = pX x tx (k13 : Int) := by (show pX x tx ((k13 : Int) + 1) = _; omega)
                have e_41 : u 0 = u 0 := by first | rfl | exact bAdd_0 _ _ _ _ _
                have hw : SW g u (skC t d x y tx ty k13) = SW g u (skC t d x y tx ty (k13 + 1)) := by rw [hTk]
                rw [hw] at hP hD
                refine W.widen (k := 2 * (k13 + 1)) (n := 64 * (k13 + 1)) (by omega) (by omega) ?_
                exact ih13 u (⟨by first | exact hu0 | exact (bAdd_0 _ _ _ _ _).trans hu0, hB⟩) _ _ hP hD hS _ (lv_sub hl [0, 1, 2, 3, 4, 5, 6, 7, 8] (by show _ = ([(8, .int (zI (pY x tx y ty ((k13 + 1 : Nat) : Int)))), (7, .int (zI (pX x tx ((k13 + 1 : Nat) : Int)))), (6, .int (zI (t.1 4))), (0, .ref (u 0)), (1, .int (zI d)), (2, .int (zI x)), (3, .int (zI y)), (4, .int (zI tx)), (5, .int (zI ty))] : List (Nat × Value)); rw [e_39, e_40, e_41]; first | done | rfl))
              · refine z_iconst S dX5_walk_121 ?_
                refine z_goto (tgt := 126) S dX5_walk_122 (by decide) ?_
                refine z_iadd S dX5_walk_126 ?_
                refine lv_istore (lv' := [(8, .int (zI ((pY x tx y ty (k13 : Int)) + 1))), (7, .int (zI (pX x tx (k13 : Int)))), (6, .int (zI (t.1 4))), (0, .ref (u 0)), (1, .int (zI d)), (2, .int (zI x)), (3, .int (zI y)), (4, .int (zI tx)), (5, .int (zI ty))]) S.1 S.2.1 dX5_walk_127 hl (by decide) rfl (fun ls hl => ?_)
                refine z_goto (tgt := 13) S dX5_walk_129 (by decide) ?_
                have hTk : (skC t d x y tx ty k13) = skC t d x y tx ty (k13 + 1) := by (show _ = skM _ _ _ _; first | (rw [skM, if_neg (by omega)]; done) | (rw [skM, if_pos (by omega)]; rfl))
                have hB : SB A u (skC t d x y tx ty (k13 + 1)) := hTk ▸ hB
                have e_42 : pY x tx y ty ((k13 + 1 : Nat) : Int) = (pY x tx y ty (k13 : Int)) + 1 := by (show pY x tx y ty ((k13 : Int) + 1) = _; omega)
                have e_43 : pX x tx ((k13 + 1 : Nat) : Int) = pX x tx (k13 : Int) := by (show pX x tx ((k13 : Int) + 1) = _; omega)
                have e_44 : u 0 = u 0 := by first | rfl | exact bAdd_0 _ _ _ _ _
                have hw : SW g u (skC t d x y tx ty k13) = SW g u (skC t d x y tx ty (k13 + 1)) := by rw [hTk]
                rw [hw] at hP hD
                refine W.widen (k := 2 * (k13 + 1)) (n := 64 * (k13 + 1)) (by omega) (by omega) ?_
                exact ih13 u (⟨by first | exact hu0 | exact (bAdd_0 _ _ _ _ _).trans hu0, hB⟩) _ _ hP hD hS _ (lv_sub hl [0, 1, 2, 3, 4, 5, 6, 7, 8] (by show _ = ([(8, .int (zI (pY x tx y ty ((k13 + 1 : Nat) : Int)))), (7, .int (zI (pX x tx ((k13 + 1 : Nat) : Int)))), (6, .int (zI (t.1 4))), (0, .ref (u 0)), (1, .int (zI d)), (2, .int (zI x)), (3, .int (zI y)), (4, .int (zI tx)), (5, .int (zI ty))] : List (Nat × Value)); rw [e_42, e_43, e_44]; first | done | rfl))
          · refine lv_iload S.1 S.2.1 dX5_walk_85 (lv_at hl 1 rfl) ?_
            refine lv_iload S.1 S.2.1 dX5_walk_87 (lv_at hl 1 rfl) ?_
            refine lv_iload S.1 S.2.1 dX5_walk_89 (lv_at hl 7 rfl) ?_
            refine z_icmp_ge (tgt := 98) S dX5_walk_91 (by decide) (by omega) (fun h_45 => ?_) (fun h_45 => ?_)
            · refine z_iconst S dX5_walk_98 ?_
              refine z_iadd S dX5_walk_99 ?_
              refine lv_istore (lv' := [(7, .int (zI ((pX x tx (k13 : Int)) + (-1)))), (8, .int (zI (pY x tx y ty (k13 : Int)))), (6, .int (zI (t.1 4))), (0, .ref (u 0)), (1, .int (zI d)), (2, .int (zI x)), (3, .int (zI y)), (4, .int (zI tx)), (5, .int (zI ty))]) S.1 S.2.1 dX5_walk_100 hl (by decide) rfl (fun ls hl => ?_)
              refine z_goto (tgt := 13) S dX5_walk_102 (by decide) ?_
              have hTk : (skC t d x y tx ty k13) = skC t d x y tx ty (k13 + 1) := by (show _ = skM _ _ _ _; first | (rw [skM, if_neg (by omega)]; done) | (rw [skM, if_pos (by omega)]; rfl))
              have hB : SB A u (skC t d x y tx ty (k13 + 1)) := hTk ▸ hB
              have e_46 : pY x tx y ty ((k13 + 1 : Nat) : Int) = pY x tx y ty (k13 : Int) := by (show pY x tx y ty ((k13 : Int) + 1) = _; omega)
              have e_47 : pX x tx ((k13 + 1 : Nat) : Int) = (pX x tx (k13 : Int)) + (-1) := by (show pX x tx ((k13 : Int) + 1) = _; omega)
              have e_48 : u 0 = u 0 := by first | rfl | exact bAdd_0 _ _ _ _ _
              have hw : SW g u (skC t d x y tx ty k13) = SW g u (skC t d x y tx ty (k13 + 1)) := by rw [hTk]
              rw [hw] at hP hD
              refine W.widen (k := 2 * (k13 + 1)) (n := 64 * (k13 + 1)) (by omega) (by omega) ?_
              exact ih13 u (⟨by first | exact hu0 | exact (bAdd_0 _ _ _ _ _).trans hu0, hB⟩) _ _ hP hD hS _ (lv_sub hl [1, 0, 2, 3, 4, 5, 6, 7, 8] (by show _ = ([(8, .int (zI (pY x tx y ty ((k13 + 1 : Nat) : Int)))), (7, .int (zI (pX x tx ((k13 + 1 : Nat) : Int)))), (6, .int (zI (t.1 4))), (0, .ref (u 0)), (1, .int (zI d)), (2, .int (zI x)), (3, .int (zI y)), (4, .int (zI tx)), (5, .int (zI ty))] : List (Nat × Value)); rw [e_46, e_47, e_48]; first | done | rfl))
            · refine z_iconst S dX5_walk_94 ?_
              refine z_goto (tgt := 99) S dX5_walk_95 (by decide) ?_
              refine z_iadd S dX5_walk_99 ?_
              refine lv_istore (lv' := [(7, .int (zI ((pX x tx (k13 : Int)) + 1))), (8, .int (zI (pY x tx y ty (k13 : Int)))), (6, .int (zI (t.1 4))), (0, .ref (u 0)), (1, .int (zI d)), (2, .int (zI x)), (3, .int (zI y)), (4, .int (zI tx)), (5, .int (zI ty))]) S.1 S.2.1 dX5_walk_100 hl (by decide) rfl (fun ls hl => ?_)
              refine z_goto (tgt := 13) S dX5_walk_102 (by decide) ?_
              have hTk : (skC t d x y tx ty k13) = skC t d x y tx ty (k13 + 1) := by (show _ = skM _ _ _ _; first | (rw [skM, if_neg (by omega)]; done) | (rw [skM, if_pos (by omega)]; rfl))
              have hB : SB A u (skC t d x y tx ty (k13 + 1)) := hTk ▸ hB
              have e_49 : pY x tx y ty ((k13 + 1 : Nat) : Int) = pY x tx y ty (k13 : Int) := by (show pY x tx y ty ((k13 : Int) + 1) = _; omega)
              have e_50 : pX x tx ((k13 + 1 : Nat) : Int) = (pX x tx (k13 : Int)) + 1 := by (show pX x tx ((k13 : Int) + 1) = _; omega)
              have e_51 : u 0 = u 0 := by first | rfl | exact bAdd_0 _ _ _ _ _
              have hw : SW g u (skC t d x y tx ty k13) = SW g u (skC t d x y tx ty (k13 + 1)) := by rw [hTk]
              rw [hw] at hP hD
              refine W.widen (k := 2 * (k13 + 1)) (n := 64 * (k13 + 1)) (by omega) (by omega) ?_
              exact ih13 u (⟨by first | exact hu0 | exact (bAdd_0 _ _ _ _ _).trans hu0, hB⟩) _ _ hP hD hS _ (lv_sub hl [1, 0, 2, 3, 4, 5, 6, 7, 8] (by show _ = ([(8, .int (zI (pY x tx y ty ((k13 + 1 : Nat) : Int)))), (7, .int (zI (pX x tx ((k13 + 1 : Nat) : Int)))), (6, .int (zI (t.1 4))), (0, .ref (u 0)), (1, .int (zI d)), (2, .int (zI x)), (3, .int (zI y)), (4, .int (zI tx)), (5, .int (zI ty))] : List (Nat × Value)); rw [e_49, e_50, e_51]; first | done | rfl))
        · refine lv_aload_n S.1 S.2.1 dX5_walk_50 rfl (lv_at hl 3 rfl) ?_
          refine lv_aload_n S.1 S.2.1 dX5_walk_51 rfl (lv_at hl 3 rfl) ?_
          refine z_get (v := .ref (u 3)) S inA5 hK hP 0 rfl rfl 4 (by decide) fl_X5_22 rfl dX5_walk_52 ?_
          refine z_iconst S dX5_walk_55 ?_
          refine y_newi S hK hP hD hS (fun q9 h9 => hA q9 (Nat.le_trans hS.1 h9)) 3 (by decide) (by show 2 * k13 + 1 ≤ 78; omega) (by show 64 * k13 + 3 ≤ 2496; omega) dX5_walk_56 (fun q56 H hq9 hk9 hP hD hS => ?_)
          have hP : va_P D vwCl ([(q56, .inl (g.1, 3, .inl (zA (fun _ => 0))))] ++ SW g u (skC t d x y tx ty k13)) H := hP
          have hD : va_D A ([(q56, .inl (g.1, 3, .inl (zA (fun _ => 0))))] ++ SW g u (skC t d x y tx ty k13)) := hD
          refine lv_dup S.1 S.2.1 dX5_walk_58 rfl ?_
          refine z_iconst S dX5_walk_59 ?_
          refine lv_iload S.1 S.2.1 dX5_walk_60 (lv_at hl 1 rfl) ?_
          refine y_iast (F := fun _ => 0) S hK hP hD hS 0 rfl (by decide) (by omega) dX5_walk_62 (fun H locs hP hD hS => ?_)
          have hP : va_P D vwCl ([(q56, .inl (g.1, 3, .inl (zA (upZ (fun _ => 0) 0 (pX x tx (k13 : Int))))))] ++ SW g u (skC t d x y tx ty k13)) H := hP
          have hD : va_D A ([(q56, .inl (g.1, 3, .inl (zA (upZ (fun _ => 0) 0 (pX x tx (k13 : Int))))))] ++ SW g u (skC t d x y tx ty k13)) := hD
          refine lv_dup S.1 S.2.1 dX5_walk_63 rfl ?_
          refine z_iconst S dX5_walk_64 ?_
          refine lv_iload S.1 S.2.1 dX5_walk_65 (lv_at hl 0 rfl) ?_
          refine y_iast (F := upZ (fun _ => 0) 0 (pX x tx (k13 : Int))) S hK hP hD hS 0 rfl (by decide) (by omega) dX5_walk_67 (fun H locs hP hD hS => ?_)
          have hP : va_P D vwCl ([(q56, .inl (g.1, 3, .inl (zA (upZ (upZ (fun _ => 0) 0 (pX x tx (k13 : Int))) 1 (pY x tx y ty (k13 : Int))))))] ++ SW g u (skC t d x y tx ty k13)) H := hP
          have hD : va_D A ([(q56, .inl (g.1, 3, .inl (zA (upZ (upZ (fun _ => 0) 0 (pX x tx (k13 : Int))) 1 (pY x tx y ty (k13 : Int))))))] ++ SW g u (skC t d x y tx ty k13)) := hD
          refine lv_dup S.1 S.2.1 dX5_walk_68 rfl ?_
          refine z_iconst S dX5_walk_69 ?_
          refine lv_iload_n S.1 S.2.1 dX5_walk_70 rfl (lv_at hl 4 rfl) ?_
          refine y_iast (F := upZ (upZ (fun _ => 0) 0 (pX x tx (k13 : Int))) 1 (pY x tx y ty (k13 : Int))) S hK hP hD hS 0 rfl (by decide) (by omega) dX5_walk_71 (fun H locs hP hD hS => ?_)
          have hP : va_P D vwCl ([(q56, .inl (g.1, 3, .inl (zA (upZ (upZ (upZ (fun _ => 0) 0 (pX x tx (k13 : Int))) 1 (pY x tx y ty (k13 : Int))) 2 d))))] ++ SW g u (skC t d x y tx ty k13)) H := hP
          have hD : va_D A ([(q56, .inl (g.1, 3, .inl (zA (upZ (upZ (upZ (fun _ => 0) 0 (pX x tx (k13 : Int))) 1 (pY x tx y ty (k13 : Int))) 2 d))))] ++ SW g u (skC t d x y tx ty k13)) := hD
          refine y_addrow (rest := []) 2 (by decide) (PRE := []) (G := upZ (upZ (upZ (fun _ => 0) 0 (pX x tx (k13 : Int))) 1 (pY x tx y ty (k13 : Int))) 2 d) S hK hP hD hB hS (fun q9 h9 => hA q9 (Nat.le_trans hS.1 h9)) (by show 0 ≤ (skC t d x y tx ty k13).1 4 ∧ (skC t d x y tx ty k13).1 4 ≤ 60; omega) ml_X5_50 fl_X5_22 ⟨Nat.le_of_ble_eq_true rfl, Nat.le_of_ble_eq_true rfl⟩ hl.1 (Nat.le_of_ble_eq_true rfl) ⟨(by show 2 * k13 + 1 + 1 ≤ 78; omega), (by show 64 * k13 + 3 + 61 ≤ 2496; omega)⟩ dX5_walk_72 dX5_walk_75 (fun o72 H locs hP hD hB hS => ?_)
          have hP : va_P D vwCl (SW g (bAdd u (skC t d x y tx ty k13) 2 o72 q56) (sAdd (skC t d x y tx ty k13) 2 (upZ (upZ (upZ (fun _ => 0) 0 (pX x tx (k13 : Int))) 1 (pY x tx y ty (k13 : Int))) 2 d))) H := hP
          have hD : va_D A (SW g (bAdd u (skC t d x y tx ty k13) 2 o72 q56) (sAdd (skC t d x y tx ty k13) 2 (upZ (upZ (upZ (fun _ => 0) 0 (pX x tx (k13 : Int))) 1 (pY x tx y ty (k13 : Int))) 2 d))) := hD
          have hB : SB A (bAdd u (skC t d x y tx ty k13) 2 o72 q56) (sAdd (skC t d x y tx ty k13) 2 (upZ (upZ (upZ (fun _ => 0) 0 (pX x tx (k13 : Int))) 1 (pY x tx y ty (k13 : Int))) 2 d)) := hB
          refine lv_iload S.1 S.2.1 dX5_walk_78 (lv_at hl 1 rfl) ?_
          refine lv_iload S.1 S.2.1 dX5_walk_80 (lv_at hl 7 rfl) ?_
          refine z_icmp_eq (tgt := 105) S dX5_walk_82 (by decide) (by omega) (fun h_52 => ?_) (fun h_52 => ?_)
          · refine lv_iload S.1 S.2.1 dX5_walk_105 (lv_at hl 0 rfl) ?_
            refine lv_iload S.1 S.2.1 dX5_walk_107 (lv_at hl 8 rfl) ?_
            refine z_icmp_eq (tgt := 132) S dX5_walk_109 (by decide) (by omega) (fun h_53 => ?_) (fun h_53 => ?_)
            · exact absurd h_53 (by omega)
            · refine lv_iload S.1 S.2.1 dX5_walk_112 (lv_at hl 0 rfl) ?_
              refine lv_iload S.1 S.2.1 dX5_walk_114 (lv_at hl 0 rfl) ?_
              refine lv_iload S.1 S.2.1 dX5_walk_116 (lv_at hl 8 rfl) ?_
              refine z_icmp_ge (tgt := 125) S dX5_walk_118 (by decide) (by omega) (fun h_54 => ?_) (fun h_54 => ?_)
              · refine z_iconst S dX5_walk_125 ?_
                refine z_iadd S dX5_walk_126 ?_
                refine lv_istore (lv' := [(8, .int (zI ((pY x tx y ty (k13 : Int)) + (-1)))), (7, .int (zI (pX x tx (k13 : Int)))), (6, .int (zI (t.1 4))), (0, .ref (u 0)), (1, .int (zI d)), (2, .int (zI x)), (3, .int (zI y)), (4, .int (zI tx)), (5, .int (zI ty))]) S.1 S.2.1 dX5_walk_127 hl (by decide) rfl (fun ls hl => ?_)
                refine z_goto (tgt := 13) S dX5_walk_129 (by decide) ?_
                have hTk : (sAdd (skC t d x y tx ty k13) 2 (upZ (upZ (upZ (fun _ => 0) 0 (pX x tx (k13 : Int))) 1 (pY x tx y ty (k13 : Int))) 2 d)) = skC t d x y tx ty (k13 + 1) := by (show _ = skM _ _ _ _; first | (rw [skM, if_neg (by omega)]; done) | (rw [skM, if_pos (by omega)]; rfl))
                have hB : SB A (bAdd u (skC t d x y tx ty k13) 2 o72 q56) (skC t d x y tx ty (k13 + 1)) := hTk ▸ hB
                have e_55 : pY x tx y ty ((k13 + 1 : Nat) : Int) = (pY x tx y ty (k13 : Int)) + (-1) := by (show pY x tx y ty ((k13 : Int) + 1) = _; omega)
                have e_56 : pX x tx ((k13 + 1 : Nat) : Int) = pX x tx (k13 : Int) := by (show pX x tx ((k13 : Int) + 1) = _; omega)
                have e_57 : (bAdd u (skC t d x y tx ty k13) 2 o72 q56) 0 = u 0 := by first | rfl | exact bAdd_0 _ _ _ _ _
                have hw : SW g (bAdd u (skC t d x y tx ty k13) 2 o72 q56) (sAdd (skC t d x y tx ty k13) 2 (upZ (upZ (upZ (fun _ => 0) 0 (pX x tx (k13 : Int))) 1 (pY x tx y ty (k13 : Int))) 2 d)) = SW g (bAdd u (skC t d x y tx ty k13) 2 o72 q56) (skC t d x y tx ty (k13 + 1)) := by rw [hTk]
                rw [hw] at hP hD
                refine W.widen (k := 2 * (k13 + 1)) (n := 64 * (k13 + 1)) (by omega) (by omega) ?_
                exact ih13 (bAdd u (skC t d x y tx ty k13) 2 o72 q56) (⟨by first | exact hu0 | exact (bAdd_0 _ _ _ _ _).trans hu0, hB⟩) _ _ hP hD hS _ (lv_sub hl [0, 1, 2, 3, 4, 5, 6, 7, 8] (by show _ = ([(8, .int (zI (pY x tx y ty ((k13 + 1 : Nat) : Int)))), (7, .int (zI (pX x tx ((k13 + 1 : Nat) : Int)))), (6, .int (zI (t.1 4))), (0, .ref ((bAdd u (skC t d x y tx ty k13) 2 o72 q56) 0)), (1, .int (zI d)), (2, .int (zI x)), (3, .int (zI y)), (4, .int (zI tx)), (5, .int (zI ty))] : List (Nat × Value)); rw [e_55, e_56, e_57]; first | done | rfl))
              · refine z_iconst S dX5_walk_121 ?_
                refine z_goto (tgt := 126) S dX5_walk_122 (by decide) ?_
                refine z_iadd S dX5_walk_126 ?_
                refine lv_istore (lv' := [(8, .int (zI ((pY x tx y ty (k13 : Int)) + 1))), (7, .int (zI (pX x tx (k13 : Int)))), (6, .int (zI (t.1 4))), (0, .ref (u 0)), (1, .int (zI d)), (2, .int (zI x)), (3, .int (zI y)), (4, .int (zI tx)), (5, .int (zI ty))]) S.1 S.2.1 dX5_walk_127 hl (by decide) rfl (fun ls hl => ?_)
                refine z_goto (tgt := 13) S dX5_walk_129 (by decide) ?_
                have hTk : (sAdd (skC t d x y tx ty k13) 2 (upZ (upZ (upZ (fun _ => 0) 0 (pX x tx (k13 : Int))) 1 (pY x tx y ty (k13 : Int))) 2 d)) = skC t d x y tx ty (k13 + 1) := by (show _ = skM _ _ _ _; first | (rw [skM, if_neg (by omega)]; done) | (rw [skM, if_pos (by omega)]; rfl))
                have hB : SB A (bAdd u (skC t d x y tx ty k13) 2 o72 q56) (skC t d x y tx ty (k13 + 1)) := hTk ▸ hB
                have e_58 : pY x tx y ty ((k13 + 1 : Nat) : Int) = (pY x tx y ty (k13 : Int)) + 1 := by (show pY x tx y ty ((k13 : Int) + 1) = _; omega)
                have e_59 : pX x tx ((k13 + 1 : Nat) : Int) = pX x tx (k13 : Int) := by (show pX x tx ((k13 : Int) + 1) = _; omega)
                have e_60 : (bAdd u (skC t d x y tx ty k13) 2 o72 q56) 0 = u 0 := by first | rfl | exact bAdd_0 _ _ _ _ _
                have hw : SW g (bAdd u (skC t d x y tx ty k13) 2 o72 q56) (sAdd (skC t d x y tx ty k13) 2 (upZ (upZ (upZ (fun _ => 0) 0 (pX x tx (k13 : Int))) 1 (pY x tx y ty (k13 : Int))) 2 d)) = SW g (bAdd u (skC t d x y tx ty k13) 2 o72 q56) (skC t d x y tx ty (k13 + 1)) := by rw [hTk]
                rw [hw] at hP hD
                refine W.widen (k := 2 * (k13 + 1)) (n := 64 * (k13 + 1)) (by omega) (by omega) ?_
                exact ih13 (bAdd u (skC t d x y tx ty k13) 2 o72 q56) (⟨by first | exact hu0 | exact (bAdd_0 _ _ _ _ _).trans hu0, hB⟩) _ _ hP hD hS _ (lv_sub hl [0, 1, 2, 3, 4, 5, 6, 7, 8] (by show _ = ([(8, .int (zI (pY x tx y ty ((k13 + 1 : Nat) : Int)))), (7, .int (zI (pX x tx ((k13 + 1 : Nat) : Int)))), (6, .int (zI (t.1 4))), (0, .ref ((bAdd u (skC t d x y tx ty k13) 2 o72 q56) 0)), (1, .int (zI d)), (2, .int (zI x)), (3, .int (zI y)), (4, .int (zI tx)), (5, .int (zI ty))] : List (Nat × Value)); rw [e_58, e_59, e_60]; first | done | rfl))
          · refine lv_iload S.1 S.2.1 dX5_walk_85 (lv_at hl 1 rfl) ?_
            refine lv_iload S.1 S.2.1 dX5_walk_87 (lv_at hl 1 rfl) ?_
            refine lv_iload S.1 S.2.1 dX5_walk_89 (lv_at hl 7 rfl) ?_
            refine z_icmp_ge (tgt := 98) S dX5_walk_91 (by decide) (by omega) (fun h_61 => ?_) (fun h_61 => ?_)
            · refine z_iconst S dX5_walk_98 ?_
              refine z_iadd S dX5_walk_99 ?_
              refine lv_istore (lv' := [(7, .int (zI ((pX x tx (k13 : Int)) + (-1)))), (8, .int (zI (pY x tx y ty (k13 : Int)))), (6, .int (zI (t.1 4))), (0, .ref (u 0)), (1, .int (zI d)), (2, .int (zI x)), (3, .int (zI y)), (4, .int (zI tx)), (5, .int (zI ty))]) S.1 S.2.1 dX5_walk_100 hl (by decide) rfl (fun ls hl => ?_)
              refine z_goto (tgt := 13) S dX5_walk_102 (by decide) ?_
              have hTk : (sAdd (skC t d x y tx ty k13) 2 (upZ (upZ (upZ (fun _ => 0) 0 (pX x tx (k13 : Int))) 1 (pY x tx y ty (k13 : Int))) 2 d)) = skC t d x y tx ty (k13 + 1) := by (show _ = skM _ _ _ _; first | (rw [skM, if_neg (by omega)]; done) | (rw [skM, if_pos (by omega)]; rfl))
              have hB : SB A (bAdd u (skC t d x y tx ty k13) 2 o72 q56) (skC t d x y tx ty (k13 + 1)) := hTk ▸ hB
              have e_62 : pY x tx y ty ((k13 + 1 : Nat) : Int) = pY x tx y ty (k13 : Int) := by (show pY x tx y ty ((k13 : Int) + 1) = _; omega)
              have e_63 : pX x tx ((k13 + 1 : Nat) : Int) = (pX x tx (k13 : Int)) + (-1) := by (show pX x tx ((k13 : Int) + 1) = _; omega)
              have e_64 : (bAdd u (skC t d x y tx ty k13) 2 o72 q56) 0 = u 0 := by first | rfl | exact bAdd_0 _ _ _ _ _
              have hw : SW g (bAdd u (skC t d x y tx ty k13) 2 o72 q56) (sAdd (skC t d x y tx ty k13) 2 (upZ (upZ (upZ (fun _ => 0) 0 (pX x tx (k13 : Int))) 1 (pY x tx y ty (k13 : Int))) 2 d)) = SW g (bAdd u (skC t d x y tx ty k13) 2 o72 q56) (skC t d x y tx ty (k13 + 1)) := by rw [hTk]
              rw [hw] at hP hD
              refine W.widen (k := 2 * (k13 + 1)) (n := 64 * (k13 + 1)) (by omega) (by omega) ?_
              exact ih13 (bAdd u (skC t d x y tx ty k13) 2 o72 q56) (⟨by first | exact hu0 | exact (bAdd_0 _ _ _ _ _).trans hu0, hB⟩) _ _ hP hD hS _ (lv_sub hl [1, 0, 2, 3, 4, 5, 6, 7, 8] (by show _ = ([(8, .int (zI (pY x tx y ty ((k13 + 1 : Nat) : Int)))), (7, .int (zI (pX x tx ((k13 + 1 : Nat) : Int)))), (6, .int (zI (t.1 4))), (0, .ref ((bAdd u (skC t d x y tx ty k13) 2 o72 q56) 0)), (1, .int (zI d)), (2, .int (zI x)), (3, .int (zI y)), (4, .int (zI tx)), (5, .int (zI ty))] : List (Nat × Value)); rw [e_62, e_63, e_64]; first | done | rfl))
            · refine z_iconst S dX5_walk_94 ?_
              refine z_goto (tgt := 99) S dX5_walk_95 (by decide) ?_
              refine z_iadd S dX5_walk_99 ?_
              refine lv_istore (lv' := [(7, .int (zI ((pX x tx (k13 : Int)) + 1))), (8, .int (zI (pY x tx y ty (k13 : Int)))), (6, .int (zI (t.1 4))), (0, .ref (u 0)), (1, .int (zI d)), (2, .int (zI x)), (3, .int (zI y)), (4, .int (zI tx)), (5, .int (zI ty))]) S.1 S.2.1 dX5_walk_100 hl (by decide) rfl (fun ls hl => ?_)
              refine z_goto (tgt := 13) S dX5_walk_102 (by decide) ?_
              have hTk : (sAdd (skC t d x y tx ty k13) 2 (upZ (upZ (upZ (fun _ => 0) 0 (pX x tx (k13 : Int))) 1 (pY x tx y ty (k13 : Int))) 2 d)) = skC t d x y tx ty (k13 + 1) := by (show _ = skM _ _ _ _; first | (rw [skM, if_neg (by omega)]; done) | (rw [skM, if_pos (by omega)]; rfl))
              have hB : SB A (bAdd u (skC t d x y tx ty k13) 2 o72 q56) (skC t d x y tx ty (k13 + 1)) := hTk ▸ hB
              have e_65 : pY x tx y ty ((k13 + 1 : Nat) : Int) = pY x tx y ty (k13 : Int) := by (show pY x tx y ty ((k13 : Int) + 1) = _; omega)
              have e_66 : pX x tx ((k13 + 1 : Nat) : Int) = (pX x tx (k13 : Int)) + 1 := by (show pX x tx ((k13 : Int) + 1) = _; omega)
              have e_67 : (bAdd u (skC t d x y tx ty k13) 2 o72 q56) 0 = u 0 := by first | rfl | exact bAdd_0 _ _ _ _ _
              have hw : SW g (bAdd u (skC t d x y tx ty k13) 2 o72 q56) (sAdd (skC t d x y tx ty k13) 2 (upZ (upZ (upZ (fun _ => 0) 0 (pX x tx (k13 : Int))) 1 (pY x tx y ty (k13 : Int))) 2 d)) = SW g (bAdd u (skC t d x y tx ty k13) 2 o72 q56) (skC t d x y tx ty (k13 + 1)) := by rw [hTk]
              rw [hw] at hP hD
              refine W.widen (k := 2 * (k13 + 1)) (n := 64 * (k13 + 1)) (by omega) (by omega) ?_
              exact ih13 (bAdd u (skC t d x y tx ty k13) 2 o72 q56) (⟨by first | exact hu0 | exact (bAdd_0 _ _ _ _ _).trans hu0, hB⟩) _ _ hP hD hS _ (lv_sub hl [1, 0, 2, 3, 4, 5, 6, 7, 8] (by show _ = ([(8, .int (zI (pY x tx y ty ((k13 + 1 : Nat) : Int)))), (7, .int (zI (pX x tx ((k13 + 1 : Nat) : Int)))), (6, .int (zI (t.1 4))), (0, .ref ((bAdd u (skC t d x y tx ty k13) 2 o72 q56) 0)), (1, .int (zI d)), (2, .int (zI x)), (3, .int (zI y)), (4, .int (zI tx)), (5, .int (zI ty))] : List (Nat × Value)); rw [e_65, e_66, e_67]; first | done | rfl))
  · have hl : lv_has ls 9 [(8, .int (zI (pY x tx y ty ((M : Nat) : Int)))), (7, .int (zI (pX x tx ((M : Nat) : Int)))), (6, .int (zI (t.1 4))), (0, .ref (u 0)), (1, .int (zI d)), (2, .int (zI x)), (3, .int (zI y)), (4, .int (zI tx)), (5, .int (zI ty))] := hl
    have hP : va_P D vwCl (SW g u (skC t d x y tx ty M)) H := hP
    have hD : va_D A (SW g u (skC t d x y tx ty M)) := hD
    have hJ13 : u 0 = b 0 ∧ SB A u (skC t d x y tx ty M) := hJ13
    obtain ⟨hu0, hB⟩ := hJ13
    have hb3 := pth h0 ((M : Nat) : Int) (by omega)
    have hc := skC_c t d x y tx ty M
    have hIk := skC_IT hT hd h0 M (by omega)
    have hsk := hIk.s
    have hpa := sPA_b hIk (pX x tx ((M : Nat) : Int)) (pY x tx y ty ((M : Nat) : Int))
    have hro := sRs_b hIk (d := d) (by rw [hc.2.2.2.1]; exact hd) (pX x tx ((M : Nat) : Int)) (pY x tx y ty ((M : Nat) : Int))
    have hro2 : sRod (skC t d x y tx ty M) d (pX x tx ((M : Nat) : Int)) (pY x tx y ty ((M : Nat) : Int)) = if sRs (skC t d x y tx ty M) d (pX x tx ((M : Nat) : Int)) (pY x tx y ty ((M : Nat) : Int)) < 0 then 0 else sRs (skC t d x y tx ty M) d (pX x tx ((M : Nat) : Int)) (pY x tx y ty ((M : Nat) : Int)) := rfl
    have hb4 := hb3.1
    refine lv_aload_n S.1 S.2.1 dX5_walk_13 rfl (lv_at hl 3 rfl) ?_
    refine z_get (v := .ref (u 3)) S inA5 hK hP 0 rfl rfl 4 (by decide) fl_X5_22 rfl dX5_walk_14 ?_
    refine y_alen S hK hP 3 rfl (v := (skC t d x y tx ty M).1 4) (by show ((((skC t d x y tx ty M).1 4).toNat : Nat) : Int) = _; omega) dX5_walk_17 ?_
    refine z_bipush S (by decide) dX5_walk_18 ?_
    refine z_icmp_ge (tgt := 78) S dX5_walk_20 (by decide) (by omega) (fun h_68 => ?_) (fun h_68 => ?_)
    · refine lv_iload S.1 S.2.1 dX5_walk_78 (lv_at hl 1 rfl) ?_
      refine lv_iload S.1 S.2.1 dX5_walk_80 (lv_at hl 7 rfl) ?_
      refine z_icmp_eq (tgt := 105) S dX5_walk_82 (by decide) (by omega) (fun h_69 => ?_) (fun h_69 => ?_)
      · refine lv_iload S.1 S.2.1 dX5_walk_105 (lv_at hl 0 rfl) ?_
        refine lv_iload S.1 S.2.1 dX5_walk_107 (lv_at hl 8 rfl) ?_
        refine z_icmp_eq (tgt := 132) S dX5_walk_109 (by decide) (by omega) (fun h_70 => ?_) (fun h_70 => ?_)
        · refine lv_aload_n S.1 S.2.1 dX5_walk_132 rfl (lv_at hl 3 rfl) ?_
          refine z_get (v := .ref (u 3)) S inA5 hK hP 0 rfl rfl 4 (by decide) fl_X5_22 rfl dX5_walk_133 ?_
          refine y_alen S hK hP 3 rfl (v := (skC t d x y tx ty M).1 4) (by show ((((skC t d x y tx ty M).1 4).toNat : Nat) : Int) = _; omega) dX5_walk_136 ?_
          refine lv_iload S.1 S.2.1 dX5_walk_137 (lv_at hl 2 rfl) ?_
          refine z_isub S dX5_walk_139 ?_
          have hTk : skC t d x y tx ty M = skW t d x y tx ty := by (rw [skW, ← hM]; show _ = skM _ _ _ _; first | (rw [skM, if_neg (by omega)]; done) | (rw [skM, if_pos (by omega)]; rfl))
          rw [hTk] at hP hB
          refine W.widen (k := 78) (n := 2496) (by omega) (by omega) ?_
          exact y_iretS S hr hlk (by rw [← hTk]; first | done | rfl) (by first | exact hu0 | exact (bAdd_0 _ _ _ _ _).trans hu0) hP hB hS dX5_walk_140
        · exact absurd h_70 (by omega)
      · exact absurd h_69 (by omega)
    · refine lv_aload_n S.1 S.2.1 dX5_walk_23 rfl (lv_at hl 3 rfl) ?_
      refine lv_iload S.1 S.2.1 dX5_walk_24 (lv_at hl 1 rfl) ?_
      refine lv_iload S.1 S.2.1 dX5_walk_26 (lv_at hl 0 rfl) ?_
      refine z_rV (As := [.int (zI (pX x tx ((M : Nat) : Int))), .int (zI (pY x tx y ty ((M : Nat) : Int)))]) (rest := []) S (m_X5_pegAt l D g u (skC t d x y tx ty M) (skC_IT hT hd h0 M (by omega)) (pX x tx ((M : Nat) : Int)) (pY x tx y ty ((M : Nat) : Int)) (by omega)) ml_X5_57 im_X5_pegAt se_X5_pegAt ini_X5 cd_X5_pegAt ds_X5_pegAt ⟨Nat.le_of_ble_eq_true rfl, Nat.le_of_ble_eq_true rfl⟩ hK hP (va_recv hK.1 hP (ci := 5) (q0 := 0) rfl rfl) rfl hl.1 rfl (Nat.le_of_ble_eq_true rfl) ⟨by show 2 * M ≤ 78; omega, by show 64 * M ≤ 2496; omega⟩ dX5_walk_28 ?_
      refine z_if_ge (tgt := 78) S dX5_walk_31 (by decide) (by omega) (fun h_71 => ?_) (fun h_71 => ?_)
      · refine lv_iload S.1 S.2.1 dX5_walk_78 (lv_at hl 1 rfl) ?_
        refine lv_iload S.1 S.2.1 dX5_walk_80 (lv_at hl 7 rfl) ?_
        refine z_icmp_eq (tgt := 105) S dX5_walk_82 (by decide) (by omega) (fun h_72 => ?_) (fun h_72 => ?_)
        · refine lv_iload S.1 S.2.1 dX5_walk_105 (lv_at hl 0 rfl) ?_
          refine lv_iload S.1 S.2.1 dX5_walk_107 (lv_at hl 8 rfl) ?_
          refine z_icmp_eq (tgt := 132) S dX5_walk_109 (by decide) (by omega) (fun h_73 => ?_) (fun h_73 => ?_)
          · refine lv_aload_n S.1 S.2.1 dX5_walk_132 rfl (lv_at hl 3 rfl) ?_
            refine z_get (v := .ref (u 3)) S inA5 hK hP 0 rfl rfl 4 (by decide) fl_X5_22 rfl dX5_walk_133 ?_
            refine y_alen S hK hP 3 rfl (v := (skC t d x y tx ty M).1 4) (by show ((((skC t d x y tx ty M).1 4).toNat : Nat) : Int) = _; omega) dX5_walk_136 ?_
            refine lv_iload S.1 S.2.1 dX5_walk_137 (lv_at hl 2 rfl) ?_
            refine z_isub S dX5_walk_139 ?_
            have hTk : skC t d x y tx ty M = skW t d x y tx ty := by (rw [skW, ← hM]; show _ = skM _ _ _ _; first | (rw [skM, if_neg (by omega)]; done) | (rw [skM, if_pos (by omega)]; rfl))
            rw [hTk] at hP hB
            refine W.widen (k := 78) (n := 2496) (by omega) (by omega) ?_
            exact y_iretS S hr hlk (by rw [← hTk]; first | done | rfl) (by first | exact hu0 | exact (bAdd_0 _ _ _ _ _).trans hu0) hP hB hS dX5_walk_140
          · exact absurd h_73 (by omega)
        · exact absurd h_72 (by omega)
      · refine lv_aload_n S.1 S.2.1 dX5_walk_34 rfl (lv_at hl 3 rfl) ?_
        refine lv_iload_n S.1 S.2.1 dX5_walk_35 rfl (lv_at hl 4 rfl) ?_
        refine lv_iload S.1 S.2.1 dX5_walk_36 (lv_at hl 1 rfl) ?_
        refine lv_iload S.1 S.2.1 dX5_walk_38 (lv_at hl 0 rfl) ?_
        refine z_rV (As := [.int (zI d), .int (zI (pX x tx ((M : Nat) : Int))), .int (zI (pY x tx y ty ((M : Nat) : Int)))]) (rest := []) S (m_X5_rod l D g u (skC t d x y tx ty M) (skC_IT hT hd h0 M (by omega)) d (pX x tx ((M : Nat) : Int)) (pY x tx y ty ((M : Nat) : Int)) (by omega) (by omega)) ml_X5_60 im_X5_rod se_X5_rod ini_X5 cd_X5_rod ds_X5_rod ⟨Nat.le_of_ble_eq_true rfl, Nat.le_of_ble_eq_true rfl⟩ hK hP (va_recv hK.1 hP (ci := 5) (q0 := 0) rfl rfl) rfl hl.1 rfl (Nat.le_of_ble_eq_true rfl) ⟨by show 2 * M ≤ 78; omega, by show 64 * M ≤ 2496; omega⟩ dX5_walk_40 ?_
        refine lv_aload_n S.1 S.2.1 dX5_walk_43 rfl (lv_at hl 3 rfl) ?_
        refine z_get (v := .int (zI ((skC t d x y tx ty M).1 0))) S inA5 hK hP 0 rfl rfl 0 (by decide) fl_X5_7 rfl dX5_walk_44 ?_
        refine z_icmp_lt (tgt := 78) S dX5_walk_47 (by decide) (by omega) (fun h_74 => ?_) (fun h_74 => ?_)
        · refine lv_iload S.1 S.2.1 dX5_walk_78 (lv_at hl 1 rfl) ?_
          refine lv_iload S.1 S.2.1 dX5_walk_80 (lv_at hl 7 rfl) ?_
          refine z_icmp_eq (tgt := 105) S dX5_walk_82 (by decide) (by omega) (fun h_75 => ?_) (fun h_75 => ?_)
          · refine lv_iload S.1 S.2.1 dX5_walk_105 (lv_at hl 0 rfl) ?_
            refine lv_iload S.1 S.2.1 dX5_walk_107 (lv_at hl 8 rfl) ?_
            refine z_icmp_eq (tgt := 132) S dX5_walk_109 (by decide) (by omega) (fun h_76 => ?_) (fun h_76 => ?_)
            · refine lv_aload_n S.1 S.2.1 dX5_walk_132 rfl (lv_at hl 3 rfl) ?_
              refine z_get (v := .ref (u 3)) S inA5 hK hP 0 rfl rfl 4 (by decide) fl_X5_22 rfl dX5_walk_133 ?_
              refine y_alen S hK hP 3 rfl (v := (skC t d x y tx ty M).1 4) (by show ((((skC t d x y tx ty M).1 4).toNat : Nat) : Int) = _; omega) dX5_walk_136 ?_
              refine lv_iload S.1 S.2.1 dX5_walk_137 (lv_at hl 2 rfl) ?_
              refine z_isub S dX5_walk_139 ?_
              have hTk : skC t d x y tx ty M = skW t d x y tx ty := by (rw [skW, ← hM]; show _ = skM _ _ _ _; first | (rw [skM, if_neg (by omega)]; done) | (rw [skM, if_pos (by omega)]; rfl))
              rw [hTk] at hP hB
              refine W.widen (k := 78) (n := 2496) (by omega) (by omega) ?_
              exact y_iretS S hr hlk (by rw [← hTk]; first | done | rfl) (by first | exact hu0 | exact (bAdd_0 _ _ _ _ _).trans hu0) hP hB hS dX5_walk_140
            · exact absurd h_76 (by omega)
          · exact absurd h_75 (by omega)
        · refine lv_aload_n S.1 S.2.1 dX5_walk_50 rfl (lv_at hl 3 rfl) ?_
          refine lv_aload_n S.1 S.2.1 dX5_walk_51 rfl (lv_at hl 3 rfl) ?_
          refine z_get (v := .ref (u 3)) S inA5 hK hP 0 rfl rfl 4 (by decide) fl_X5_22 rfl dX5_walk_52 ?_
          refine z_iconst S dX5_walk_55 ?_
          refine y_newi S hK hP hD hS (fun q9 h9 => hA q9 (Nat.le_trans hS.1 h9)) 3 (by decide) (by show 2 * M + 1 ≤ 78; omega) (by show 64 * M + 3 ≤ 2496; omega) dX5_walk_56 (fun q56 H hq9 hk9 hP hD hS => ?_)
          have hP : va_P D vwCl ([(q56, .inl (g.1, 3, .inl (zA (fun _ => 0))))] ++ SW g u (skC t d x y tx ty M)) H := hP
          have hD : va_D A ([(q56, .inl (g.1, 3, .inl (zA (fun _ => 0))))] ++ SW g u (skC t d x y tx ty M)) := hD
          refine lv_dup S.1 S.2.1 dX5_walk_58 rfl ?_
          refine z_iconst S dX5_walk_59 ?_
          refine lv_iload S.1 S.2.1 dX5_walk_60 (lv_at hl 1 rfl) ?_
          refine y_iast (F := fun _ => 0) S hK hP hD hS 0 rfl (by decide) (by omega) dX5_walk_62 (fun H locs hP hD hS => ?_)
          have hP : va_P D vwCl ([(q56, .inl (g.1, 3, .inl (zA (upZ (fun _ => 0) 0 (pX x tx ((M : Nat) : Int))))))] ++ SW g u (skC t d x y tx ty M)) H := hP
          have hD : va_D A ([(q56, .inl (g.1, 3, .inl (zA (upZ (fun _ => 0) 0 (pX x tx ((M : Nat) : Int))))))] ++ SW g u (skC t d x y tx ty M)) := hD
          refine lv_dup S.1 S.2.1 dX5_walk_63 rfl ?_
          refine z_iconst S dX5_walk_64 ?_
          refine lv_iload S.1 S.2.1 dX5_walk_65 (lv_at hl 0 rfl) ?_
          refine y_iast (F := upZ (fun _ => 0) 0 (pX x tx ((M : Nat) : Int))) S hK hP hD hS 0 rfl (by decide) (by omega) dX5_walk_67 (fun H locs hP hD hS => ?_)
          have hP : va_P D vwCl ([(q56, .inl (g.1, 3, .inl (zA (upZ (upZ (fun _ => 0) 0 (pX x tx ((M : Nat) : Int))) 1 (pY x tx y ty ((M : Nat) : Int))))))] ++ SW g u (skC t d x y tx ty M)) H := hP
          have hD : va_D A ([(q56, .inl (g.1, 3, .inl (zA (upZ (upZ (fun _ => 0) 0 (pX x tx ((M : Nat) : Int))) 1 (pY x tx y ty ((M : Nat) : Int))))))] ++ SW g u (skC t d x y tx ty M)) := hD
          refine lv_dup S.1 S.2.1 dX5_walk_68 rfl ?_
          refine z_iconst S dX5_walk_69 ?_
          refine lv_iload_n S.1 S.2.1 dX5_walk_70 rfl (lv_at hl 4 rfl) ?_
          refine y_iast (F := upZ (upZ (fun _ => 0) 0 (pX x tx ((M : Nat) : Int))) 1 (pY x tx y ty ((M : Nat) : Int))) S hK hP hD hS 0 rfl (by decide) (by omega) dX5_walk_71 (fun H locs hP hD hS => ?_)
          have hP : va_P D vwCl ([(q56, .inl (g.1, 3, .inl (zA (upZ (upZ (upZ (fun _ => 0) 0 (pX x tx ((M : Nat) : Int))) 1 (pY x tx y ty ((M : Nat) : Int))) 2 d))))] ++ SW g u (skC t d x y tx ty M)) H := hP
          have hD : va_D A ([(q56, .inl (g.1, 3, .inl (zA (upZ (upZ (upZ (fun _ => 0) 0 (pX x tx ((M : Nat) : Int))) 1 (pY x tx y ty ((M : Nat) : Int))) 2 d))))] ++ SW g u (skC t d x y tx ty M)) := hD
          refine y_addrow (rest := []) 2 (by decide) (PRE := []) (G := upZ (upZ (upZ (fun _ => 0) 0 (pX x tx ((M : Nat) : Int))) 1 (pY x tx y ty ((M : Nat) : Int))) 2 d) S hK hP hD hB hS (fun q9 h9 => hA q9 (Nat.le_trans hS.1 h9)) (by show 0 ≤ (skC t d x y tx ty M).1 4 ∧ (skC t d x y tx ty M).1 4 ≤ 60; omega) ml_X5_50 fl_X5_22 ⟨Nat.le_of_ble_eq_true rfl, Nat.le_of_ble_eq_true rfl⟩ hl.1 (Nat.le_of_ble_eq_true rfl) ⟨(by show 2 * M + 1 + 1 ≤ 78; omega), (by show 64 * M + 3 + 61 ≤ 2496; omega)⟩ dX5_walk_72 dX5_walk_75 (fun o72 H locs hP hD hB hS => ?_)
          have hP : va_P D vwCl (SW g (bAdd u (skC t d x y tx ty M) 2 o72 q56) (sAdd (skC t d x y tx ty M) 2 (upZ (upZ (upZ (fun _ => 0) 0 (pX x tx ((M : Nat) : Int))) 1 (pY x tx y ty ((M : Nat) : Int))) 2 d))) H := hP
          have hD : va_D A (SW g (bAdd u (skC t d x y tx ty M) 2 o72 q56) (sAdd (skC t d x y tx ty M) 2 (upZ (upZ (upZ (fun _ => 0) 0 (pX x tx ((M : Nat) : Int))) 1 (pY x tx y ty ((M : Nat) : Int))) 2 d))) := hD
          have hB : SB A (bAdd u (skC t d x y tx ty M) 2 o72 q56) (sAdd (skC t d x y tx ty M) 2 (upZ (upZ (upZ (fun _ => 0) 0 (pX x tx ((M : Nat) : Int))) 1 (pY x tx y ty ((M : Nat) : Int))) 2 d)) := hB
          refine lv_iload S.1 S.2.1 dX5_walk_78 (lv_at hl 1 rfl) ?_
          refine lv_iload S.1 S.2.1 dX5_walk_80 (lv_at hl 7 rfl) ?_
          refine z_icmp_eq (tgt := 105) S dX5_walk_82 (by decide) (by omega) (fun h_77 => ?_) (fun h_77 => ?_)
          · refine lv_iload S.1 S.2.1 dX5_walk_105 (lv_at hl 0 rfl) ?_
            refine lv_iload S.1 S.2.1 dX5_walk_107 (lv_at hl 8 rfl) ?_
            refine z_icmp_eq (tgt := 132) S dX5_walk_109 (by decide) (by omega) (fun h_78 => ?_) (fun h_78 => ?_)
            · refine lv_aload_n S.1 S.2.1 dX5_walk_132 rfl (lv_at hl 3 rfl) ?_
              refine z_get (v := .ref ((bAdd u (skC t d x y tx ty M) 2 o72 q56) 3)) S inA5 hK hP 0 rfl rfl 4 (by decide) fl_X5_22 rfl dX5_walk_133 ?_
              refine y_alen S hK hP 3 rfl (v := ((skC t d x y tx ty M).1 4) + 1) (by show (((((skC t d x y tx ty M).1 4) + 1).toNat : Nat) : Int) = _; omega) dX5_walk_136 ?_
              refine lv_iload S.1 S.2.1 dX5_walk_137 (lv_at hl 2 rfl) ?_
              refine z_isub S dX5_walk_139 ?_
              have hTk : (sAdd (skC t d x y tx ty M) 2 (upZ (upZ (upZ (fun _ => 0) 0 (pX x tx ((M : Nat) : Int))) 1 (pY x tx y ty ((M : Nat) : Int))) 2 d)) = skW t d x y tx ty := by (rw [skW, ← hM]; show _ = skM _ _ _ _; first | (rw [skM, if_neg (by omega)]; done) | (rw [skM, if_pos (by omega)]; rfl))
              rw [hTk] at hP hB
              refine W.widen (k := 78) (n := 2496) (by omega) (by omega) ?_
              exact y_iretS S hr hlk (by rw [← hTk]; first | done | rfl) (by first | exact hu0 | exact (bAdd_0 _ _ _ _ _).trans hu0) hP hB hS dX5_walk_140
            · exact absurd h_78 (by omega)
          · exact absurd h_77 (by omega)
