/-! THE MEAN, a double that is no NaN: nothing is drawn -/
def mnV (w n : Int) : UInt64 := if 0 < n then FP.ddiv (FP.i2d (zI w)) (FP.i2d (zI n)) else FP.dconst0
theorem n64_of {x : UInt64} (h : FP.Core.dIsNaN x = false) : vf_n64 x := by
  have h2 : ¬ FP.Core.dIsNaN x = true := by rw [h]; exact Bool.false_ne_true
  rw [FP.Core.isNaN_bits] at h2
  unfold vf_n64
  rw [UInt64.le_iff_toNat_le, UInt64.toNat_and]
  have h1 : (0x7fffffffffffffff : UInt64).toNat = 2 ^ 63 - 1 := by decide
  have h3 : (0x7ff0000000000000 : UInt64).toNat = 9218868437227405312 := by decide
  rw [h1, h3, Nat.and_two_pow_sub_one_eq_mod]
  omega
theorem mn_nan {w n : Int} (hn : 0 < n ∧ n ≤ 2147483647) : FP.Core.dIsNaN (FP.ddiv (FP.i2d (zI w)) (FP.i2d (zI n))) = false := by
  have hz : zI n ≠ 0 := fun z => by
    have e := zI_toInt (z := n) (by constructor <;> omega)
    rw [z] at e
    have : (0 : Int32).toInt = 0 := by decide
    omega
  refine FP.Core.ddiv_out ?_ (FP.Core.i2d_fin _) ?_
  · obtain ⟨s, c, q, h⟩ := FP.Core.i2d_fin (zI w)
    have : ¬ FP.Core.dIsNaN (FP.i2d (zI w)) = true := by
      rw [FP.Core.dIsNaN_iff]
      show ¬ FP.Core.val64 (FP.Core.i2d (zI w)) = _
      rw [h]; exact fun z => by cases z
    exact Bool.eq_false_iff.mpr this
  · rw [FP.Core.zero_bits2]
    exact FP.Core.i2d_ne_zero hz
theorem mn_n64 {w n : Int} (hn : 0 < n ∧ n ≤ 2147483647) : vf_n64 (FP.ddiv (FP.i2d (zI w)) (FP.i2d (zI n))) := n64_of (mn_nan hn)
theorem mnV_self {w n : Int} (hn : n ≤ 2147483647) (op : CmpOp) : Op.cmpValue (FP.dcmp (mnV w n) (mnV w n)) op = 0 := by
  have h : FP.dcmp (mnV w n) (mnV w n) = some .eq := by
    refine FP.Core.dcmp_self ?_
    rw [Ne, ← FP.Core.dIsNaN_iff]
    unfold mnV
    split
    · rw [mn_nan ⟨by assumption, hn⟩]; exact Bool.false_ne_true
    · decide
  rw [h]
  cases op <;> rfl
section MN
variable {p : Program} {l : Launch} {e : Env} {R : Room} {s : State} {m : MethodId} {args : Array Value} {below : List Frame} {meth : Method} {c : Code} {H : Heap} {locs : List Loc} {cells slots : Nat} {Q : State → Prop}
variable {cc : ByteArray} {nL pc : Nat} {own : String} {ls : Array Slot} {rest st0 : List Value} {D : va_G} {A : Nat → Prop} {g : ClassId × ClassId × ClassId} {ws wc : va_W} {As : List Value}
variable {y : MethodName} {bytes : ByteArray} {maxL n index b fr lo : Nat} {ret : Option FieldType} {C : String}
abbrev RDd (l : Launch) (y : MethodName) (b : ByteArray) (n : Nat) (ret : Option FieldType) (fr lo : Nat) (D : va_G) (g : ClassId × ClassId × ClassId) (wc : va_W) (As : List Value) (r : UInt64) : Prop := Met l y (WS y b n ret) { frames := fr, cells := 0, slots := 0, locals := lo } (va_Pc As (PW D g wc)) (vp_Sd (fun v => v = r)) 0 0 (fun _ => False)
theorem z_Sd {post : UInt64 → Prop} {a : Array Value} (hr : va_Run p l e R s m args below meth c H locs cells slots 0 0 (F0 m pc ls st0) rest (vp_Sd post a) (fun _ => False))
    (kk : ∀ r : UInt64, post r → W p l e R s m args below meth c H locs cells slots Q (F0 m (pc + 3) ls (.double r :: rest))) : W p l e R s m args below meth c H locs cells slots Q (F0 m pc ls st0) := by
  intro T hT X
  obtain ⟨v, st₀, t, T', L, h0, X', hL, e1, e2, ⟨r, hv, hp, hh⟩, st⟩ := hr T hT X
  cases hv
  obtain ⟨t2, a1, b1⟩ := kk r hp T' (by rw [e1, hh, h0]) (Stand.forget X' (fun q h => (hL q h).elim))
  exact ⟨t2, st t2 a1, b1⟩
theorem z_rVd {rd9 : UInt64} (S : CallFix p m c cc nL s args AW own) (hM : RDd l y bytes maxL ret fr lo D g wc (.ref b :: As) rd9) (h1 : Cond.methodLink own index y ∈ AW) (h2 : Cond.instanceMethod y ∈ AW) (h3 : Cond.selects C y y ∈ AW) (h4 : Cond.initialized C ∈ AW) (h5 : Cond.code y bytes maxL ret ∈ AW)
    (hd : y.cls = C ∧ y.cls ≠ "java/lang/invoke/MethodHandle" ∧ y.cls ≠ "java/lang/invoke/VarHandle" ∧ (parseMethodDescriptor y.desc).map (fun d => d.parameters.length) = some n) (hR : fr + 1 ≤ R.frames ∧ 8 + (maxL + 11) + lo ≤ R.locals)
    (hK : KG D g s) (hPc : va_P D vwCl wc H) (hv : ∃ cellB : Cell, H[b]? = some cellB ∧ cellB.vm.isStatics = false ∧ s.vm.findClass C = some cellB.cls) (hn : As.length = n) (hsz : ls.size = nL) (hst : st0 = As.reverse ++ .ref b :: rest) (hr : (rest.map fun v => v.category).sum ≤ 8) (hc : cells ≤ R.cells ∧ slots ≤ R.slots) (hdg : decode cc pc = .ok (.invokevirtual index, 3))
    (kk : W p l e R s m args below meth c H locs cells slots Q (F0 m (pc + 3) ls (.double rd9 :: rest))) : W p l e R s m args below meth c H locs cells slots Q (F0 m pc ls st0) :=
  z_Sd (va_runV (rest := rest) S hM (mkV S.2.2.2.2 h1 h2 h3 h4 h5 hd hR) (z_preV hK hPc hv) rfl hn hsz hst (z_lroom hr) hdg hc) (fun v hv => by subst hv; exact kk)
theorem z_retd {x r : UInt64} (S : CallFix p m c cc nL s args AW own) (hr : meth.sig.returnType = some .double) (hlk : meth.locks = false) (he : x = r) (hdg : decode cc pc = .ok (.dreturn, 1)) : W p l e R s m args below meth c s.heap [] 0 0 (MQ below (vp_Sd (fun v => v = r)) args s 0 0 (fun _ => False)) (F0 m pc ls [.double x]) :=
  W.dret S.1 S.2.1 hr (fun t ht _ => ⟨_, rfl, he, ht⟩) (fun q h => absurd h List.not_mem_nil) hdg hlk
end MN
set_option maxHeartbeats 4000000 in
set_option maxRecDepth 100000 in
theorem r_X4_mean (l : Launch) (D : va_G) (g : ClassId × ClassId × ClassId) (a : Nat → Nat) {B : Int} (c : CS) (hI : IC B c) : RDd l yX4_mean cX4_mean 3 (some .double) 1 21 D g (CW g a c) [.ref (a 0)] (mnV (meanW c) (c.1 4)) := by
  refine z_enter RX4 (by decide) rfl (Nat.le_of_ble_eq_true rfl) ?_
  intro p e s m args below meth co S hr hlk hK hP ls hl
  have hl : lv_has ls 3 [(0, .ref (a 0))] := hl
  have hs := hI.s
  refine z_iconst S dX4_mean_0 ?_
  refine lv_istore_n (lv' := [(1, .int (zI 0)), (0, .ref (a 0))]) S.1 S.2.1 dX4_mean_1 rfl hl (by decide) rfl (fun ls hl => ?_)
  refine z_iconst S dX4_mean_2 ?_
  refine lv_istore_n (lv' := [(2, .int (zI 0)), (1, .int (zI 0)), (0, .ref (a 0))]) S.1 S.2.1 dX4_mean_3 rfl hl (by decide) rfl (fun ls hl => ?_)
  refine z_for (nL := 3) (400) (fun (k4 : Nat) => [(2, .int (zI (k4 : Int))), (1, .int (zI (sm (fun j => if c.2 8 j ≠ -1 then c.2 3 j else 0) k4))), (0, .ref (a 0))]) (fun k4 => True) (fun k4 hk4 hJ4 ls hl ih4 => ?_) (fun hJ4 ls hl => ?_) 0 (by omega) trivial ls (lv_sub hl [0, 1, 2] rfl)
  · have hl : lv_has ls 3 [(2, .int (zI (k4 : Int))), (1, .int (zI (sm (fun j => if c.2 8 j ≠ -1 then c.2 3 j else 0) k4))), (0, .ref (a 0))] := hl
    refine lv_iload_n S.1 S.2.1 dX4_mean_4 rfl (lv_at hl 0 rfl) ?_
    refine z_sipush S (by decide) dX4_mean_5 ?_
    refine z_icmp_ge (tgt := 40) S dX4_mean_8 (by decide) (by omega) (fun h_1 => ?_) (fun h_1 => ?_)
    · exact absurd h_1 (by omega)
    · refine lv_aload_n S.1 S.2.1 dX4_mean_11 rfl (lv_at hl 2 rfl) ?_
      refine z_get (v := .ref (a 3)) S inA4 hK hP 0 rfl rfl 2 (by decide) fl_X4_26 rfl dX4_mean_12 ?_
      refine lv_iload_n S.1 S.2.1 dX4_mean_15 rfl (lv_at hl 0 rfl) ?_
      refine z_rV (As := [.int (zI (k4 : Int))]) (rest := []) S (m_X1_standsAt l D g a c hI (k4 : Int) (by omega)) ml_X4_121 im_X1_standsAt se_X1_standsAt ini_X1 cd_X1_standsAt ds_X1_standsAt ⟨Nat.le_of_ble_eq_true rfl, Nat.le_of_ble_eq_true rfl⟩ hK hP (va_recv hK.1 hP (ci := 1) (q0 := 3) rfl rfl) rfl hl.1 rfl (Nat.le_of_ble_eq_true rfl) ⟨Nat.zero_le _, Nat.zero_le _⟩ dX4_mean_16 ?_
      refine z_ifb_eq (tgt := 34) S dX4_mean_19 (by decide) (fun h_2 => ?_) (fun h_2 => ?_)
      · refine z_iinc (lv' := [(2, .int (zI ((k4 : Int) + 1))), (1, .int (zI (sm (fun j => if c.2 8 j ≠ -1 then c.2 3 j else 0) k4))), (0, .ref (a 0))]) S dX4_mean_34 hl (k := 0) rfl (by decide) rfl (fun ls hl => ?_)
        refine z_goto (tgt := 4) S dX4_mean_37 (by decide) ?_
        have e_3 : sm (fun j => if c.2 8 j ≠ -1 then c.2 3 j else 0) (k4 + 1) = sm (fun j => if c.2 8 j ≠ -1 then c.2 3 j else 0) k4 := by first | (show _ + (if _ then _ else _ : Int) = _; rw [if_pos (by omega)]; first | done | rfl) | (show _ + (if _ then _ else _ : Int) = _; rw [if_neg (by omega)]; first | done | exact Int.add_zero _)
        exact ih4 _ (lv_sub hl [0, 1, 2] (by show _ = ([(2, .int (zI ((k4 + 1 : Nat) : Int))), (1, .int (zI (sm (fun j => if c.2 8 j ≠ -1 then c.2 3 j else 0) (k4 + 1)))), (0, .ref (a 0))] : List (Nat × Value)); rw [e_3]; first | done | rfl)) trivial
      · refine lv_iload_n S.1 S.2.1 dX4_mean_22 rfl (lv_at hl 1 rfl) ?_
        refine lv_aload_n S.1 S.2.1 dX4_mean_23 rfl (lv_at hl 2 rfl) ?_
        refine z_get (v := .ref (a 1)) S inA4 hK hP 0 rfl rfl 0 (by decide) fl_X4_12 rfl dX4_mean_24 ?_
        refine z_get (v := .ref (a 8)) S inA3 hK hP 1 rfl rfl 4 (by decide) fl_X4_229 rfl dX4_mean_27 ?_
        refine lv_iload_n S.1 S.2.1 dX4_mean_30 rfl (lv_at hl 0 rfl) ?_
        refine z_iald S hK hP 8 rfl (by decide) (by omega) dX4_mean_31 ?_
        have hb_4 := hI.r3 (k4 : Int)
        refine z_iadd S dX4_mean_32 ?_
        refine lv_istore_n (lv' := [(1, .int (zI ((sm (fun j => if c.2 8 j ≠ -1 then c.2 3 j else 0) k4) + (c.2 3 (k4 : Int))))), (2, .int (zI (k4 : Int))), (0, .ref (a 0))]) S.1 S.2.1 dX4_mean_33 rfl hl (by decide) rfl (fun ls hl => ?_)
        refine z_iinc (lv' := [(2, .int (zI ((k4 : Int) + 1))), (1, .int (zI ((sm (fun j => if c.2 8 j ≠ -1 then c.2 3 j else 0) k4) + (c.2 3 (k4 : Int))))), (0, .ref (a 0))]) S dX4_mean_34 hl (k := 1) rfl (by decide) rfl (fun ls hl => ?_)
        refine z_goto (tgt := 4) S dX4_mean_37 (by decide) ?_
        have e_5 : sm (fun j => if c.2 8 j ≠ -1 then c.2 3 j else 0) (k4 + 1) = (sm (fun j => if c.2 8 j ≠ -1 then c.2 3 j else 0) k4) + (c.2 3 (k4 : Int)) := by first | (show _ + (if _ then _ else _ : Int) = _; rw [if_pos (by omega)]; first | done | rfl) | (show _ + (if _ then _ else _ : Int) = _; rw [if_neg (by omega)]; first | done | exact Int.add_zero _)
        exact ih4 _ (lv_sub hl [0, 1, 2] (by show _ = ([(2, .int (zI ((k4 + 1 : Nat) : Int))), (1, .int (zI (sm (fun j => if c.2 8 j ≠ -1 then c.2 3 j else 0) (k4 + 1)))), (0, .ref (a 0))] : List (Nat × Value)); rw [e_5]; first | done | rfl)) trivial
  · have hl : lv_has ls 3 [(2, .int (zI ((400 : Nat) : Int))), (1, .int (zI (sm (fun j => if c.2 8 j ≠ -1 then c.2 3 j else 0) 400))), (0, .ref (a 0))] := hl
    refine lv_iload_n S.1 S.2.1 dX4_mean_4 rfl (lv_at hl 0 rfl) ?_
    refine z_sipush S (by decide) dX4_mean_5 ?_
    refine z_icmp_ge (tgt := 40) S dX4_mean_8 (by decide) (by omega) (fun h_6 => ?_) (fun h_6 => ?_)
    · refine lv_aload_n S.1 S.2.1 dX4_mean_40 rfl (lv_at hl 2 rfl) ?_
      refine z_get (v := .ref (a 3)) S inA4 hK hP 0 rfl rfl 2 (by decide) fl_X4_26 rfl dX4_mean_41 ?_
      refine z_get (v := .int (zI (c.1 4))) S inA1 hK hP 3 rfl rfl 0 (by decide) fl_X4_232 rfl dX4_mean_44 ?_
      refine z_if_le (tgt := 64) S dX4_mean_47 (by decide) (by omega) (fun h_7 => ?_) (fun h_7 => ?_)
      · refine lv_dconst0 S.1 S.2.1 dX4_mean_64 ?_
        exact z_retd S hr hlk (by unfold mnV; rw [if_neg (by omega)]) dX4_mean_65
      · refine lv_iload_n S.1 S.2.1 dX4_mean_50 rfl (lv_at hl 1 rfl) ?_
        refine lv_i2d S.1 S.2.1 dX4_mean_51 ?_
        refine lv_aload_n S.1 S.2.1 dX4_mean_52 rfl (lv_at hl 2 rfl) ?_
        refine z_get (v := .ref (a 3)) S inA4 hK hP 0 rfl rfl 2 (by decide) fl_X4_26 rfl dX4_mean_53 ?_
        refine z_get (v := .int (zI (c.1 4))) S inA1 hK hP 3 rfl rfl 0 (by decide) fl_X4_232 rfl dX4_mean_56 ?_
        refine lv_i2d S.1 S.2.1 dX4_mean_59 ?_
        refine lv_ddiv S.1 S.2.1 dX4_mean_60 (mn_n64 (by omega)) ?_
        refine z_goto (tgt := 65) S dX4_mean_61 (by decide) ?_
        exact z_retd S hr hlk (by unfold mnV; rw [if_pos (by omega)]; rfl) dX4_mean_65
    · exact absurd h_6 (by omega)
