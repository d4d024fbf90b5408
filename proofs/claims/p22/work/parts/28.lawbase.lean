/-! ROWS OF THE LAW: building, an act, the last look -/
theorem va_D_self {A : Nat → Prop} {ws : va_W} (h : va_D A ws) (sz : Nat) : va_D (va_A ws sz) ws := ⟨h.1, fun k q hk => Or.inl ⟨k, q.2, hk⟩⟩
theorem va_A_sub {A : Nat → Prop} {ws : va_W} {sz : Nat} (h : va_D A ws) (hA : ∀ q, sz ≤ q → A q) : ∀ q, va_A ws sz q → A q := fun q hq => by
  rcases hq with ⟨k, e, hk⟩ | hq
  · exact h.2 k _ hk
  · exact hA q hq
theorem SB_ap {g : ClassId × ClassId × ClassId} {A : Nat → Prop} {w1 : va_W} {b : Nat → Nat} {t : SS} (h : SB A b t) (sz : Nat) : SB (va_A (w1 ++ SW g b t) sz) b t := ⟨h.1, fun j hj => by
  obtain ⟨x, hx, e⟩ := SV_SW g b hj
  obtain ⟨k, hk⟩ := List.getElem?_of_mem (List.mem_append_right w1 hx)
  exact Or.inl ⟨k, x.2, by rw [← e]; exact hk⟩⟩
theorem SB_up {A A' : Nat → Prop} {b : Nat → Nat} {t : SS} (h : SB A b t) (hA : ∀ q, A q → A' q) : SB A' b t := ⟨h.1, fun j hj => hA _ (h.2 j hj)⟩
abbrev hhA : List (Nat × Nat × Nat × Nat) := [(299, 339, 342, 38), (567, 576, 579, 38), (773, 782, 785, 38), (962, 996, 997, 38), (1069, 1079, 1082, 38)]
section LB
variable {p : Program} {l : Launch} {e : Env} {R : Room} {s : State} {m : MethodId} {args : Array Value} {below : List Frame} {meth : Method} {co : Code} {H : Heap} {locs : List Loc} {cells slots : Nat} {Q : State → Prop}
variable {cc : ByteArray} {nL pc index : Nat} {own : String} {ls : Array Slot} {rest : List Value} {D : va_G} {A : Nat → Prop} {g : ClassId × ClassId × ClassId} {a b : Nat → Nat} {c : CS} {t : SS} {B : Int}
theorem y_act (S : CallFix p m co cc nL s args AW RL) (hst : l.stackTraces = false) (hda : CD 21 a) (hX : KX D g s) (hZ : ZQ A s s.heap) (hA : ∀ q, s.heap.size ≤ q → A q) (hI : IC B c) (hB8 : B ≤ 800000000) (hT : IT t) (hR : RS c t) (h3 : 1 ≤ t.1 3) (hB : SB A b t) (x : Int32) (h1 : Cond.methodLink RL index yL_act ∈ AW) (hRm : 7 + 1 ≤ R.frames ∧ 8 + (16 + 11) + 160 ≤ R.locals)
    (hP : va_P D vwCl (CW g a c ++ SW g b t) H) (hD : va_D A (CW g a c ++ SW g b t)) (hS : va_S A s.heap H locs) (hsz : ls.size = nL) (hr : (rest.map fun v => v.category).sum ≤ 8) (hc : cells + 80 ≤ R.cells ∧ slots + 2600 ≤ R.slots) (hdg : decode cc pc = .ok (.invokestatic index, 3))
    (kk : ∀ (c1 : CS) (t1 : SS) (b1 : Nat → Nat) (H1 : Heap) (locs1 : List Loc), IC (B + 100000) c1 → IT t1 → RS c1 t1 → t1.1 3 = t.1 3 → b1 0 = b 0 → va_P D vwCl (CW g a c1 ++ SW g b1 t1) H1 → va_D A (CW g a c1 ++ SW g b1 t1) → SB A b1 t1 → va_S A s.heap H1 locs1 → W p l e R s m args below meth co H1 locs1 (cells + 80) (slots + 2600) Q (F0 m (pc + 3) ls (.int (zI 1) :: rest))) : W p l e R s m args below meth co H locs cells slots Q (F0 m pc ls (.int x :: .ref (b 0) :: .ref (a 0) :: rest)) := by
  have hAf : ∀ q, va_A (CW g a c ++ SW g b t) H.size q → A q := va_A_sub hD (fun q h => hA q (Nat.le_trans hS.1 h))
  have hZH : ZQ (va_A (CW g a c ++ SW g b t) H.size) s H := (hZ.kept (H1 := H) (fun q h1 h2 => hS.2.1 q h1 h2)).narrow hAf
  have hg : GoodIn AW (va_wsS RL index yL_act (.codeWith yL_act cL_act 16 (some .boolean) hhA :: AW)) := fun w hw => by
    rcases List.mem_append.mp hw with q | q
    · rcases List.mem_cons.mp q with e | q
      · rw [e]; exact gin_AW _ h1
      rcases List.mem_cons.mp q with e | q
      · rw [e]; exact gin_AW _ sm_L_act
      rcases List.mem_cons.mp q with e | q
      · rw [e]; exact gin_AW _ ini_L
      · exact absurd q List.not_mem_nil
    · rcases List.mem_cons.mp q with e | q
      · rw [e]; exact gin_AW _ cw_L_act
      · exact gin_AW w q
  refine vx_calli (AX := fun _ => False) (vx_runSX (As := [.ref (a 0), .ref (b 0), .int x]) (rest := rest) S (m_L_act l D g a b c t hst hda hI hB8 hT hR h3 x H.size _ rfl (SB_ap hB H.size) (va_D_self hD _)) (vx_cwSW 3 S.2.2.2.2 hg rfl rfl rfl ds_L_act.2 hRm) ⟨AP.blind, fun U hU hW => ⟨rfl, by rw [hU], by rw [hU]; exact hP, hX.warm hW, by rw [hU]; exact ZQ.moved hW.alike hZH⟩⟩ rfl rfl hsz rfl (z_lroom hr) hdg hc) hS (fun q _ h => hAf q h) hAf (fun q _ h => h.elim) (fun E ce q9 u t9 H1 locs1 ht _ hf hB hz hk hS1 hc1 hc2 hc3 => hf.elim) (fun v u t9 H1 locs1 ht _ hv hB9 hz hk hS1 => ?_)
  obtain ⟨rfl, hIv, hTv, hRv, h3v, hbv⟩ := hv
  obtain ⟨q1, q2, q3⟩ := hB9
  rw [ht] at q1
  exact kk u.1 u.2.1 u.2.2 H1 locs1 hIv hTv hRv h3v (by omega) q1 (va_D_imp q2 hAf) (SB_up q3 hAf) hS1
theorem y_build {sc L : Nat} {xs : Nat → Int32} (S : CallFix p m co cc nL s args AW RL) (hst : l.stackTraces = false) (hda : CD 21 a) (hX : KX D g s) (hZ : ZQ A s s.heap) (hA : ∀ q, s.heap.size ≤ q → A q) (hXs : va_X sc L xs s s.heap) (hsc : ¬ A sc) (hL : L ≤ 260) (hNw : va_Nw (.methodLinkNest RL 97 yX5_init RL) s) (h1 : Cond.methodLink RL index yL_build ∈ AW) (hRm : 7 + 1 ≤ R.frames ∧ 8 + (13 + 11) + 149 ≤ R.locals)
    (hP : va_P D vwCl (CW g a c00) H) (hD : va_D A (CW g a c00)) (hS : va_S A s.heap H locs) (hsz : ls.size = nL) (hr : (rest.map fun v => v.category).sum ≤ 8) (hc : cells + 31 ≤ R.cells ∧ slots + 648 ≤ R.slots) (hdg : decode cc pc = .ok (.invokestatic index, 3))
    (kk : ∀ (c1 : CS) (t1 : SS) (b1 : Nat → Nat) (H1 : Heap) (locs1 : List Loc), IC 1000000 c1 → IT t1 → RS c1 t1 → 1 ≤ t1.1 3 → va_P D vwCl (CW g a c1 ++ SW g b1 t1) H1 → va_D A (CW g a c1 ++ SW g b1 t1) → SB A b1 t1 → va_S A s.heap H1 locs1 → W p l e R s m args below meth co H1 locs1 (cells + 31) (slots + 648) Q (F0 m (pc + 3) ls (.ref (b1 0) :: rest))) : W p l e R s m args below meth co H locs cells slots Q (F0 m pc ls (.ref sc :: .ref (a 0) :: rest)) := by
  have hAf : ∀ q, va_A (CW g a c00) H.size q → A q := va_A_sub hD (fun q h => hA q (Nat.le_trans hS.1 h))
  have hZH : ZQ (va_A (CW g a c00) H.size) s H := (hZ.kept (H1 := H) (fun q h1 h2 => hS.2.1 q h1 h2)).narrow hAf
  have hXH : va_X sc L xs s H := hXs.kept (hS.2.1 sc hXs.lt hsc)
  refine va_callr (va_runS (As := [.ref (a 0), .ref sc]) (rest := rest) S (m_L_build l D g a hst hda sc L xs hL H.size _ rfl (fun z => hsc (hAf _ z)) (va_D_self hD _)) (mkS S.2.2.2.2 h1 sm_L_build ini_L cd_L_build ds_L_build hRm) ⟨BP.blind, fun U hU hW => ⟨rfl, ⟨by rw [hU], by rw [hU]; exact hP, hX.warm hW, by rw [hU]; exact ZQ.moved hW.alike hZH⟩, by rw [hU]; exact va_X.moved hW.alike hXH, va_Nw.warmM hW hNw⟩⟩ rfl rfl hsz rfl (z_lroom hr) hdg hc) hS (fun q _ h => hAf q h) hAf (fun u ra t9 H1 locs1 ht _ hu hB9 hz hk hS1 => ?_)
  obtain ⟨hIv, hTv, hRv, h3v⟩ := hu
  obtain ⟨rfl, q1, q2, q3⟩ := hB9
  rw [ht] at q1
  exact kk u.1 u.2.1 u.2.2 H1 locs1 hIv hTv hRv h3v q1 (va_D_imp q2 hAf) (SB_up q3 hAf) hS1
theorem y_look (S : CallFix p m co cc nL s args AW RL) (hX : KX D g s) (hA : ∀ q, s.heap.size ≤ q → A q) (hI : IC B c) (hT : IT t) (hR : RS c t) (h1 : Cond.methodLink RL index yX5_isSame ∈ AW) (hRm : 6 + 1 ≤ R.frames ∧ 8 + (10 + 11) + 133 ≤ R.locals)
    (hP : va_P D vwCl (CW g a c ++ SW g b t) H) (hD : va_D A (CW g a c ++ SW g b t)) (hS : va_S A s.heap H locs) (hsz : ls.size = nL) (hr : (rest.map fun v => v.category).sum ≤ 8) (hc : cells + 22 ≤ R.cells ∧ slots + 134 ≤ R.slots) (hdg : decode cc pc = .ok (.invokevirtual index, 3))
    (kk : ∀ (H1 : Heap) (locs1 : List Loc), va_S A s.heap H1 locs1 → W p l e R s m args below meth co H1 locs1 (cells + 22) (slots + 134) Q (F0 m (pc + 3) ls (.int (zI 1) :: rest))) : W p l e R s m args below meth co H locs cells slots Q (F0 m pc ls (.ref (a 0) :: .ref (b 0) :: rest)) := by
  have hAf : ∀ q, va_A (CW g a c ++ SW g b t) H.size q → A q := va_A_sub hD (fun q h => hA q (Nat.le_trans hS.1 h))
  refine va_calli (va_runV (As := [.ref (a 0)]) (rest := rest) S (m_X5_isSame l D g a b c t hI hT hR H.size _ rfl (va_D_self hD _)) (mkV S.2.2.2.2 h1 im_X5_isSame se_X5_isSame ini_X5 cd_X5_isSame ds_X5_isSame hRm) ⟨NP.blind, va_recv hX.1.1 (va_P_r hP) (ci := 5) (q0 := 0) rfl rfl, fun U hU hW => ⟨rfl, by rw [hU], by rw [hU]; exact hP, hX.1.warm hW⟩⟩ rfl rfl hsz rfl (z_lroom hr) hdg hc) hS (fun q _ h => hAf q h) hAf (fun v u t9 H1 locs1 ht _ hv hB9 hz hk hS1 => ?_)
  have hv : v = zI 1 := hv
  subst hv
  exact kk H1 locs1 hS1
end LB
