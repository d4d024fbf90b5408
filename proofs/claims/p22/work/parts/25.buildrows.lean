/-! ROWS FOR BUILDING -/
theorem bAdd_n (b : Nat → Nat) (t : SS) (k o r : Nat) : rd (bAdd b t k o r) k (sn t k) = r := by
  show bAdd b t k o r (5 + 4 * sn t k + k) = r
  rw [bAdd, if_neg (by omega), if_pos rfl]
theorem sAdd_at (t : SS) (k : Nat) (G : Int → Int) : (sAdd t k G).2 k (t.1 (2 + k)) = G := by
  rw [sAdd_r]
  exact if_pos rfl
theorem SB_s00 {A : Nat → Prop} {g : ClassId × ClassId × ClassId} {u : Nat → Nat} (h : va_D A (SW g u s00)) : SB A u s00 := by
  have at5 : ∀ i : Nat, i < 5 → ∃ x, (SW g u s00)[i]? = some (u i, x) := by
    intro i hi
    rcases (show i = 0 ∨ i = 1 ∨ i = 2 ∨ i = 3 ∨ i = 4 by omega) with e | e | e | e | e <;> subst e <;> exact ⟨_, rfl⟩
  have sv : ∀ j, SV s00 j → j < 5 := by
    rintro j (h | ⟨k, hk, i, hi, -⟩)
    · exact h
    · rcases (show k = 0 ∨ k = 1 ∨ k = 2 ∨ k = 3 by omega) with e | e | e | e <;> subst e <;> exact absurd (show i < 0 from hi) (Nat.not_lt_zero _)
  refine ⟨fun i j hi hj e => ?_, fun j hj => ?_⟩
  · obtain ⟨x, hx⟩ := at5 i (sv i hi)
    obtain ⟨y, hy⟩ := at5 j (sv j hj)
    exact h.1 i j _ _ hx hy e
  · obtain ⟨x, hx⟩ := at5 j (sv j hj)
    exact h.2 j _ hx
section BR
variable {p : Program} {l : Launch} {e : Env} {R : Room} {s : State} {m : MethodId} {args : Array Value} {below : List Frame} {meth : Method} {c : Code} {H : Heap} {locs : List Loc} {cells slots : Nat} {Q : State → Prop}
variable {cc : ByteArray} {nL pc : Nat} {own : String} {ls : Array Slot} {rest st0 : List Value} {D : va_G} {A : Nat → Prop} {g : ClassId × ClassId × ClassId} {a b : Nat → Nat} {c0 c1 : CS} {t t' : SS} {X PRE wc ws : va_W} {As : List Value}
theorem y_cell {sc L index : Nat} {xs : Nat → Int32} {k : Int} (S : CallFix p m c cc nL s args AW own) (hXs : va_X sc L xs s s.heap) (hsc : ¬ A sc) (hL : L ≤ 260) (hk : 0 ≤ k ∧ k ≤ 1000) (h1 : Cond.methodLink own index yL_cell ∈ AW) (hR : 0 + 1 ≤ R.frames ∧ 8 + (2 + 11) + 0 ≤ R.locals)
    (hK : KG D g s) (hS : va_S A s.heap H locs) (hsz : ls.size = nL) (hr : (rest.map fun v => v.category).sum ≤ 8) (hc : cells ≤ R.cells ∧ slots ≤ R.slots) (hdg : decode cc pc = .ok (.invokestatic index, 3))
    (kk : W p l e R s m args below meth c H locs cells slots Q (F0 m (pc + 3) ls (.int (cll xs L k) :: rest))) : W p l e R s m args below meth c H locs cells slots Q (F0 m pc ls (.int (zI k) :: .ref sc :: rest)) := by
  have hXH : va_X sc L xs s H := hXs.kept (hS.2.1 sc hXs.lt hsc)
  exact z_Si (va_runS (As := [.ref sc, .int (zI k)]) (rest := rest) S (m_L_cell l D g sc L xs hL k hk) (mkS S.2.2.2.2 h1 sm_L_cell ini_L cd_L_cell ds_L_cell hR) ⟨fun a' U f mk h => ⟨h.1, va_X.moved (u := U) (U := U.calling f mk a') (Vm.Alike.refl U.vm) h.2.1, h.2.2.calling f mk a'⟩, fun U hU hW => ⟨rfl, by rw [hU]; exact va_X.moved hW.alike hXH, hK.warm hW⟩⟩ rfl rfl hsz rfl (z_lroom hr) hdg hc) (fun v hv => by subst hv; exact kk)
/-- the constructor of the law's own field, called by a nest mate -/
theorem y_init {h0 index : Nat} {host : String} (S : CallFix p m c cc nL s args AW own) (hl : va_Nw (.methodLinkNest own index yX5_init host) s) (hR : 1 + 1 ≤ R.frames ∧ 8 + (1 + 11) + 12 ≤ R.locals)
    (hK : KG D g s) (hP : va_P D vwCl (CW g a c0 ++ [(h0, .inr (5, [.int (zI 0), .int (zI 0), .null, .null, .null, .null]))]) H) (hD : va_D A (CW g a c0 ++ [(h0, .inr (5, [.int (zI 0), .int (zI 0), .null, .null, .null, .null]))])) (hS : va_S A s.heap H locs) (hA : ∀ q, s.heap.size ≤ q → A q)
    (hsz : ls.size = nL) (hr : (rest.map fun v => v.category).sum ≤ 8) (hc : cells + 4 ≤ R.cells ∧ slots + 0 ≤ R.slots) (hdg : decode cc pc = .ok (.invokespecial index, 3))
    (kk : ∀ (u : Nat → Nat) (H1 : Heap) (locs1 : List Loc), u 0 = h0 → va_P D vwCl (CW g a c0 ++ SW g u s00) H1 → va_D A (CW g a c0 ++ SW g u s00) → SB A u s00 → va_S A s.heap H1 locs1 → W p l e R s m args below meth c H1 locs1 (cells + 4) (slots + 0) Q (F0 m (pc + 3) ls rest)) : W p l e R s m args below meth c H locs cells slots Q (F0 m pc ls (.ref h0 :: rest)) := by
  have hC : [21].map (fun i => (CW g a c0 ++ [(h0, (.inr (5, [.int (zI 0), .int (zI 0), .null, .null, .null, .null]) : va_E))])[i]?) = [(h0, (.inr (5, [.int (zI 0), .int (zI 0), .null, .null, .null, .null]) : va_E))].map some := rfl
  have hrr : [0, 1, 2, 3, 4, 5, 6, 7, 8, 9, 10, 11, 12, 13, 14, 15, 16, 17, 18, 19, 20].map (fun i => (CW g a c0 ++ [(h0, (.inr (5, [.int (zI 0), .int (zI 0), .null, .null, .null, .null]) : va_E))])[i]?) = (CW g a c0).map some := rfl
  have hFc := va_free (wc := [(h0, (.inr (5, [.int (zI 0), .int (zI 0), .null, .null, .null, .null]) : va_E))]) hD hS hA [21] hC
  have hPc : va_P D vwCl [(h0, (.inr (5, [.int (zI 0), .int (zI 0), .null, .null, .null, .null]) : va_E))] H := va_P_r hP
  refine va_callv (va_runIN (As := []) (rest := rest) S (n_X5 l D g h0 H.size) ⟨va_cnB 0 S.2.2.2.2 (gin_WS cd_X5_init) rfl rfl rfl hl (S.2.2.2.2 _ ini_X5) ds_X5_init.2 hR, rfl, S.2.2.2.2 _ im_X5_init⟩ ⟨fun a' U f mk q => ⟨q.1, q.2.1, q.2.2.1, q.2.2.2.calling f mk a'⟩, fun U hU hW => ⟨rfl, by rw [hU], by rw [hU]; exact hPc, hK.warm hW⟩⟩ rfl rfl hsz rfl (z_lroom hr) hdg hc) hS (fun q _ h => hFc q h) hFc (fun u t H1 locs1 ht hvm hu hB hz hk hS1 => ?_)
  obtain ⟨hP1, hD1⟩ := hB
  rw [ht] at hP1
  obtain ⟨hP2, hD2⟩ := va_join hP hD [21] [0, 1, 2, 3, 4, 5, 6, 7, 8, 9, 10, 11, 12, 13, 14, 15, 16, 17, 18, 19, 20] hC hrr rfl (by decide) hk hFc hP1 hD1
  exact kk u H1 locs1 hu hP2 hD2 (SB_s00 (va_D_r hD2)) hS1
abbrev BP (D : va_G) (g : ClassId × ClassId × ClassId) (A : Nat → Prop) (ws : va_W) (sz sc L : Nat) (xs : Nat → Int32) : State → Prop := fun U => AP D g A ws sz U ∧ va_X sc L xs U U.heap ∧ va_Nw (.methodLinkNest RL 97 yX5_init RL) U
theorem BP.blind {sz sc L : Nat} {xs : Nat → Int32} : FrameBlind (va_Pc As (BP D g A ws sz sc L xs)) := fun a U f mk h => ⟨h.1, (AP.blind (As := As) a U f mk ⟨h.1, h.2.1⟩).2, va_X.moved (u := U) (U := U.calling f mk a) (Vm.Alike.refl U.vm) h.2.2.1, va_Nw.same (u := U) (U := U.calling f mk a) rfl rfl h.2.2.2⟩
theorem b_enter {y : MethodName} {cc : ByteArray} {maxL sz sc L : Nat} {xs : Nat → Int32} {ret : Option FieldType} {rm : Room} {Qc : Array Value → State → Outcome → State → Prop} {mc ms : Nat} {free : Addr → Prop} (own : String) (hy : plainName y.cls = true) (ho : y.cls = own) (hlen : (lg_sl As).length ≤ maxL)
    (body : ∀ p e s m args below meth c, CallFix p m c cc maxL s args AW own → meth.sig.returnType = ret → meth.locks = false → s.heap.size = sz → KX D g s → ZQ A s s.heap → va_X sc L xs s s.heap → va_Nw (.methodLinkNest RL 97 yX5_init RL) s → va_P D vwCl wc s.heap → ∀ ls, lv_has ls maxL (lv_args 0 As) →
      W p l e rm s m args below meth c s.heap [] 0 0 (MQ below Qc args s mc ms free) (F0 m 0 ls [])) : Met l y (WS y cc maxL ret) rm (va_Pc As (BP D g A wc sz sc L xs)) Qc mc ms free := by
  refine Met.ofW (cc := cc) (maxL := maxL) (ret := ret) hy rfl ?_
  intro p e s m args below meth c s₁ B hml hv
  obtain ⟨rfl, ⟨hz, hP, hK, hZ⟩, hXs, hNw⟩ := hv
  have hts := atoms_spec (ws := WS y cc maxL ret) B.pre
  have hown : s.vm.findClass own = some m.cls := by rw [← ho]; exact findClass_of_methodNamed B.named
  rw [lg_entry_eq]
  exact body p e s m _ below meth c ⟨B.exec, B.bytes, hml, hown, fun w h => hts w (List.mem_cons_of_mem _ h)⟩ B.returns B.notSynchronized hz hK hZ hXs hNw hP _ (lv_entry As hlen)
abbrev BQc (D : va_G) (g : ClassId × ClassId × ClassId) (a : Nat → Nat) (A : Nat → Prop) : Array Value → State → Outcome → State → Prop := va_Qr (fun (u : CS × SS × (Nat → Nat)) => IC 1000000 u.1 ∧ IT u.2.1 ∧ RS u.1 u.2.1 ∧ 1 ≤ u.2.1.1 3) (fun u ra U => ra = u.2.2 0 ∧ va_P D vwCl (CW g a u.1 ++ SW g u.2.2 u.2.1) U.heap ∧ va_D A (CW g a u.1 ++ SW g u.2.2 u.2.1) ∧ SB A u.2.2 u.2.1) A
theorem y_bret (S : CallFix p m c cc nL s args AW own) {rt : FieldType} (hr : meth.sig.returnType = some rt) (hrt : (∃ n, rt = .object n) ∨ ∃ t, rt = .array t) (hlk : meth.locks = false) (hI : IC 1000000 c1) (hT : IT t') (hR : RS c1 t') (h3 : 1 ≤ t'.1 3) (hP : va_P D vwCl (CW g a c1 ++ SW g b t') H) (hD : va_D A (CW g a c1 ++ SW g b t')) (hB : SB A b t') (hS : va_S A s.heap H locs) (hdg : decode cc pc = .ok (.areturn, 1)) : W p l e R s m args below meth c H locs cells slots (MQ below (BQc D g a A) args s cells slots A) (F0 m pc ls [.ref (b 0)]) :=
  y_aret S hr hrt hlk (c1, t', b) (b 0) ⟨hI, hT, hR, h3⟩ (fun U hU => ⟨rfl, by rw [hU]; exact hP, hD, hB⟩) hS hS.2.2 hdg
end BR
