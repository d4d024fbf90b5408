/-! A ROW MORE, THE CALL AND THE FIELD; loops with worlds that grow -/
def radd (b : Nat → Nat) (t : SS) (k q : Nat) : Nat → Nat := fun i => if i < sn t k then rd b k i else q
theorem radd_n (b : Nat → Nat) (t : SS) (k q : Nat) : radd b t k q (sn t k) = q := if_neg (by omega)
theorem more_pre {D : va_G} {A : Nat → Prop} {g : ClassId × ClassId × ClassId} {b : Nat → Nat} {t : SS} {H : Heap} {k q : Nat} {G : Int → Int} (hk : k < 4) (h0 : 0 ≤ t.1 (2 + k)) (hP : va_P D vwCl (SW g b t) H) (hq : va_at D vwCl (q, .inl (g.1, swd k, .inl (zA G))) H) (hB : SB A b t) (hqf : ∀ j, SV t j → q ≠ b j) : va_P D vwCl ((b (1 + k), oe g (sn t k) (radd b t k q)) :: rwW g (radd b t k q) (swd k) ((sAdd t k G).2 k) (sn t k + 1)) H ∧ va_D (fun _ => True) ((b (1 + k), oe g (sn t k) (radd b t k q)) :: rwW g (radd b t k q) (swd k) ((sAdd t k G).2 k) (sn t k + 1)) := by
  have e : rfs (sn t k) (radd b t k q) = rfs (sn t k) (rd b k) := rfs_congr (fun i hi => if_pos hi)
  have ad : ∀ i : Nat, i < sn t k + 1 → (i < sn t k ∧ radd b t k q i = b (5 + 4 * i + k)) ∨ (i = sn t k ∧ radd b t k q i = q) := by
    intro i hi
    by_cases z : i < sn t k
    · left; exact ⟨z, if_pos z⟩
    · right; exact ⟨by omega, if_neg z⟩
  refine ⟨va_P_cons ?_ (va_P_of (fun x hx => ?_)), va_D_cons ⟨fun i j x y hi hj e2 => ?_, fun _ _ _ => trivial⟩ (fun i x hi => ?_) trivial⟩
  · unfold oe; rw [e]
    exact va_P_mem hP (SW_mem.mpr (Or.inr (Or.inl ⟨k, hk, rfl⟩)))
  · obtain ⟨i, hi, rfl⟩ := rwW_mem.mp hx
    rcases ad i hi with ⟨z, e2⟩ | ⟨z, e2⟩
    · rw [sAdd_row z, e2]
      exact va_P_mem hP (SW_mem.mpr (Or.inr (Or.inr ⟨k, hk, i, z, rfl⟩)))
    · subst z
      rw [sAdd_new h0, e2]
      exact hq
  · have hi0 := (List.getElem?_eq_some_iff.mp hi).1
    have hj0 := (List.getElem?_eq_some_iff.mp hj).1
    rw [rwW_len] at hi0 hj0
    rw [rwW_at hi0] at hi
    rw [rwW_at hj0] at hj
    cases hi
    cases hj
    have e2 : radd b t k q i = radd b t k q j := e2
    rcases ad i hi0 with ⟨z, e3⟩ | ⟨z, e3⟩ <;> rcases ad j hj0 with ⟨z2, e4⟩ | ⟨z2, e4⟩ <;> rw [e3, e4] at e2
    · have := hB.1 _ _ (SV_row hk z) (SV_row hk z2) e2
      omega
    · exact absurd e2.symm (hqf _ (SV_row hk z))
    · exact absurd e2 (hqf _ (SV_row hk z2))
    · omega
  · have hi0 := (List.getElem?_eq_some_iff.mp hi).1
    rw [rwW_len] at hi0
    rw [rwW_at hi0] at hi
    cases hi
    show radd b t k q i ≠ b (1 + k)
    intro e2
    rcases ad i hi0 with ⟨z, e3⟩ | ⟨z, e3⟩ <;> rw [e3] at e2
    · have := hB.1 _ _ (SV_row hk z) (SV_lo (by omega)) e2
      omega
    · exact absurd e2 (hqf _ (SV_lo (by omega)))
theorem TX5_rf : ∀ k : Nat, k < 4 → (TX5 (2 + k)).2.2.2 = false ∧ parseFieldDescriptor (TX5 (2 + k)).2.2.1 = some (.array (.array .int)) := by decide +kernel
section SRX
variable {p : Program} {l : Launch} {e : Env} {R : Room} {s : State} {m : MethodId} {args : Array Value} {below : List Frame} {meth : Method} {c : Code} {H : Heap} {locs : List Loc} {cells slots : Nat} {Q : State → Prop}
variable {cc : ByteArray} {nL pc : Nat} {own : String} {ls : Array Slot} {rest st0 : List Value} {D : va_G} {A : Nat → Prop} {g : ClassId × ClassId × ClassId} {H0 : Heap}
/-- x = more(x, row): the world with a row more -/
theorem y_addrow (k : Nat) (hk : k < 4) {PRE : va_W} {b : Nat → Nat} {t : SS} {q ix ip : Nat} {G : Int → Int} (S : CallFix p m c cc nL s args AW own) (hK : KG D g s) (hP : va_P D vwCl ([(q, .inl (g.1, swd k, .inl (zA G)))] ++ (PRE ++ SW g b t)) H) (hD : va_D A ([(q, .inl (g.1, swd k, .inl (zA G)))] ++ (PRE ++ SW g b t))) (hB : SB A b t) (hS : va_S A H0 H locs) (hA : ∀ x, H.size ≤ x → A x) (h0 : 0 ≤ t.1 (2 + k) ∧ t.1 (2 + k) ≤ 60)
    (h1 : Cond.methodLink own ix yX5_more ∈ AW) (hlink : Cond.fieldLink own ip (TX5 (2 + k)).1 (TX5 (2 + k)).2.1 (TX5 (2 + k)).2.2.1 ∈ AW) (hR : 0 + 1 ≤ R.frames ∧ 8 + (4 + 11) + 0 ≤ R.locals) (hsz : ls.size = nL) (hr : (rest.map fun v => v.category).sum + 1 ≤ 8) (hc : cells + 1 ≤ R.cells ∧ slots + 61 ≤ R.slots) (d1 : decode cc pc = .ok (.invokestatic ix, 3)) (d2 : decode cc (pc + 3) = .ok (.putfield ip, 3))
    (kk : ∀ (o : Nat) (H1 : Heap) (locs1 : List Loc), va_P D vwCl (PRE ++ SW g (bAdd b t k o q) (sAdd t k G)) H1 → va_D A (PRE ++ SW g (bAdd b t k o q) (sAdd t k G)) → SB A (bAdd b t k o q) (sAdd t k G) → va_S A H0 H1 locs1 → W p l e R s m args below meth c H1 locs1 (cells + 1) (slots + 61) Q (F0 m (pc + 6) ls rest)) :
    W p l e R s m args below meth c H locs cells slots Q (F0 m pc ls (.ref q :: .ref (b (1 + k)) :: .ref (b 0) :: rest)) := by
  have hPs := va_P_r (va_P_r hP)
  have hDr := va_D_r hD
  have hDs := va_D_r hDr
  have hq : va_at D vwCl (q, .inl (g.1, swd k, .inl (zA G))) H := hP 0 _ rfl
  have hqf : ∀ j, SV t j → q ≠ b j := fun j hj => by
    obtain ⟨x, hx, e⟩ := SV_SW g b hj
    rw [← e]
    exact va_D_ap hD (List.mem_singleton.mpr rfl) (List.mem_append_right _ hx)
  have hpre := more_pre hk h0.1 hPs hq hB hqf
  refine y_callr (As := [.ref (b (1 + k)), .ref (radd b t k q (sn t k))]) (rest := .ref (b 0) :: rest) (n := 2) S (m_X5_more l D g (b (1 + k)) (sn t k) (swd k) (radd b t k q) ((sAdd t k G).2 k) (by show (t.1 (2 + k)).toNat ≤ 60; omega) hpre.2) h1 sm_X5_more ini_X5 cd_X5_more ds_X5_more hR hK hpre.1 rfl hsz (by rw [radd_n]; rfl) (by show (Value.ref (b 0)).category + (rest.map fun v => v.category).sum ≤ 8; show 1 + _ ≤ 8; omega) hc hS hA d1 (fun o H1 locs1 ho ho1 ho2 hkp hS1 => ?_)
  -- the field
  have kept : ∀ {ws : va_W}, va_P D vwCl ws H → va_P D vwCl ws H1 := fun {ws} h => h.kept (fun i x hx => hkp x.1 ((h i x hx).lt))
  have hP1 : va_P D vwCl ((o, oe g (sn t k + 1) (radd b t k q)) :: ([(q, .inl (g.1, swd k, .inl (zA G)))] ++ (PRE ++ SW g b t))) H1 := va_P_cons ho (kept hP)
  have hD1 : va_D A ((o, oe g (sn t k + 1) (radd b t k q)) :: ([(q, .inl (g.1, swd k, .inl (zA G)))] ++ (PRE ++ SW g b t))) := va_D_cons hD (fun i x hx => by
    have := (hP i x hx).lt
    show x.1 ≠ o
    omega) (hA o ho1)
  have hpos : ((o, oe g (sn t k + 1) (radd b t k q)) :: ([(q, .inl (g.1, swd k, .inl (zA G)))] ++ (PRE ++ SW g b t)))[2 + (PRE.length + 0)]? = some (SO b t) := c2_at.trans (show (PRE ++ SW g b t)[PRE.length + 0]? = some (SO b t) from (ap_at1 rfl).trans rfl)
  have hof : ∀ j, SV t j → o ≠ b j := fun j hj => by
    obtain ⟨x, hx, e⟩ := SV_SW g b hj
    rw [← e]
    exact va_D_ne hD1 (List.mem_append_right _ (List.mem_append_right _ hx))
  have hoq : o ≠ q := va_D_ne hD1 (List.mem_append_left _ (List.mem_singleton.mpr rfl))
  refine y_putr S hK hP1 hD1 hS1 (2 + (PRE.length + 0)) hpos (2 + k) (by omega) hlink (TX5_rf k hk).1 (TX5_rf k hk).2 (by show 2 + k < 6; omega) d2 (fun H2 locs2 hP2 hD2 hS2 => ?_)
  have hBn : SB A (bAdd b t k o q) (sAdd t k G) := SB_add hk h0.1 hB hoq hof hqf (hA o ho1) (va_D_hd (x := (q, .inl (g.1, swd k, .inl (zA G)))) hD)
  -- every cell but the field's own is as it was
  have mem2 : ∀ x : Nat × va_E, x ∈ ((o, oe g (sn t k + 1) (radd b t k q)) :: ([(q, .inl (g.1, swd k, .inl (zA G)))] ++ (PRE ++ SW g b t))) → x.1 ≠ b 0 → va_at D vwCl x H2 := fun x hx hne => by
    obtain ⟨i, hi⟩ := List.getElem?_of_mem hx
    refine hP2 i x ?_
    rw [List.getElem?_set_ne (fun z => ?_)]
    · exact hi
    · rw [← z, hpos] at hi
      exact hne (by rw [← Option.some.inj hi])
  have hObj : va_at D vwCl (b 0, .inr (5, [Value.int (zI (t.1 0)), .int (zI (t.1 1)), .ref (b 1), .ref (b 2), .ref (b 3), .ref (b 4)].set (2 + k) (.ref o))) H2 := by
    refine hP2 (2 + (PRE.length + 0)) _ ?_
    rw [List.getElem?_set_self (List.getElem?_eq_some_iff.mp hpos).1]
  have hb0 : bAdd b t k o q 0 = b 0 := by rw [bAdd, if_neg (by omega), if_neg (by omega)]
  have hPn : va_P D vwCl (SW g (bAdd b t k o q) (sAdd t k G)) H2 := by
    refine SW_add hk h0.1 (fun x hx hne => mem2 x (List.mem_cons_of_mem _ (List.mem_append_right _ (List.mem_append_right _ hx))) hne) (fun j hj hj0 e => hj0 (hB.1 _ _ hj (SV_lo (by omega)) e)) ?_ (mem2 _ (List.mem_cons_self) (hof 0 (SV_lo (by omega)))) (mem2 _ (List.mem_cons_of_mem _ (List.mem_append_left _ (List.mem_singleton.mpr rfl))) (hqf 0 (SV_lo (by omega))))
    have hbb : ∀ j, j < 5 → j ≠ 1 + k → bAdd b t k o q j = b j := fun j h1 h2 => by rw [bAdd, if_neg h2, if_neg (by omega)]
    have hbk : bAdd b t k o q (1 + k) = o := if_pos rfl
    unfold SO
    rw [hb0, sAdd_n' (by omega : 0 ≠ 2 + k), sAdd_n' (by omega : 1 ≠ 2 + k)]
    rcases (show k = 0 ∨ k = 1 ∨ k = 2 ∨ k = 3 by omega) with z | z | z | z <;> subst z
    · rw [hbk, hbb 2 (by omega) (by omega), hbb 3 (by omega) (by omega), hbb 4 (by omega) (by omega)]; exact hObj
    · rw [hbb 1 (by omega) (by omega), hbk, hbb 3 (by omega) (by omega), hbb 4 (by omega) (by omega)]; exact hObj
    · rw [hbb 1 (by omega) (by omega), hbb 2 (by omega) (by omega), hbk, hbb 4 (by omega) (by omega)]; exact hObj
    · rw [hbb 1 (by omega) (by omega), hbb 2 (by omega) (by omega), hbb 3 (by omega) (by omega), hbk]; exact hObj
  have hdis : ∀ x ∈ PRE, ∀ y ∈ SW g (bAdd b t k o q) (sAdd t k G), x.1 ≠ y.1 := fun x hx y hy => by
    obtain ⟨j, hj, e⟩ := SW_SV hy
    rw [e]
    have hxo : o ≠ x.1 := va_D_ne hD1 (List.mem_append_right _ (List.mem_append_left _ hx))
    have hxq : q ≠ x.1 := va_D_ap (x := (q, .inl (g.1, swd k, .inl (zA G)))) hD (List.mem_singleton.mpr rfl) (List.mem_append_left _ hx)
    rcases SV_add h0.1 hj with hj | hj
    · by_cases z1 : j = 1 + k
      · rw [z1, show bAdd b t k o q (1 + k) = o from if_pos rfl]; exact fun z => hxo z.symm
      · by_cases z2 : j = 5 + 4 * sn t k + k
        · exact absurd (z2 ▸ hj) (SV_new hk)
        · rw [bAdd, if_neg z1, if_neg z2]
          obtain ⟨y2, hy2, e2⟩ := SV_SW g b hj
          rw [← e2]
          exact va_D_ap hDr hx hy2
    · rw [hj, bAdd, if_neg (by omega), if_pos rfl]; exact fun z => hxq z.symm
  refine kk o H2 locs2 (va_P.app (va_P_of (fun x hx => mem2 x (List.mem_cons_of_mem _ (List.mem_append_right _ (List.mem_append_left _ hx))) (fun z => ?_))) hPn) (va_D_of (va_D_l hDr) (hBn.D g) hdis) hBn hS2
  obtain ⟨y2, hy2, e2⟩ := SV_SW g b (SV_lo (t := t) (show 0 < 5 by omega))
  exact va_D_ap hDr hx hy2 (z.trans e2.symm)
/-- a loop whose world and whose room grow with the count; u: what else changes -/
theorem y_for {σ : Type} {head : Nat} (N : Nat) (sd : σ → State) (f : Nat → σ → List (Nat × Value)) (wd : Nat → σ → va_W) (cf sf : Nat → Nat) (J : Nat → σ → Prop)
    (step : ∀ k : Nat, k < N → ∀ u : σ, J k u → ∀ (H : Heap) (locs : List Loc), va_P D vwCl (wd k u) H → va_D A (wd k u) → va_S A H0 H locs → ∀ ls : Array Slot, lv_has ls nL (f k u) → (∀ u' : σ, J (k + 1) u' → ∀ (H' : Heap) (locs' : List Loc), va_P D vwCl (wd (k + 1) u') H' → va_D A (wd (k + 1) u') → va_S A H0 H' locs' → ∀ ls' : Array Slot, lv_has ls' nL (f (k + 1) u') → W p l e R (sd u') m args below meth c H' locs' (cf (k + 1)) (sf (k + 1)) Q (F0 m head ls' [])) → W p l e R (sd u) m args below meth c H locs (cf k) (sf k) Q (F0 m head ls []))
    (done : ∀ u : σ, J N u → ∀ (H : Heap) (locs : List Loc), va_P D vwCl (wd N u) H → va_D A (wd N u) → va_S A H0 H locs → ∀ ls : Array Slot, lv_has ls nL (f N u) → W p l e R (sd u) m args below meth c H locs (cf N) (sf N) Q (F0 m head ls []))
    (k0 : Nat) (hk : k0 ≤ N) (u : σ) (hJ : J k0 u) (H : Heap) (locs : List Loc) (hP : va_P D vwCl (wd k0 u) H) (hD : va_D A (wd k0 u)) (hS : va_S A H0 H locs) (ls : Array Slot) (h : lv_has ls nL (f k0 u)) : W p l e R (sd u) m args below meth c H locs (cf k0) (sf k0) Q (F0 m head ls []) := by
  have G : ∀ n k : Nat, k + n = N → ∀ u : σ, J k u → ∀ (H : Heap) (locs : List Loc), va_P D vwCl (wd k u) H → va_D A (wd k u) → va_S A H0 H locs → ∀ ls : Array Slot, lv_has ls nL (f k u) → W p l e R (sd u) m args below meth c H locs (cf k) (sf k) Q (F0 m head ls []) := by
    intro n
    induction n with
    | zero => intro k hk u hJ H locs hP hD hS ls h; obtain rfl : k = N := by omega
              exact done u hJ H locs hP hD hS ls h
    | succ n ih => intro k hk u hJ H locs hP hD hS ls h; exact step k (by omega) u hJ H locs hP hD hS ls h (fun u' hJ' H' locs' hP' hD' hS' ls' h' => ih (k + 1) (by omega) u' hJ' H' locs' hP' hD' hS' ls' h')
  exact G (N - k0) k0 (by omega) u hJ H locs hP hD hS ls h
end SRX
