/-! THE LAW'S OWN FIELD ('Sim'): its state, its world, rows over arrays of arrays.
A state: numbers 0 mark, 1 field, 2 veins, 3 dowsers, 4 pegs, 5 pits; rows of kind 0 veins (7 wide), 1 dowsers (5), 2 pegs (3), 3 pits (9). -/
abbrev SS : Type := (Nat → Int) × (Nat → Int → Int → Int)
def tS (t : SS) (k : Nat) (v : Int) : SS := (fun j => bif Nat.beq j k then v else t.1 j, t.2)
def tR (t : SS) (k : Nat) (F : Int → Int → Int) : SS := (t.1, fun j => bif Nat.beq j k then F else t.2 j)
/-- row i's place f becomes v -/
def up2 (F : Int → Int → Int) (i f v : Int) : Int → Int → Int := fun i' => if i' = i then upZ (F i) f v else F i'
/-- the first n places hold the references r 0, .. -/
def rfs (n : Nat) (r : Nat → Nat) : Nat → Option Nat := fun j => if j < n then some (r j) else none
/-- the rows of a kind: n rows of width w -/
def rwW (g : ClassId × ClassId × ClassId) (r : Nat → Nat) (w : Nat) (F : Int → Int → Int) (n : Nat) : va_W := (List.range n).map (fun i => (r i, .inl (g.1, w, .inl (zA (F (i : Int))))))
abbrev oe (g : ClassId × ClassId × ClassId) (n : Nat) (r : Nat → Nat) : va_E := .inl (g.2.2, n, .inr (.inr (.inr (.inr (rfs n r)))))
/-- where row i of kind k lies -/
def rd (b : Nat → Nat) (k : Nat) : Nat → Nat := fun i => b (5 + 4 * i + k)
abbrev sn (t : SS) (k : Nat) : Nat := (t.1 (2 + k)).toNat
def SW (g : ClassId × ClassId × ClassId) (b : Nat → Nat) (t : SS) : va_W := [
  (b 0, .inr (5, [.int (zI (t.1 0)), .int (zI (t.1 1)), .ref (b 1), .ref (b 2), .ref (b 3), .ref (b 4)])),
  (b 1, oe g (sn t 0) (rd b 0)), (b 2, oe g (sn t 1) (rd b 1)), (b 3, oe g (sn t 2) (rd b 2)), (b 4, oe g (sn t 3) (rd b 3))] ++
  (rwW g (rd b 0) 7 (t.2 0) (sn t 0) ++ (rwW g (rd b 1) 5 (t.2 1) (sn t 1) ++ (rwW g (rd b 2) 3 (t.2 2) (sn t 2) ++ rwW g (rd b 3) 9 (t.2 3) (sn t 3))))
theorem rwW_len (g : ClassId × ClassId × ClassId) (r : Nat → Nat) (w : Nat) (F : Int → Int → Int) (n : Nat) : (rwW g r w F n).length = n := by simp [rwW]
theorem rwW_at {g : ClassId × ClassId × ClassId} {r : Nat → Nat} {w : Nat} {F : Int → Int → Int} {n i : Nat} (h : i < n) : (rwW g r w F n)[i]? = some (r i, .inl (g.1, w, .inl (zA (F (i : Int))))) := by
  unfold rwW
  rw [List.getElem?_map, List.getElem?_range h]
  rfl
theorem rwW_set {g : ClassId × ClassId × ClassId} {r : Nat → Nat} {w : Nat} {F : Int → Int → Int} {n i : Nat} {f v : Int} : (rwW g r w F n).set i (r i, .inl (g.1, w, .inl (zA (upZ (F (i : Int)) f v)))) = rwW g r w (up2 F (i : Int) f v) n := by
  apply List.ext_getElem?
  intro j
  by_cases hj : j < n
  · rw [rwW_at hj, List.getElem?_set]
    by_cases e : i = j
    · subst e
      rw [if_pos rfl, if_pos (by rw [rwW_len]; exact hj)]
      simp [up2]
    · rw [if_neg e, rwW_at hj]
      simp [up2, show ¬ (j : Int) = (i : Int) by omega]
  · rw [List.getElem?_eq_none (by rw [List.length_set, rwW_len]; omega), List.getElem?_eq_none (by rw [rwW_len]; omega)]
theorem rwW_add (g : ClassId × ClassId × ClassId) (r : Nat → Nat) (w : Nat) (F : Int → Int → Int) (n : Nat) : rwW g r w F (n + 1) = rwW g r w F n ++ [(r n, .inl (g.1, w, .inl (zA (F (n : Int)))))] := by
  unfold rwW
  rw [List.range_succ, List.map_append]
  rfl
theorem rwW_congr {g : ClassId × ClassId × ClassId} {r r' : Nat → Nat} {w : Nat} {F F' : Int → Int → Int} {n : Nat} (h : ∀ i : Nat, i < n → r i = r' i ∧ F (i : Int) = F' (i : Int)) : rwW g r w F n = rwW g r' w F' n := by
  unfold rwW
  apply List.map_congr_left
  intro i hi
  have := h i (List.mem_range.mp hi)
  rw [this.1, this.2]
theorem rfs_congr {n : Nat} {r r' : Nat → Nat} (h : ∀ i : Nat, i < n → r i = r' i) : rfs n r = rfs n r' := by
  funext j
  unfold rfs
  by_cases q : j < n
  · rw [if_pos q, if_pos q, h j q]
  · rw [if_neg q, if_neg q]
theorem rfs_up (n : Nat) (r : Nat → Nat) : va_up (rfs n r) n (some (r n)) = rfs (n + 1) r := by
  funext j
  unfold va_up rfs
  by_cases q : j = n
  · subst q; rw [if_pos rfl, if_pos (by omega)]
  · rw [if_neg q]
    by_cases q2 : j < n
    · rw [if_pos q2, if_pos (by omega)]
    · rw [if_neg q2, if_neg (by omega)]
theorem ap_at1 {α : Type} {a b : List α} {n i : Nat} (h : a.length = n) : (a ++ b)[n + i]? = b[i]? := by
  subst h
  rw [List.getElem?_append_right (Nat.le_add_right _ _), Nat.add_sub_cancel_left]
theorem ap_set1 {α : Type} {a b : List α} {n i : Nat} {x : α} (h : a.length = n) : (a ++ b).set (n + i) x = a ++ b.set i x := by
  subst h
  rw [List.set_append_right _ _ (Nat.le_add_right _ _), Nat.add_sub_cancel_left]
theorem ap_at0 {α : Type} {a b : List α} {i : Nat} (h : i < a.length) : (a ++ b)[i]? = a[i]? := List.getElem?_append_left h
theorem ap_set0 {α : Type} {a b : List α} {i : Nat} {x : α} (h : i < a.length) : (a ++ b).set i x = a.set i x ++ b := List.set_append_left _ _ h
section SWl
variable {g : ClassId × ClassId × ClassId} {b : Nat → Nat} {t : SS} {i : Int}
theorem SW_r0 (h : 0 ≤ i ∧ i < t.1 2) : (SW g b t)[5 + i.toNat]? = some (rd b 0 i.toNat, .inl (g.1, 7, .inl (zA (t.2 0 i)))) := by
  have hi : ((i.toNat : Nat) : Int) = i := by omega
  have hl : i.toNat < sn t 0 := by show _ < (t.1 2).toNat; omega
  unfold SW
  rw [ap_at1 (n := 5) rfl, ap_at0 (by rw [rwW_len]; exact hl), rwW_at hl, hi]
theorem SW_r1 (h : 0 ≤ i ∧ i < t.1 3) : (SW g b t)[5 + (sn t 0 + i.toNat)]? = some (rd b 1 i.toNat, .inl (g.1, 5, .inl (zA (t.2 1 i)))) := by
  have hi : ((i.toNat : Nat) : Int) = i := by omega
  have hl : i.toNat < sn t 1 := by show _ < (t.1 3).toNat; omega
  unfold SW
  rw [ap_at1 (n := 5) rfl, ap_at1 (rwW_len _ _ _ _ _), ap_at0 (by rw [rwW_len]; exact hl), rwW_at hl, hi]
theorem SW_r2 (h : 0 ≤ i ∧ i < t.1 4) : (SW g b t)[5 + (sn t 0 + (sn t 1 + i.toNat))]? = some (rd b 2 i.toNat, .inl (g.1, 3, .inl (zA (t.2 2 i)))) := by
  have hi : ((i.toNat : Nat) : Int) = i := by omega
  have hl : i.toNat < sn t 2 := by show _ < (t.1 4).toNat; omega
  unfold SW
  rw [ap_at1 (n := 5) rfl, ap_at1 (rwW_len _ _ _ _ _), ap_at1 (rwW_len _ _ _ _ _), ap_at0 (by rw [rwW_len]; exact hl), rwW_at hl, hi]
theorem SW_r3 (h : 0 ≤ i ∧ i < t.1 5) : (SW g b t)[5 + (sn t 0 + (sn t 1 + (sn t 2 + i.toNat)))]? = some (rd b 3 i.toNat, .inl (g.1, 9, .inl (zA (t.2 3 i)))) := by
  have hi : ((i.toNat : Nat) : Int) = i := by omega
  have hl : i.toNat < sn t 3 := by show _ < (t.1 5).toNat; omega
  unfold SW
  rw [ap_at1 (n := 5) rfl, ap_at1 (rwW_len _ _ _ _ _), ap_at1 (rwW_len _ _ _ _ _), ap_at1 (rwW_len _ _ _ _ _), rwW_at hl, hi]
theorem SW_s1 (h : 0 ≤ i ∧ i < t.1 3) {f v : Int} : (SW g b t).set (5 + (sn t 0 + i.toNat)) (rd b 1 i.toNat, .inl (g.1, 5, .inl (zA (upZ (t.2 1 i) f v)))) = SW g b (tR t 1 (up2 (t.2 1) i f v)) := by
  have hi : ((i.toNat : Nat) : Int) = i := by omega
  have hl : i.toNat < sn t 1 := by show _ < (t.1 3).toNat; omega
  unfold SW
  rw [ap_set1 (n := 5) rfl, ap_set1 (rwW_len _ _ _ _ _), ap_set0 (by rw [rwW_len]; exact hl)]
  have e := rwW_set (g := g) (r := rd b 1) (w := 5) (F := t.2 1) (n := sn t 1) (i := i.toNat) (f := f) (v := v)
  rw [hi] at e
  rw [e]
  rfl
theorem SW_s3 (h : 0 ≤ i ∧ i < t.1 5) {f v : Int} : (SW g b t).set (5 + (sn t 0 + (sn t 1 + (sn t 2 + i.toNat)))) (rd b 3 i.toNat, .inl (g.1, 9, .inl (zA (upZ (t.2 3 i) f v)))) = SW g b (tR t 3 (up2 (t.2 3) i f v)) := by
  have hi : ((i.toNat : Nat) : Int) = i := by omega
  unfold SW
  rw [ap_set1 (n := 5) rfl, ap_set1 (rwW_len _ _ _ _ _), ap_set1 (rwW_len _ _ _ _ _), ap_set1 (rwW_len _ _ _ _ _)]
  have e := rwW_set (g := g) (r := rd b 3) (w := 9) (F := t.2 3) (n := sn t 3) (i := i.toNat) (f := f) (v := v)
  rw [hi] at e
  rw [e]
  rfl
end SWl
theorem va_P_cons {D : va_G} {cl : List vw_C} {x : Nat × va_E} {ws : va_W} {H : Heap} (hx : va_at D cl x H) (h : va_P D cl ws H) : va_P D cl (x :: ws) H := fun k q hk => by
  cases k with
  | zero => cases hk; exact hx
  | succ k => exact h k q hk
theorem va_P_tl {D : va_G} {cl : List vw_C} {x : Nat × va_E} {ws : va_W} {H : Heap} (h : va_P D cl (x :: ws) H) : va_P D cl ws H := fun k q hk => h (k + 1) q hk
theorem va_P_mem {D : va_G} {cl : List vw_C} {x : Nat × va_E} {ws : va_W} {H : Heap} (h : va_P D cl ws H) (hx : x ∈ ws) : va_at D cl x H := by
  obtain ⟨k, hk⟩ := List.getElem?_of_mem hx
  exact h k x hk
theorem va_P_of {D : va_G} {cl : List vw_C} {ws : va_W} {H : Heap} (h : ∀ x ∈ ws, va_at D cl x H) : va_P D cl ws H := fun _ q hk => h q (List.mem_of_getElem? hk)
theorem va_D_cons {A : Nat → Prop} {x : Nat × va_E} {ws : va_W} (hD : va_D A ws) (hx : ∀ (k : Nat) (q : Nat × va_E), ws[k]? = some q → q.1 ≠ x.1) (hA : A x.1) : va_D A (x :: ws) := by
  refine ⟨fun i j p q hi hj e => ?_, fun k q hk => ?_⟩
  · cases i with
    | zero =>
      cases hi
      cases j with
      | zero => rfl
      | succ j => exact absurd e.symm (hx j q hj)
    | succ i =>
      cases j with
      | zero => cases hj; exact absurd e (hx i p hi)
      | succ j => rw [hD.1 i j p q hi hj e]
  · cases k with
    | zero => cases hk; exact hA
    | succ k => exact hD.2 k q hk
theorem va_D_tl {A : Nat → Prop} {x : Nat × va_E} {ws : va_W} (h : va_D A (x :: ws)) : va_D A ws := ⟨fun i j p q hi hj e => Nat.succ.inj (h.1 (i + 1) (j + 1) p q hi hj e), fun k q hk => h.2 (k + 1) q hk⟩
theorem va_D_ne {A : Nat → Prop} {x y : Nat × va_E} {ws : va_W} (h : va_D A (x :: ws)) (hy : y ∈ ws) : x.1 ≠ y.1 := by
  obtain ⟨k, hk⟩ := List.getElem?_of_mem hy
  intro e
  have := h.1 0 (k + 1) x y rfl hk e
  omega
theorem va_D_hd {A : Nat → Prop} {x : Nat × va_E} {ws : va_W} (h : va_D A (x :: ws)) : A x.1 := h.2 0 x rfl
theorem va_D_fst {A : Nat → Prop} {ws ws' : va_W} (h : va_D A ws) (e : ws'.map Prod.fst = ws.map Prod.fst) : va_D A ws' := by
  have key : ∀ (k : Nat) (q : Nat × va_E), ws'[k]? = some q → ∃ q2, ws[k]? = some q2 ∧ q2.1 = q.1 := by
    intro k q hk
    have h1 : (ws'.map Prod.fst)[k]? = some q.1 := by rw [List.getElem?_map, hk]; rfl
    rw [e, List.getElem?_map] at h1
    cases hw : ws[k]? with
    | none => rw [hw] at h1; cases h1
    | some q2 => rw [hw] at h1; exact ⟨q2, rfl, Option.some.inj h1⟩
  refine ⟨fun i j p q hi hj e => ?_, fun k q hk => ?_⟩
  · obtain ⟨p2, h1, h2⟩ := key i p hi
    obtain ⟨q2, h3, h4⟩ := key j q hj
    exact h.1 i j p2 q2 h1 h3 (by rw [h2, h4]; exact e)
  · obtain ⟨q2, h1, h2⟩ := key k q hk
    rw [← h2]; exact h.2 k q2 h1
section ZA2
variable {p : Program} {l : Launch} {e : Env} {R : Room} {s : State} {m : MethodId} {args : Array Value} {below : List Frame} {meth : Method} {c : Code} {H : Heap} {locs : List Loc} {cells slots : Nat} {Q : State → Prop}
variable {cc : ByteArray} {nL pc : Nat} {own : String} {ls : Array Slot} {rest st0 : List Value} {D : va_G} {A : Nat → Prop} {a0 : Nat} {g : ClassId × ClassId × ClassId} {ws wc wc' : va_W} {H0 : Heap}
theorem KG.arr (hK : KG D g s) (N : Nat) (f : Nat → Option Nat) : s.isArrayOf (vp_cell g.2.2 (N, .inr (.inr (.inr (.inr f))))) (.array .int) := by
  rw [vp_cell_q]
  exact (hK.1.2 2 _ rfl).1 N (fun j => va_rf (f j))
/-- a row of an array of arrays is loaded -/
theorem y_ald2 (S : CallFix p m c cc nL s args AW own) (hK : KG D g s) (hP : va_P D vwCl ws H) (q0 : Nat) {n k : Nat} {r : Nat → Nat} (ha : ws[q0]? = some (a0, .inl (g.2.2, n, .inr (.inr (.inr (.inr (rfs k r))))))) (hkn : k ≤ n) {i : Int} (hn : n < 2147483648) (hi : 0 ≤ i ∧ i < (k : Int)) (hdg : decode cc pc = .ok (.aaload, 1))
    (kk : W p l e R s m args below meth c H locs cells slots Q (F0 m (pc + 1) ls (.ref (r i.toNat) :: rest))) : W p l e R s m args below meth c H locs cells slots Q (F0 m pc ls (.int (zI i) :: .ref a0 :: rest)) := by
  have hin : vp_in (zI i) n := zI_in (n := n) (by omega) hn
  have hc := zI_clamp (z := i) (by omega)
  have hlt : (zI i).toNatClampNeg < n := Nat.not_le.mp fun q => hin (Or.inr q)
  have hv : (rfs k r) (zI i).toNatClampNeg = some (r i.toNat) := by
    rw [show (zI i).toNatClampNeg = i.toNat by omega]
    exact if_pos (by omega)
  refine W.aald (v := .ref (r i.toNat)) (ty := .array .int) S.1 S.2.1 (hP q0 _ ha) (hK.arr n _) rfl (fun q => by cases q) ?_ ?_ rfl rfl hdg kk
  · show ¬ (zI i < 0 ∨ (arrV _ _ _).slots.size ≤ _)
    rw [arrV_size]
    exact hin
  · show (arrV _ _ _).slots[_]? = _
    rw [arrV_read _ _ hlt, hv]
    rfl
theorem y_alen (S : CallFix p m c cc nL s args AW own) (hK : KG D g s) (hP : va_P D vwCl ws H) (q0 : Nat) {x : vp_A} (ha : ws[q0]? = some (a0, .inl (g.2.2, x))) {v : Int} (hv : (x.1 : Int) = v) (hdg : decode cc pc = .ok (.arraylength, 1))
    (kk : W p l e R s m args below meth c H locs cells slots Q (F0 m (pc + 1) ls (.int (zI v) :: rest))) : W p l e R s m args below meth c H locs cells slots Q (F0 m pc ls (.ref a0 :: rest)) :=
  va_alen S.1 S.2.1 hK.1 hP q0 2 ha rfl (v := zI v) (by rw [← hv]; exact zI_nI x.1) hdg kk
/-- a row is put into an array of arrays -/
theorem y_ast2 {B : Nat → Prop} (S : CallFix p m c cc nL s args AW own) (hK : KG D g s) (hP : va_P D vwCl ws H) (hD : va_D B ws) (hAa : A a0) (hS : va_S A H0 H locs) (q0 q1 : Nat) {n k v : Nat} {x : vp_A} {r : Nat → Nat} (ha : ws[q0]? = some (a0, .inl (g.2.2, n, .inr (.inr (.inr (.inr (rfs k r))))))) (hv : ws[q1]? = some (v, .inl (g.1, x))) (hr : v = r k) {i : Int} (hik : i = (k : Int)) (hkn : k < n) (hn : n < 2147483648) (hdg : decode cc pc = .ok (.aastore, 1))
    (kk : ∀ (H1 : Heap) (locs1 : List Loc), va_P D vwCl (ws.set q0 (a0, .inl (g.2.2, n, .inr (.inr (.inr (.inr (rfs (k + 1) r))))))) H1 → va_S A H0 H1 locs1 → W p l e R s m args below meth c H1 locs1 cells slots Q (F0 m (pc + 1) ls rest)) : W p l e R s m args below meth c H locs cells slots Q (F0 m pc ls (.ref v :: .int (zI i) :: .ref a0 :: rest)) := by
  subst hik
  have hin : vp_in (zI (k : Int)) n := zI_in (n := n) (by omega) hn
  have hc := zI_clamp (z := (k : Int)) (by omega)
  have hck : (zI (k : Int)).toNatClampNeg = k := by omega
  have hlt : (zI (k : Int)).toNatClampNeg < n := by omega
  have h0 : ¬ zI (k : Int) < 0 := fun q => hin (Or.inl q)
  obtain ⟨comp, cA, kA, e1, -, e2, e3, e4⟩ := arrayOverA_spec (va_AOA.use (A := args) hK.2.2)
  have hcA : cA = g.2.2 := Option.some.inj (e4.symm.trans (hK.1.2 2 _ rfl).2)
  have hco : comp = g.1 := Option.some.inj (e1.symm.trans (hK.1.2 0 _ rfl).2)
  subst hco
  subst hcA
  obtain ⟨kC, hkC, -⟩ := Vm.findClass_spec e1
  obtain ⟨N, f | f | f | f | f⟩ := x
  all_goals
    refine W.aast S.1 S.2.1 (hP q0 _ ha) (fun q h => by cases h) (fun h => by cases h) e2 e3 rfl hkC ⟨h0, by show _ < (arrV _ _ _).slots.size; rw [arrV_size]; exact hlt⟩ (hP q1 _ hv) (fun q h => by cases h) hkC (va_asg _ _) rfl rfl hdg fun H1 e z oq => ?_
    refine kk H1 _ (hP.set hD ha ?_ oq) (hS.put z oq hAa)
    show H1[a0]? = some (vp_cell _ _)
    rw [e, ← rfs_up k r, ← hr, vp_cell_q, vp_cell_q, arrV_store, hck]
    congr 2
    funext q
    by_cases hq : q = k
    · subst hq
      simp [updV, va_up, va_rf]
    · simp [updV, va_up, hq]
/-- a new array of arrays -/
theorem y_new2 {B : Nat → Prop} (S : CallFix p m c cc nL s args AW own) {index : Nat} (hcl : Cond.classLink own index "[I" ∈ AW) (hK : KG D g s) (hP : va_P D vwCl ws H) (hD : va_D B ws) (hS : va_S A H0 H locs) (hB : ∀ q, H.size ≤ q → B q) {z : Int} (r : Nat → Nat) (hz : 0 ≤ z ∧ z ≤ 100000) (hcells : cells + 1 ≤ R.cells) (hslots : slots + z.toNat ≤ R.slots) (hdg : decode cc pc = .ok (.anewarray index, 3))
    (kk : ∀ (q : Nat) (H1 : Heap), H.size ≤ q → (∀ x : Nat, x < H.size → H1[x]? = H[x]?) → va_P D vwCl ((q, .inl (g.2.2, z.toNat, .inr (.inr (.inr (.inr (rfs 0 r)))))) :: ws) H1 → va_D B ((q, .inl (g.2.2, z.toNat, .inr (.inr (.inr (.inr (rfs 0 r)))))) :: ws) → va_S A H0 H1 locs → W p l e R s m args below meth c H1 locs (cells + 1) (slots + z.toNat) Q (F0 m (pc + 3) ls (.ref q :: rest))) : W p l e R s m args below meth c H locs cells slots Q (F0 m pc ls (.int (zI z) :: rest)) := by
  have hc := zI_clamp (z := z) (by omega)
  have hN : (zI z).toNatClampNeg = z.toNat := by omega
  refine W.anewA (t := .int) S.1 S.2.1 S.2.2.2.1 (S.2.2.2.2 _ hcl) (va_AOA.use hK.2.2) rfl hdg rfl (zI_nneg hz) (by omega) hcells (by omega) fun cA kA comp f1 f2 f3 f4 => ?_
  have hcA : cA = g.2.2 := Option.some.inj (f1.symm.trans (hK.1.2 2 _ rfl).2)
  subst hcA
  rw [hN]
  generalize hH1 : H.push ({ cls := g.2.2, slots := Array.replicate z.toNat .null, vm := .none } : Cell) = H1
  have z1 : H1.size = H.size + 1 := by rw [← hH1, Array.size_push]
  have e1 : H1[H.size]? = some (vp_cell g.2.2 (z.toNat, .inr (.inr (.inr (.inr (rfs 0 r)))))) := by
    rw [← hH1, Array.getElem?_push_size, vp_cell_q, arrV_new]
    congr 2
  have o1 : ∀ q : Nat, q < H.size → H1[q]? = H[q]? := fun q hq => by rw [← hH1, Array.getElem?_push, if_neg (Nat.ne_of_lt hq)]
  have hk : ∀ (k : Nat) (x : Nat × va_E), ws[k]? = some x → H1[x.1]? = H[x.1]? := fun k x hx => o1 x.1 ((hP k x hx).lt)
  exact kk H.size H1 (Nat.le_refl _) o1 (va_P_cons e1 (hP.kept hk)) (va_D_cons hD (fun k x hx => Nat.ne_of_lt ((hP k x hx).lt)) (hB _ (Nat.le_refl _))) ⟨Nat.le_trans hS.1 (by omega), fun x h1 h2 => (o1 x (Nat.lt_of_lt_of_le h1 hS.1)).trans (hS.2.1 x h1 h2), hS.2.2⟩
/-- a new row -/
theorem y_newi {B : Nat → Prop} (S : CallFix p m c cc nL s args AW own) (hK : KG D g s) (hP : va_P D vwCl ws H) (hD : va_D B ws) (hS : va_S A H0 H locs) (hB : ∀ q, H.size ≤ q → B q) (N : Nat) (hN : N ≤ 100000) (hcells : cells + 1 ≤ R.cells) (hslots : slots + N ≤ R.slots) (hdg : decode cc pc = .ok (.newarray .int, 2))
    (kk : ∀ (q : Nat) (H1 : Heap), H.size ≤ q → (∀ x : Nat, x < H.size → H1[x]? = H[x]?) → va_P D vwCl ((q, .inl (g.1, N, .inl (zA (fun _ => 0)))) :: ws) H1 → va_D B ((q, .inl (g.1, N, .inl (zA (fun _ => 0)))) :: ws) → va_S A H0 H1 locs → W p l e R s m args below meth c H1 locs (cells + 1) (slots + N) Q (F0 m (pc + 2) ls (.ref q :: rest))) : W p l e R s m args below meth c H locs cells slots Q (F0 m pc ls (.int (zI (N : Int)) :: rest)) := by
  refine va_newaK S.1 S.2.1 (atype := .int) (S.2.2.2.2 _ ac_int) rfl hdg rfl (zI_nneg (by omega)) (zI_clampN hN) (by show N * 4 ≤ _; omega) hcells hslots rfl fun H1 cA e1 z1 o1 hAr hNm => ?_
  have hcA : cA = g.1 := Option.some.inj (hNm.symm.trans (hK.1.2 0 _ rfl).2)
  subst hcA
  have hk : ∀ (k : Nat) (x : Nat × va_E), ws[k]? = some x → H1[x.1]? = H[x.1]? := fun k x hx => o1 x.1 ((hP k x hx).lt)
  exact kk H.size H1 (Nat.le_refl _) o1 (va_P_cons e1 (hP.kept hk)) (va_D_cons hD (fun k x hx => Nat.ne_of_lt ((hP k x hx).lt)) (hB _ (Nat.le_refl _))) ⟨Nat.le_trans hS.1 (by omega), fun x h1 h2 => (o1 x (Nat.lt_of_lt_of_le h1 hS.1)).trans (hS.2.1 x h1 h2), hS.2.2⟩
/-- a whole number is put into a row; the cells stay apart -/
theorem y_iast (S : CallFix p m c cc nL s args AW own) (hK : KG D g s) (hP : va_P D vwCl ws H) (hD : va_D A ws) (hS : va_S A H0 H locs) (q0 : Nat) {n : Nat} {F : Int → Int} (ha : ws[q0]? = some (a0, .inl (g.1, n, .inl (zA F)))) {i v : Int} (hn : n < 2147483648) (hi : 0 ≤ i ∧ i < (n : Int)) (hdg : decode cc pc = .ok (.iastore, 1))
    (kk : ∀ (H1 : Heap) (locs1 : List Loc), va_P D vwCl (ws.set q0 (a0, .inl (g.1, n, .inl (zA (upZ F i v))))) H1 → va_D A (ws.set q0 (a0, .inl (g.1, n, .inl (zA (upZ F i v))))) → va_S A H0 H1 locs1 → W p l e R s m args below meth c H1 locs1 cells slots Q (F0 m (pc + 1) ls rest)) : W p l e R s m args below meth c H locs cells slots Q (F0 m pc ls (.int (zI v) :: .int (zI i) :: .ref a0 :: rest)) := va_iast S.1 S.2.1 hK.1 hP hD hS q0 0 ha rfl (zI_in hi hn) hdg (fun H1 locs1 h1 h2 h3 => kk H1 locs1 (by rw [zA_up (by omega)] at h1; exact h1) (by rw [zA_up (by omega)] at h2; exact h2) h3)
/-- a reference is put into a field of the law's own field -/
theorem y_putr (S : CallFix p m c cc nL s args AW own) (hK : KG D g s) (hP : va_P D vwCl ws H) (hD : va_D A ws) (hS : va_S A H0 H locs) (q0 : Nat) {fs : List Value} (he : ws[q0]? = some (a0, .inr (5, fs))) (k : Nat) (hk : k < 6) {index : Nat} (hlink : Cond.fieldLink own index (TX5 k).1 (TX5 k).2.1 (TX5 k).2.2.1 ∈ AW) (hfin : (TX5 k).2.2.2 = false) {v : Nat} (hd : parseFieldDescriptor (TX5 k).2.2.1 = some (.array (.array .int))) (hl : k < fs.length) (hdg : decode cc pc = .ok (.putfield index, 3))
    (kk : ∀ (H1 : Heap) (locs1 : List Loc), va_P D vwCl (ws.set q0 (a0, .inr (5, fs.set k (.ref v)))) H1 → va_D A (ws.set q0 (a0, .inr (5, fs.set k (.ref v)))) → va_S A H0 H1 locs1 → W p l e R s m args below meth c H1 locs1 cells slots Q (F0 m (pc + 3) ls rest)) : W p l e R s m args below meth c H locs cells slots Q (F0 m pc ls (.ref v :: .ref a0 :: rest)) :=
  va_put S.1 S.2.1 S.2.2.2.2 inA5 tyX5 tyX5_ok nmX5 S.2.2.2.1 hK.1 hP hD hS q0 he rfl k hk (S.2.2.2.2 _ hlink) (fun _ h => h) hfin hd rfl rfl hl hdg (fun H1 locs1 h1 h2 h3 => kk H1 locs1 h1 h2 h3)
/-- a whole number is put into a field of the law's own field -/
theorem y_puti (S : CallFix p m c cc nL s args AW own) (hK : KG D g s) (hP : va_P D vwCl ws H) (hD : va_D A ws) (hS : va_S A H0 H locs) (q0 : Nat) {fs : List Value} (he : ws[q0]? = some (a0, .inr (5, fs))) (k : Nat) (hk : k < 6) {index : Nat} (hlink : Cond.fieldLink own index (TX5 k).1 (TX5 k).2.1 (TX5 k).2.2.1 ∈ AW) (hfin : (TX5 k).2.2.2 = false) {v : Int} (hd : parseFieldDescriptor (TX5 k).2.2.1 = some .int) (hl : k < fs.length) (hdg : decode cc pc = .ok (.putfield index, 3))
    (kk : ∀ (H1 : Heap) (locs1 : List Loc), va_P D vwCl (ws.set q0 (a0, .inr (5, fs.set k (.int (zI v))))) H1 → va_D A (ws.set q0 (a0, .inr (5, fs.set k (.int (zI v))))) → va_S A H0 H1 locs1 → W p l e R s m args below meth c H1 locs1 cells slots Q (F0 m (pc + 3) ls rest)) : W p l e R s m args below meth c H locs cells slots Q (F0 m pc ls (.int (zI v) :: .ref a0 :: rest)) :=
  va_put S.1 S.2.1 S.2.2.2.2 inA5 tyX5 tyX5_ok nmX5 S.2.2.2.1 hK.1 hP hD hS q0 he rfl k hk (S.2.2.2.2 _ hlink) (fun _ h => h) hfin hd rfl rfl hl hdg (fun H1 locs1 h1 h2 h3 => kk H1 locs1 h1 h2 h3)
/-- a reference is the answer -/
theorem y_aret (S : CallFix p m c cc nL s args AW own) {rt : FieldType} (hr : meth.sig.returnType = some rt) (hrt : (∃ n, rt = .object n) ∨ ∃ t, rt = .array t) (hlk : meth.locks = false) {T : Type} {post : T → Prop} {B : T → Nat → State → Prop} {free : Nat → Prop} (u : T) (x : Nat) (hu : post u) (hB : ∀ t : State, t.heap = H → B u x t) (hS : va_S A s.heap H locs) (hf : ∀ q ∈ locs, free q.base) (hdg : decode cc pc = .ok (.areturn, 1)) : W p l e R s m args below meth c H locs cells slots (MQ below (va_Qr post B A) args s cells slots free) (F0 m pc ls [.ref x]) :=
  W.aret S.1 S.2.1 hr hrt (Or.inr ⟨x, rfl⟩) (fun t ht _ => ⟨⟨u, x, rfl, hu, hB t ht⟩, hS.F ht⟩) hf hdg hlk
end ZA2
