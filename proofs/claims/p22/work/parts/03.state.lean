section ZT
variable {p : Program} {l : Launch} {e : Env} {R : Room} {s : State} {m : MethodId} {args : Array Value} {below : List Frame} {meth : Method} {c : Code} {H : Heap} {locs : List Loc} {cells slots : Nat} {Q : State → Prop} {pc : Nat} {ls : Array Slot} {rest : List Value}
theorem z_top {x : Int} (y : Int) (e1 : x = y) (k : W p l e R s m args below meth c H locs cells slots Q (F0 m pc ls (.int (zI y) :: rest))) : W p l e R s m args below meth c H locs cells slots Q (F0 m pc ls (.int (zI x) :: rest)) := e1 ▸ k
theorem z_lk (S : True) (hexec : p.tables.exec = Jvm.exec) {cc : ByteArray} (hb : c.code = cc) {dflt : Int} {ps : Array (Int × Int)} {len : Nat} {x : Int} {off : Int} {tgt : Nat} (hx : I32 x) (hdg : decode cc pc = .ok (.lookupswitch dflt ps, len)) (hp : (ps.toList.zip (ps.toList.drop 1)).all (fun (a, next) => a.1 < next.1) = true) (ho : Op.lookupswitch.offset ps.toList dflt x = off) (ht : (pc : Int) + off = (tgt : Int))
    (k : W p l e R s m args below meth c H locs cells slots Q (F0 m tgt ls rest)) : W p l e R s m args below meth c H locs cells slots Q (F0 m pc ls (.int (zI x) :: rest)) := lv_lookup hexec hb hdg hp (by rw [zI_toInt hx]; exact ho) ht k
end ZT
theorem va_P_nil {D : va_G} {cl : List vw_C} {H : Heap} : va_P D cl [] H := fun k q h => by simp at h
theorem nw_X2_76 : (RX2, 76, yX4_columnOf, RX4) ∈ NWl := by decide +kernel
theorem nw_X2_79 : (RX2, 79, yX4_rowOf, RX4) ∈ NWl := by decide +kernel
theorem nw_X1_28 : (RX1, 28, yX4_columnOf, RX4) ∈ NWl := by decide +kernel
theorem nw_X1_32 : (RX1, 32, yX4_rowOf, RX4) ∈ NWl := by decide +kernel
theorem nw_X1_39 : (RX1, 39, yX4_inField, RX4) ∈ NWl := by decide +kernel
theorem nw_X1_43 : (RX1, 43, yX4_spotAt, RX4) ∈ NWl := by decide +kernel
theorem nw_X1_50 : (RX1, 50, yX4_distance, RX4) ∈ NWl := by decide +kernel
theorem nw_X3_57 : (RX3, 57, yX4_inField, RX4) ∈ NWl := by decide +kernel
theorem nw_X3_54 : (RX3, 54, yX4_spotAt, RX4) ∈ NWl := by decide +kernel
theorem nw_X3_61 : (RX3, 61, yX4_quotient, RX4) ∈ NWl := by decide +kernel
theorem nw_X2_66 : (RX2, 66, yX4_quotient, RX4) ∈ NWl := by decide +kernel
/-! THE STATE. A state of the class or of the reference: its whole numbers by place, its rows by place.
Class: numbers 0 mark, 1 fieldCoins, 2 veins.size, 3 dowsers.size, 4 pegs.size, 5 pits.size; rows 0 depth, 1 flow, 2 reach, 3 water, 4 shallowest, 5 feeling, 6 lean, 7 coins, 8 owner, 9 onLine, 10 at, 11 place, 12 waterDepth, 13 dug, 14 stake, 15 betFinds.
Reference: numbers 0 thrown, 1 mark, 2 field, 3 veins, 4 dowsers, 5 pegs, 6 pits; rows 0 veinDepth, 1 flow, 2 lies, 3 feeling, 4 lean, 5 coins, 6 right, 7 wrong, 8 peg, 9 pitSpot, 10 pitDepth, 11 dug, 12 bets. -/
abbrev CS : Type := (Nat → Int) × (Nat → Int → Int)
def sS (c : CS) (k : Nat) (v : Int) : CS := (fun j => bif Nat.beq j k then v else c.1 j, c.2)
def sA (c : CS) (k : Nat) (F : Int → Int) : CS := (c.1, fun j => bif Nat.beq j k then F else c.2 j)
def CW (g : ClassId × ClassId × ClassId) (a : Nat → Nat) (c : CS) : va_W := [
  (a 0, .inr (4, [.ref (a 1), .ref (a 2), .ref (a 3), .ref (a 4), .int (zI (c.1 0)), .int (zI (c.1 1))])),
  (a 1, .inr (3, [.int (zI (c.1 2)), .ref (a 5), .ref (a 6), .ref (a 7), .ref (a 8), .ref (a 9)])),
  (a 2, .inr (0, [.int (zI (c.1 3)), .ref (a 10), .ref (a 11), .ref (a 12)])),
  (a 3, .inr (1, [.int (zI (c.1 4)), .ref (a 13), .ref (a 14)])),
  (a 4, .inr (2, [.int (zI (c.1 5)), .ref (a 15), .ref (a 16), .ref (a 17), .ref (a 18), .ref (a 19), .ref (a 20)])),
  (a 5, .inl (g.1, 6, .inl (zA (c.2 0)))),
  (a 6, .inl (g.1, 6, .inl (zA (c.2 1)))),
  (a 7, .inl (g.1, 2400, .inl (zA (c.2 2)))),
  (a 8, .inl (g.1, 400, .inl (zA (c.2 3)))),
  (a 9, .inl (g.1, 400, .inl (zA (c.2 4)))),
  (a 10, .inl (g.1, 5, .inl (zA (c.2 5)))),
  (a 11, .inl (g.1, 5, .inl (zA (c.2 6)))),
  (a 12, .inl (g.1, 5, .inl (zA (c.2 7)))),
  (a 13, .inl (g.1, 400, .inl (zA (c.2 8)))),
  (a 14, .inl (g.1, 118, .inl (zA (c.2 9)))),
  (a 15, .inl (g.1, 400, .inl (zA (c.2 10)))),
  (a 16, .inl (g.1, 10, .inl (zA (c.2 11)))),
  (a 17, .inl (g.1, 10, .inl (zA (c.2 12)))),
  (a 18, .inl (g.1, 10, .inl (zA (c.2 13)))),
  (a 19, .inl (g.1, 50, .inl (zA (c.2 14)))),
  (a 20, .inl (g.2.1, 50, .inl (zA (c.2 15))))]
/-- the cells of a world of n cells at a 0, .. a (n-1) -/
def CA (n : Nat) (a : Nat → Nat) : Nat → Prop := fun q => ∃ k : Nat, k < n ∧ q = a k
def CD (n : Nat) (a : Nat → Nat) : Prop := ∀ i j : Nat, i < n → j < n → a i = a j → i = j
theorem WD_of {n : Nat} {a : Nat → Nat} {ws : va_W} (h : CD n a) (hw : ws.map Prod.fst = (List.range n).map a) : va_D (CA n a) ws := by
  have key : ∀ (k : Nat) (q : Nat × va_E), ws[k]? = some q → k < n ∧ q.1 = a k := by
    intro k q hq
    have h1 : (ws.map Prod.fst)[k]? = some q.1 := by rw [List.getElem?_map, hq]; rfl
    rw [hw, List.getElem?_map] at h1
    by_cases hk : k < n
    · rw [List.getElem?_range hk] at h1
      exact ⟨hk, (Option.some.inj h1).symm⟩
    · rw [List.getElem?_eq_none (by simp; omega)] at h1
      exact absurd h1 (by simp)
  refine ⟨fun i j p q hi hj e => ?_, fun k q hk => ⟨k, (key k q hk).1, (key k q hk).2⟩⟩
  obtain ⟨h1, h2⟩ := key i p hi
  obtain ⟨h3, h4⟩ := key j q hj
  exact h i j h1 h3 (by rw [← h2, ← h4]; exact e)
theorem CW_D {g : ClassId × ClassId × ClassId} {a : Nat → Nat} (h : CD 21 a) (c : CS) : va_D (CA 21 a) (CW g a c) := WD_of h rfl
/-- bounds of a state of the class; B bounds the coins -/
def IN (c : CS) (k : Nat) (lo hi : Int) : Prop := ∀ j : Int, lo ≤ c.2 k j ∧ c.2 k j ≤ hi
abbrev ICs (B : Int) (c : CS) : Prop := 0 ≤ B ∧ B ≤ 1000000000 ∧ 1 ≤ c.1 0 ∧ c.1 0 ≤ 30 ∧ 0 ≤ c.1 2 ∧ c.1 2 ≤ 6 ∧ 0 ≤ c.1 3 ∧ c.1 3 ≤ 5 ∧ 0 ≤ c.1 4 ∧ c.1 4 ≤ 60 ∧ 0 ≤ c.1 5 ∧ c.1 5 ≤ 10
def IC (B : Int) (c : CS) : Prop := ICs B c ∧ IN c 0 0 20 ∧ IN c 1 0 9 ∧ IN c 2 0 2 ∧ IN c 3 0 B ∧ IN c 4 0 20 ∧ IN c 5 0 9 ∧ IN c 6 (-3) 3 ∧ IN c 7 (-B) B ∧ IN c 8 (-1) 4 ∧ IN c 10 (-1) 9 ∧ IN c 11 0 399 ∧ IN c 12 0 20 ∧ IN c 13 0 20 ∧ IN c 14 0 99 ∧ IN c 15 0 1
theorem IC.s {B : Int} {c : CS} (h : IC B c) : ICs B c := h.1
theorem IC.r0 {B : Int} {c : CS} (h : IC B c) (j : Int) : 0 ≤ c.2 0 j ∧ c.2 0 j ≤ 20 := h.2.1 j
theorem IC.r1 {B : Int} {c : CS} (h : IC B c) (j : Int) : 0 ≤ c.2 1 j ∧ c.2 1 j ≤ 9 := h.2.2.1 j
theorem IC.r2 {B : Int} {c : CS} (h : IC B c) (j : Int) : 0 ≤ c.2 2 j ∧ c.2 2 j ≤ 2 := h.2.2.2.1 j
theorem IC.r3 {B : Int} {c : CS} (h : IC B c) (j : Int) : 0 ≤ c.2 3 j ∧ c.2 3 j ≤ B := h.2.2.2.2.1 j
theorem IC.r4 {B : Int} {c : CS} (h : IC B c) (j : Int) : 0 ≤ c.2 4 j ∧ c.2 4 j ≤ 20 := h.2.2.2.2.2.1 j
theorem IC.r5 {B : Int} {c : CS} (h : IC B c) (j : Int) : 0 ≤ c.2 5 j ∧ c.2 5 j ≤ 9 := h.2.2.2.2.2.2.1 j
theorem IC.r6 {B : Int} {c : CS} (h : IC B c) (j : Int) : (-3) ≤ c.2 6 j ∧ c.2 6 j ≤ 3 := h.2.2.2.2.2.2.2.1 j
theorem IC.r7 {B : Int} {c : CS} (h : IC B c) (j : Int) : (-B) ≤ c.2 7 j ∧ c.2 7 j ≤ B := h.2.2.2.2.2.2.2.2.1 j
theorem IC.r8 {B : Int} {c : CS} (h : IC B c) (j : Int) : (-1) ≤ c.2 8 j ∧ c.2 8 j ≤ 4 := h.2.2.2.2.2.2.2.2.2.1 j
theorem IC.r10 {B : Int} {c : CS} (h : IC B c) (j : Int) : (-1) ≤ c.2 10 j ∧ c.2 10 j ≤ 9 := h.2.2.2.2.2.2.2.2.2.2.1 j
theorem IC.r11 {B : Int} {c : CS} (h : IC B c) (j : Int) : 0 ≤ c.2 11 j ∧ c.2 11 j ≤ 399 := h.2.2.2.2.2.2.2.2.2.2.2.1 j
theorem IC.r12 {B : Int} {c : CS} (h : IC B c) (j : Int) : 0 ≤ c.2 12 j ∧ c.2 12 j ≤ 20 := h.2.2.2.2.2.2.2.2.2.2.2.2.1 j
theorem IC.r13 {B : Int} {c : CS} (h : IC B c) (j : Int) : 0 ≤ c.2 13 j ∧ c.2 13 j ≤ 20 := h.2.2.2.2.2.2.2.2.2.2.2.2.2.1 j
theorem IC.r14 {B : Int} {c : CS} (h : IC B c) (j : Int) : 0 ≤ c.2 14 j ∧ c.2 14 j ≤ 99 := h.2.2.2.2.2.2.2.2.2.2.2.2.2.2.1 j
theorem IC.r15 {B : Int} {c : CS} (h : IC B c) (j : Int) : 0 ≤ c.2 15 j ∧ c.2 15 j ≤ 1 := h.2.2.2.2.2.2.2.2.2.2.2.2.2.2.2 j
