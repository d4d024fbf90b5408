/-! THE WORLD OF THE LAW'S OWN FIELD, cell by cell; a row more, a row less -/
def swd : Nat → Nat := fun k => if k = 0 then 7 else if k = 1 then 5 else if k = 2 then 3 else 9
abbrev SO (b : Nat → Nat) (t : SS) : Nat × va_E := (b 0, .inr (5, [.int (zI (t.1 0)), .int (zI (t.1 1)), .ref (b 1), .ref (b 2), .ref (b 3), .ref (b 4)]))
abbrev SRw (g : ClassId × ClassId × ClassId) (b : Nat → Nat) (t : SS) (k i : Nat) : Nat × va_E := (rd b k i, .inl (g.1, swd k, .inl (zA (t.2 k (i : Int)))))
theorem rwW_mem {g : ClassId × ClassId × ClassId} {r : Nat → Nat} {w : Nat} {F : Int → Int → Int} {n : Nat} {x : Nat × va_E} : x ∈ rwW g r w F n ↔ ∃ i : Nat, i < n ∧ x = (r i, .inl (g.1, w, .inl (zA (F (i : Int))))) := by
  unfold rwW
  rw [List.mem_map]
  constructor
  · rintro ⟨i, h1, h2⟩; exact ⟨i, List.mem_range.mp h1, h2.symm⟩
  · rintro ⟨i, h1, h2⟩; exact ⟨i, List.mem_range.mpr h1, h2.symm⟩
theorem SW_mem {g : ClassId × ClassId × ClassId} {b : Nat → Nat} {t : SS} {x : Nat × va_E} : x ∈ SW g b t ↔ x = SO b t ∨ (∃ k : Nat, k < 4 ∧ x = (b (1 + k), oe g (sn t k) (rd b k))) ∨ ∃ k : Nat, k < 4 ∧ ∃ i : Nat, i < sn t k ∧ x = SRw g b t k i := by
  unfold SW
  rw [List.mem_append, List.mem_append, List.mem_append, List.mem_append, rwW_mem, rwW_mem, rwW_mem, rwW_mem]
  constructor
  · intro h
    rcases h with h | ⟨i, h1, h2⟩ | ⟨i, h1, h2⟩ | ⟨i, h1, h2⟩ | ⟨i, h1, h2⟩
    · rcases List.mem_cons.mp h with h | h
      · exact Or.inl h
      rcases List.mem_cons.mp h with h | h
      · exact Or.inr (Or.inl ⟨0, by omega, h⟩)
      rcases List.mem_cons.mp h with h | h
      · exact Or.inr (Or.inl ⟨1, by omega, h⟩)
      rcases List.mem_cons.mp h with h | h
      · exact Or.inr (Or.inl ⟨2, by omega, h⟩)
      rcases List.mem_cons.mp h with h | h
      · exact Or.inr (Or.inl ⟨3, by omega, h⟩)
      · exact absurd h List.not_mem_nil
    · exact Or.inr (Or.inr ⟨0, by omega, i, h1, h2⟩)
    · exact Or.inr (Or.inr ⟨1, by omega, i, h1, h2⟩)
    · exact Or.inr (Or.inr ⟨2, by omega, i, h1, h2⟩)
    · exact Or.inr (Or.inr ⟨3, by omega, i, h1, h2⟩)
  · intro h
    rcases h with h | ⟨k, hk, h⟩ | ⟨k, hk, i, h1, h2⟩
    · exact Or.inl (List.mem_cons.mpr (Or.inl h))
    · rcases (show k = 0 ∨ k = 1 ∨ k = 2 ∨ k = 3 by omega) with e | e | e | e <;> subst e <;> subst h <;> refine Or.inl ?_ <;> simp
    · rcases (show k = 0 ∨ k = 1 ∨ k = 2 ∨ k = 3 by omega) with e | e | e | e <;> subst e
      · exact Or.inr (Or.inl ⟨i, h1, h2⟩)
      · exact Or.inr (Or.inr (Or.inl ⟨i, h1, h2⟩))
      · exact Or.inr (Or.inr (Or.inr (Or.inl ⟨i, h1, h2⟩)))
      · exact Or.inr (Or.inr (Or.inr (Or.inr ⟨i, h1, h2⟩)))
/-- which numbers of b stand for a cell -/
def SV (t : SS) (j : Nat) : Prop := j < 5 ∨ ∃ k : Nat, k < 4 ∧ ∃ i : Nat, i < sn t k ∧ j = 5 + 4 * i + k
theorem SV_lo {t : SS} {j : Nat} (h : j < 5) : SV t j := Or.inl h
theorem SV_row {t : SS} {k i : Nat} (hk : k < 4) (hi : i < sn t k) : SV t (5 + 4 * i + k) := Or.inr ⟨k, hk, i, hi, rfl⟩
/-- the cells are apart, and lie in A -/
def SB (A : Nat → Prop) (b : Nat → Nat) (t : SS) : Prop := (∀ i j : Nat, SV t i → SV t j → b i = b j → i = j) ∧ ∀ j : Nat, SV t j → A (b j)
theorem SW_SV {g : ClassId × ClassId × ClassId} {b : Nat → Nat} {t : SS} {x : Nat × va_E} (h : x ∈ SW g b t) : ∃ j, SV t j ∧ x.1 = b j := by
  rcases SW_mem.mp h with h | ⟨k, hk, h⟩ | ⟨k, hk, i, h1, h2⟩
  · exact ⟨0, SV_lo (by omega), by rw [h]⟩
  · exact ⟨1 + k, SV_lo (by omega), by rw [h]⟩
  · exact ⟨_, SV_row hk h1, by rw [h2]; rfl⟩
theorem SV_SW (g : ClassId × ClassId × ClassId) (b : Nat → Nat) {t : SS} {j : Nat} (h : SV t j) : ∃ x, x ∈ SW g b t ∧ x.1 = b j := by
  rcases h with h | ⟨k, hk, i, hi, h⟩
  · by_cases e : j = 0
    · subst e; exact ⟨_, SW_mem.mpr (Or.inl rfl), rfl⟩
    · exact ⟨_, SW_mem.mpr (Or.inr (Or.inl ⟨j - 1, by omega, rfl⟩)), by show b (1 + (j - 1)) = b j; congr 1; omega⟩
  · subst h; exact ⟨_, SW_mem.mpr (Or.inr (Or.inr ⟨k, hk, i, hi, rfl⟩)), rfl⟩
/-- where the cell of number j stands in the list -/
def spos (t : SS) (j : Nat) : Nat := if j < 5 then j else 5 + ((if (j - 5) % 4 = 0 then 0 else if (j - 5) % 4 = 1 then sn t 0 else if (j - 5) % 4 = 2 then sn t 0 + sn t 1 else sn t 0 + (sn t 1 + sn t 2)) + (j - 5) / 4)
theorem SW_pos {g : ClassId × ClassId × ClassId} {b : Nat → Nat} {t : SS} {p : Nat} {x : Nat × va_E} (h : (SW g b t)[p]? = some x) : ∃ j, SV t j ∧ x.1 = b j ∧ p = spos t j := by
  unfold SW at h
  by_cases h5 : p < 5
  · refine ⟨p, SV_lo h5, ?_, by rw [spos, if_pos h5]⟩
    rw [ap_at0 h5] at h
    rcases (show p = 0 ∨ p = 1 ∨ p = 2 ∨ p = 3 ∨ p = 4 by omega) with e | e | e | e | e <;> subst e <;> cases h <;> rfl
  · obtain ⟨p1, rfl⟩ : ∃ p1, p = 5 + p1 := ⟨p - 5, by omega⟩
    rw [ap_at1 (n := 5) rfl] at h
    have row : ∀ {k i w : Nat}, (hk : k < 4) → (rwW g (rd b k) w (t.2 k) (sn t k))[i]? = some x → i < sn t k ∧ x.1 = b (5 + 4 * i + k) := by
      intro k i w hk hx
      have hi : i < sn t k := by
        have := (List.getElem?_eq_some_iff.mp hx).1
        rw [rwW_len] at this
        exact this
      rw [rwW_at hi] at hx
      cases hx
      exact ⟨hi, rfl⟩
    have fin : ∀ {k i : Nat}, (hk : k < 4) → i < sn t k → x.1 = b (5 + 4 * i + k) → 5 + p1 = spos t (5 + 4 * i + k) → ∃ j, SV t j ∧ x.1 = b j ∧ 5 + p1 = spos t j := fun {k i} hk hi hx hp => ⟨5 + 4 * i + k, SV_row hk hi, hx, hp⟩
    have m4 : ∀ i k : Nat, k < 4 → (5 + 4 * i + k - 5) % 4 = k ∧ (5 + 4 * i + k - 5) / 4 = i := fun i k hk => by omega
    by_cases q0 : p1 < sn t 0
    · rw [ap_at0 (by rw [rwW_len]; exact q0)] at h
      obtain ⟨a1, a2⟩ := row (k := 0) (by omega) h
      refine fin (k := 0) (by omega) a1 a2 ?_
      rw [spos, if_neg (by omega), (m4 p1 0 (by omega)).1, (m4 p1 0 (by omega)).2, if_pos rfl]
      omega
    obtain ⟨p2, rfl⟩ : ∃ p2, p1 = sn t 0 + p2 := ⟨p1 - sn t 0, by omega⟩
    rw [ap_at1 (rwW_len _ _ _ _ _)] at h
    by_cases q1 : p2 < sn t 1
    · rw [ap_at0 (by rw [rwW_len]; exact q1)] at h
      obtain ⟨a1, a2⟩ := row (k := 1) (by omega) h
      refine fin (k := 1) (by omega) a1 a2 ?_
      rw [spos, if_neg (by omega), (m4 p2 1 (by omega)).1, (m4 p2 1 (by omega)).2, if_neg (by omega), if_pos rfl]
    obtain ⟨p3, rfl⟩ : ∃ p3, p2 = sn t 1 + p3 := ⟨p2 - sn t 1, by omega⟩
    rw [ap_at1 (rwW_len _ _ _ _ _)] at h
    by_cases q2 : p3 < sn t 2
    · rw [ap_at0 (by rw [rwW_len]; exact q2)] at h
      obtain ⟨a1, a2⟩ := row (k := 2) (by omega) h
      refine fin (k := 2) (by omega) a1 a2 ?_
      rw [spos, if_neg (by omega), (m4 p3 2 (by omega)).1, (m4 p3 2 (by omega)).2, if_neg (by omega), if_neg (by omega), if_pos rfl]
      omega
    obtain ⟨p4, rfl⟩ : ∃ p4, p3 = sn t 2 + p4 := ⟨p3 - sn t 2, by omega⟩
    rw [ap_at1 (rwW_len _ _ _ _ _)] at h
    obtain ⟨a1, a2⟩ := row (k := 3) (by omega) h
    refine fin (k := 3) (by omega) a1 a2 ?_
    rw [spos, if_neg (by omega), (m4 p4 3 (by omega)).1, (m4 p4 3 (by omega)).2, if_neg (by omega), if_neg (by omega), if_neg (by omega)]
    omega
theorem SB.D {A : Nat → Prop} {b : Nat → Nat} {t : SS} (h : SB A b t) (g : ClassId × ClassId × ClassId) : va_D A (SW g b t) := by
  refine ⟨fun i j p q hi hj e => ?_, fun k q hk => ?_⟩
  · obtain ⟨j1, a1, a2, a3⟩ := SW_pos hi
    obtain ⟨j2, b1, b2, b3⟩ := SW_pos hj
    have := h.1 j1 j2 a1 b1 (by rw [← a2, ← b2]; exact e)
    subst this
    rw [a3, b3]
  · obtain ⟨j1, a1, a2, a3⟩ := SW_pos hk
    rw [a2]; exact h.2 j1 a1
theorem SB.imp {A B : Nat → Prop} {b : Nat → Nat} {t : SS} (h : SB A b t) (hAB : ∀ q, A q → B q) : SB B b t := ⟨h.1, fun j hj => hAB _ (h.2 j hj)⟩
theorem SV_cnt {t t' : SS} (h : sn t 0 = sn t' 0 ∧ sn t 1 = sn t' 1 ∧ sn t 2 = sn t' 2 ∧ sn t 3 = sn t' 3) {j : Nat} (hj : SV t' j) : SV t j := by
  rcases hj with hj | ⟨k, hk, i, hi, e⟩
  · exact Or.inl hj
  · refine Or.inr ⟨k, hk, i, ?_, e⟩
    rcases (show k = 0 ∨ k = 1 ∨ k = 2 ∨ k = 3 by omega) with e | e | e | e <;> subst e
    · rw [h.1]; exact hi
    · rw [h.2.1]; exact hi
    · rw [h.2.2.1]; exact hi
    · rw [h.2.2.2]; exact hi
theorem SB.cnt {A : Nat → Prop} {b : Nat → Nat} {t t' : SS} (h : SB A b t) (e : sn t 0 = sn t' 0 ∧ sn t 1 = sn t' 1 ∧ sn t 2 = sn t' 2 ∧ sn t 3 = sn t' 3) : SB A b t' := ⟨fun i j hi hj => h.1 i j (SV_cnt e hi) (SV_cnt e hj), fun j hj => h.2 j (SV_cnt e hj)⟩
theorem va_P_SW {D : va_G} {g : ClassId × ClassId × ClassId} {b : Nat → Nat} {t : SS} {H : Heap} (h0 : va_at D vwCl (SO b t) H) (h1 : ∀ k : Nat, k < 4 → va_at D vwCl (b (1 + k), oe g (sn t k) (rd b k)) H) (h2 : ∀ k : Nat, k < 4 → ∀ i : Nat, i < sn t k → va_at D vwCl (SRw g b t k i) H) : va_P D vwCl (SW g b t) H := va_P_of (fun x hx => by
  rcases SW_mem.mp hx with h | ⟨k, hk, h⟩ | ⟨k, hk, i, hi, h⟩ <;> subst h
  · exact h0
  · exact h1 k hk
  · exact h2 k hk i hi)
/-- a row more of kind k -/
def sAdd (t : SS) (k : Nat) (G : Int → Int) : SS := (fun j => bif Nat.beq j (2 + k) then t.1 (2 + k) + 1 else t.1 j, fun j => bif Nat.beq j k then (fun i => if i = t.1 (2 + k) then G else t.2 k i) else t.2 j)
def bAdd (b : Nat → Nat) (t : SS) (k o r : Nat) : Nat → Nat := fun j => if j = 1 + k then o else if j = 5 + 4 * sn t k + k then r else b j
theorem nbq_t (k : Nat) : Nat.beq k k = true := Nat.beq_refl k
theorem nbq_f {j k : Nat} (h : j ≠ k) : Nat.beq j k = false := by
  cases q : Nat.beq j k with
  | false => rfl
  | true => exact absurd (Nat.eq_of_beq_eq_true q) h
theorem sAdd_n {t : SS} {k : Nat} {G : Int → Int} : (sAdd t k G).1 (2 + k) = t.1 (2 + k) + 1 := by show (bif _ then _ else _) = _; rw [nbq_t]; rfl
theorem sAdd_n' {t : SS} {k j : Nat} {G : Int → Int} (h : j ≠ 2 + k) : (sAdd t k G).1 j = t.1 j := by show (bif _ then _ else _) = _; rw [nbq_f h]; rfl
theorem sAdd_r {t : SS} {k : Nat} {G : Int → Int} : (sAdd t k G).2 k = fun i => if i = t.1 (2 + k) then G else t.2 k i := by show (bif _ then _ else _) = _; rw [nbq_t]; rfl
theorem sAdd_r' {t : SS} {k j : Nat} {G : Int → Int} (h : j ≠ k) : (sAdd t k G).2 j = t.2 j := by show (bif _ then _ else _) = _; rw [nbq_f h]; rfl
theorem sAdd_sn {t : SS} {k : Nat} {G : Int → Int} (h : 0 ≤ t.1 (2 + k)) : sn (sAdd t k G) k = sn t k + 1 := by show ((sAdd t k G).1 (2 + k)).toNat = _; rw [sAdd_n]; show _ = (t.1 (2 + k)).toNat + 1; omega
theorem sAdd_sn' {t : SS} {k j : Nat} {G : Int → Int} (h : j ≠ k) : sn (sAdd t k G) j = sn t j := by show ((sAdd t k G).1 (2 + j)).toNat = _; rw [sAdd_n' (by omega)]
theorem sAdd_row {t : SS} {k i : Nat} {G : Int → Int} (h : i < sn t k) : (sAdd t k G).2 k (i : Int) = t.2 k (i : Int) := by
  rw [sAdd_r]
  exact if_neg (by have : i < (t.1 (2 + k)).toNat := h; omega)
theorem sAdd_new {t : SS} {k : Nat} {G : Int → Int} (h : 0 ≤ t.1 (2 + k)) : (sAdd t k G).2 k ((sn t k : Nat) : Int) = G := by
  rw [sAdd_r]
  exact if_pos (by show (((t.1 (2 + k)).toNat : Nat) : Int) = t.1 (2 + k); omega)
theorem SV_add {t : SS} {k j : Nat} {G : Int → Int} (h : 0 ≤ t.1 (2 + k)) (hj : SV (sAdd t k G) j) : SV t j ∨ j = 5 + 4 * sn t k + k := by
  rcases hj with hj | ⟨k', hk', i, hi, e⟩
  · exact Or.inl (Or.inl hj)
  · by_cases q : k' = k
    · subst q
      rw [sAdd_sn h] at hi
      by_cases q2 : i = sn t k'
      · right; rw [e, q2]
      · left; exact Or.inr ⟨k', hk', i, by omega, e⟩
    · rw [sAdd_sn' q] at hi
      exact Or.inl (Or.inr ⟨k', hk', i, hi, e⟩)
theorem SV_new {t : SS} {k : Nat} (hk : k < 4) : ¬ SV t (5 + 4 * sn t k + k) := by
  rintro (h | ⟨k', hk', i, hi, e⟩)
  · omega
  · have h1 : k' = k := by omega
    subst h1
    omega
theorem SB_add {A : Nat → Prop} {b : Nat → Nat} {t : SS} {k o r : Nat} {G : Int → Int} (hk : k < 4) (h0 : 0 ≤ t.1 (2 + k)) (h : SB A b t) (hor : o ≠ r) (ho : ∀ j, SV t j → o ≠ b j) (hr : ∀ j, SV t j → r ≠ b j) (hAo : A o) (hAr : A r) : SB A (bAdd b t k o r) (sAdd t k G) := by
  have val : ∀ j, SV (sAdd t k G) j → (j = 1 + k ∧ bAdd b t k o r j = o) ∨ (j = 5 + 4 * sn t k + k ∧ bAdd b t k o r j = r) ∨ (SV t j ∧ bAdd b t k o r j = b j) := by
    intro j hj
    by_cases e1 : j = 1 + k
    · left; exact ⟨e1, if_pos e1⟩
    · by_cases e2 : j = 5 + 4 * sn t k + k
      · right; left; exact ⟨e2, by rw [bAdd, if_neg e1, if_pos e2]⟩
      · right; right
        refine ⟨(SV_add h0 hj).resolve_right e2, by rw [bAdd, if_neg e1, if_neg e2]⟩
  refine ⟨fun i j hi hj e => ?_, fun j hj => ?_⟩
  · rcases val i hi with ⟨a1, a2⟩ | ⟨a1, a2⟩ | ⟨a1, a2⟩ <;> rcases val j hj with ⟨b1, b2⟩ | ⟨b1, b2⟩ | ⟨b1, b2⟩ <;> rw [a2, b2] at e
    · omega
    · exact absurd e hor
    · exact absurd e (ho j b1)
    · exact absurd e.symm hor
    · omega
    · exact absurd e (hr j b1)
    · exact absurd e.symm (ho i a1)
    · exact absurd e.symm (hr i a1)
    · exact h.1 i j a1 b1 e
  · rcases val j hj with ⟨-, a2⟩ | ⟨-, a2⟩ | ⟨a1, a2⟩ <;> rw [a2]
    · exact hAo
    · exact hAr
    · exact h.2 j a1
/-- the world with a row more, out of the old one, the new outer array and the new row -/
theorem SW_add {D : va_G} {g : ClassId × ClassId × ClassId} {b : Nat → Nat} {t : SS} {k o r : Nat} {G : Int → Int} {H : Heap} (hk : k < 4) (h0 : 0 ≤ t.1 (2 + k)) (hP : ∀ x ∈ SW g b t, x.1 ≠ b 0 → va_at D vwCl x H) (hB : ∀ j, SV t j → j ≠ 0 → b j ≠ b 0) (hO : va_at D vwCl (SO (bAdd b t k o r) (sAdd t k G)) H) (ho : va_at D vwCl (o, oe g (sn t k + 1) (fun i => if i < sn t k then rd b k i else r)) H) (hr : va_at D vwCl (r, .inl (g.1, swd k, .inl (zA G))) H) : va_P D vwCl (SW g (bAdd b t k o r) (sAdd t k G)) H := by
  have hb : ∀ j, j ≠ 1 + k → j ≠ 5 + 4 * sn t k + k → bAdd b t k o r j = b j := fun j h1 h2 => by rw [bAdd, if_neg h1, if_neg h2]
  have hro : ∀ k', k' < 4 → ∀ i : Nat, i < sn t k' → rd (bAdd b t k o r) k' i = rd b k' i := fun k' hk' i hi => hb _ (by omega) (fun e => SV_new hk (e ▸ SV_row hk' hi))
  have hrn : rd (bAdd b t k o r) k (sn t k) = r := by show bAdd b t k o r (5 + 4 * sn t k + k) = r; rw [bAdd, if_neg (by omega), if_pos rfl]
  refine va_P_SW hO (fun k' hk' => ?_) (fun k' hk' i hi => ?_)
  · by_cases e : k' = k
    · subst e
      rw [sAdd_sn h0, show bAdd b t k' o r (1 + k') = o from if_pos rfl]
      have : rfs (sn t k' + 1) (rd (bAdd b t k' o r) k') = rfs (sn t k' + 1) (fun i => if i < sn t k' then rd b k' i else r) := rfs_congr (fun i hi => by
        by_cases q : i < sn t k'
        · rw [if_pos q]; exact hro k' hk i q
        · rw [if_neg q, show i = sn t k' by omega]; exact hrn)
      unfold oe
      rw [this]
      exact ho
    · rw [sAdd_sn' e, hb (1 + k') (by omega) (by omega)]
      have : rfs (sn t k') (rd (bAdd b t k o r) k') = rfs (sn t k') (rd b k') := rfs_congr (fun i hi => hro k' hk' i hi)
      unfold oe
      rw [this]
      exact hP _ (SW_mem.mpr (Or.inr (Or.inl ⟨k', hk', rfl⟩))) (hB _ (SV_lo (by omega)) (by omega))
  · by_cases e : k' = k
    · subst e
      rw [sAdd_sn h0] at hi
      unfold SRw
      by_cases q : i < sn t k'
      · rw [hro k' hk i q, sAdd_row q]
        exact hP _ (SW_mem.mpr (Or.inr (Or.inr ⟨k', hk, i, q, rfl⟩))) (hB _ (SV_row hk q) (by omega))
      · have hi2 : i = sn t k' := by omega
        rw [hi2, hrn, sAdd_new h0]
        exact hr
    · rw [sAdd_sn' e] at hi
      unfold SRw
      rw [sAdd_r' e, hro k' hk' i hi]
      exact hP _ (SW_mem.mpr (Or.inr (Or.inr ⟨k', hk', i, hi, rfl⟩))) (hB _ (SV_row hk' hi) (by omega))
/-- row j of the pegs less -/
def sDel (t : SS) (j : Int) : SS := tS (tR t 2 (fun i => if i < j then t.2 2 i else t.2 2 (i + 1))) 4 (t.1 4 - 1)
def bDel (b : Nat → Nat) (j : Nat) (o : Nat) : Nat → Nat := fun x => if x = 3 then o else if 5 ≤ x ∧ (x - 5) % 4 = 2 then (if (x - 5) / 4 < j then b x else b (x + 4)) else b x
theorem bDel_r (b : Nat → Nat) (j o i : Nat) : rd (bDel b j o) 2 i = if i < j then rd b 2 i else rd b 2 (i + 1) := by
  show bDel b j o (5 + 4 * i + 2) = _
  rw [bDel, if_neg (by omega), if_pos (by omega), show (5 + 4 * i + 2 - 5) / 4 = i by omega]
  rfl
theorem bDel_r' {b : Nat → Nat} {j o i k : Nat} (hk : k < 4) (h : k ≠ 2) : rd (bDel b j o) k i = rd b k i := by
  show bDel b j o (5 + 4 * i + k) = _
  rw [bDel, if_neg (by omega), if_neg (by omega)]
  rfl
theorem bDel_lo {b : Nat → Nat} {j o x : Nat} (h : x < 5) (h3 : x ≠ 3) : bDel b j o x = b x := by rw [bDel, if_neg h3, if_neg (by omega)]
theorem sDel_sn {t : SS} {j : Int} (h : 1 ≤ t.1 4) : sn (sDel t j) 2 + 1 = sn t 2 := by show (t.1 4 - 1).toNat + 1 = (t.1 4).toNat; omega
theorem sDel_sn' {t : SS} {j : Int} {k : Nat} (hk : k < 4) (h : k ≠ 2) : sn (sDel t j) k = sn t k := by
  rcases (show k = 0 ∨ k = 1 ∨ k = 3 by omega) with e | e | e <;> subst e <;> rfl
theorem SB_del {A : Nat → Prop} {b : Nat → Nat} {t : SS} {j : Int} {o : Nat} (hj : 0 ≤ j ∧ j < t.1 4) (h : SB A b t) (ho : ∀ x, SV t x → o ≠ b x) (hAo : A o) : SB A (bDel b j.toNat o) (sDel t j) := by
  have h1 := sDel_sn (t := t) (j := j) (by omega)
  have val : ∀ x, SV (sDel t j) x → (x = 3 ∧ bDel b j.toNat o x = o) ∨ (x ≠ 3 ∧ ∃ y, SV t y ∧ bDel b j.toNat o x = b y ∧ (y = x ∨ (y = x + 4 ∧ 5 ≤ x ∧ (x - 5) % 4 = 2 ∧ j.toNat ≤ (x - 5) / 4)) ∧ (y = x → 5 ≤ x ∧ (x - 5) % 4 = 2 → (x - 5) / 4 < j.toNat)) := by
    intro x hx
    by_cases e3 : x = 3
    · left; exact ⟨e3, if_pos e3⟩
    right
    refine ⟨e3, ?_⟩
    rcases hx with hx | ⟨k, hk, i, hi, e⟩
    · exact ⟨x, SV_lo hx, bDel_lo hx e3, Or.inl rfl, fun _ q => by omega⟩
    · subst e
      by_cases e2 : k = 2
      · subst e2
        have h2 := bDel_r b j.toNat o i
        by_cases q : i < j.toNat
        · rw [if_pos q] at h2
          exact ⟨5 + 4 * i + 2, SV_row hk (by omega), h2, Or.inl rfl, fun _ _ => by omega⟩
        · rw [if_neg q] at h2
          exact ⟨5 + 4 * (i + 1) + 2, SV_row hk (by omega), h2, Or.inr (by omega), fun z => by omega⟩
      · rw [sDel_sn' hk e2] at hi
        exact ⟨5 + 4 * i + k, SV_row hk hi, bDel_r' hk e2, Or.inl rfl, fun _ _ => by omega⟩
  refine ⟨fun x y hx hy e => ?_, fun x hx => ?_⟩
  · rcases val x hx with ⟨a1, a2⟩ | ⟨a0, x1, a1, a2, a3, a4⟩ <;> rcases val y hy with ⟨b1, b2⟩ | ⟨b0, y1, b1, b2, b3, b4⟩ <;> rw [a2, b2] at e
    · omega
    · exact absurd e (ho _ b1)
    · exact absurd e.symm (ho _ a1)
    · have e9 := h.1 x1 y1 a1 b1 e
      subst e9
      rcases a3 with a3 | a3 <;> rcases b3 with b3 | b3
      · omega
      · have := a4 a3; omega
      · have := b4 b3; omega
      · omega
  · rcases val x hx with ⟨-, a2⟩ | ⟨-, x1, a1, a2, -⟩ <;> rw [a2]
    · exact hAo
    · exact h.2 _ a1
theorem SW_del {D : va_G} {g : ClassId × ClassId × ClassId} {b : Nat → Nat} {t : SS} {j : Int} {o : Nat} {H : Heap} (hj : 0 ≤ j ∧ j < t.1 4) (hP : ∀ x ∈ SW g b t, x.1 ≠ b 0 → va_at D vwCl x H) (hB : ∀ j, SV t j → j ≠ 0 → b j ≠ b 0) (hO : va_at D vwCl (SO (bDel b j.toNat o) (sDel t j)) H) (ho : va_at D vwCl (o, oe g (sn (sDel t j) 2) (fun i => if i < j.toNat then rd b 2 i else rd b 2 (i + 1))) H) : va_P D vwCl (SW g (bDel b j.toNat o) (sDel t j)) H := by
  have h1 := sDel_sn (t := t) (j := j) (by omega)
  refine va_P_SW hO (fun k hk => ?_) (fun k hk i hi => ?_)
  · by_cases e : k = 2
    · subst e
      rw [show bDel b j.toNat o (1 + 2) = o from if_pos rfl]
      have : rfs (sn (sDel t j) 2) (rd (bDel b j.toNat o) 2) = rfs (sn (sDel t j) 2) (fun i => if i < j.toNat then rd b 2 i else rd b 2 (i + 1)) := rfs_congr (fun i _ => bDel_r b j.toNat o i)
      unfold oe
      rw [this]
      exact ho
    · rw [sDel_sn' hk e, bDel_lo (x := 1 + k) (by omega) (by omega)]
      have : rfs (sn t k) (rd (bDel b j.toNat o) k) = rfs (sn t k) (rd b k) := rfs_congr (fun i _ => bDel_r' hk e)
      unfold oe
      rw [this]
      exact hP _ (SW_mem.mpr (Or.inr (Or.inl ⟨k, hk, rfl⟩))) (hB _ (SV_lo (by omega)) (by omega))
  · by_cases e : k = 2
    · subst e
      unfold SRw
      rw [bDel_r]
      by_cases q : i < j.toNat
      · rw [if_pos q, show (sDel t j).2 2 (i : Int) = t.2 2 (i : Int) from if_pos (by omega)]
        exact hP _ (SW_mem.mpr (Or.inr (Or.inr ⟨2, hk, i, by omega, rfl⟩))) (hB _ (SV_row hk (by omega)) (by omega))
      · rw [if_neg q, show (sDel t j).2 2 (i : Int) = t.2 2 ((i : Int) + 1) from if_neg (by omega)]
        have := hP _ (SW_mem.mpr (Or.inr (Or.inr ⟨2, hk, i + 1, by omega, rfl⟩))) (hB _ (SV_row hk (by omega)) (by omega))
        exact this
    · rw [sDel_sn' hk e] at hi
      unfold SRw
      rw [bDel_r' hk e]
      have e2 : (sDel t j).2 k = t.2 k := by rcases (show k = 0 ∨ k = 1 ∨ k = 3 by omega) with z | z | z <;> subst z <;> rfl
      rw [e2]
      exact hP _ (SW_mem.mpr (Or.inr (Or.inr ⟨k, hk, i, hi, rfl⟩))) (hB _ (SV_row hk hi) (by omega))
