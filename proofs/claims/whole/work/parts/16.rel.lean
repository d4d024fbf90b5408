/-! BOTH SIDES TOGETHER: how a state of the class and a state of the reference stand to each other -/
def RR (c m : CS) : Prop := (c.1 0 = m.1 1) ∧ (c.1 1 = m.1 2) ∧ (c.1 2 = m.1 3) ∧ (c.1 3 = m.1 4) ∧ (c.1 4 = m.1 5) ∧ (c.1 5 = m.1 6) ∧ (c.2 0 = m.2 0) ∧ (c.2 1 = m.2 1) ∧ (∀ j : Int, 0 ≤ j → j < 2400 → c.2 2 j = m.2 2 j) ∧ (∀ j : Int, 400 * m.1 3 ≤ j → j < 2400 → m.2 2 j = 0) ∧ (∀ j : Int, 0 ≤ j → j < 400 → c.2 3 j = mWat m j (m.1 3).toNat) ∧ (∀ j : Int, 0 ≤ j → j < 400 → c.2 4 j = mDep m j (m.1 3).toNat) ∧ (c.2 5 = m.2 3) ∧ (c.2 6 = m.2 4) ∧ (c.2 7 = m.2 5) ∧ (∀ j : Int, c.2 8 j = m.2 8 j - 1) ∧ (c.1 4 = sm (fun j => b01 (0 < m.2 8 j)) 400) ∧ (∀ j : Int, 0 ≤ j → j < 400 → c.2 10 j = mPA m j) ∧ (c.2 11 = m.2 9) ∧ (c.2 12 = m.2 10) ∧ (c.2 13 = m.2 11) ∧ (∀ q : Int, m.1 6 ≤ q → m.2 11 q = 0) ∧ (∀ j : Int, 0 ≤ j → j < 50 → c.2 14 j = ab (m.2 12 j)) ∧ (∀ j : Int, 0 ≤ j → j < 50 → 0 < m.2 12 j → c.2 15 j = 1) ∧ (∀ j : Int, 0 ≤ j → j < 50 → m.2 12 j < 0 → c.2 15 j = 0) ∧ (∀ q d : Int, 0 ≤ q → q < 10 → 0 ≤ d → d < 5 → (m.1 6 ≤ q ∨ m.1 4 ≤ d) → m.2 12 (5 * q + d) = 0) ∧ (∀ d : Int, 0 ≤ d → d < 5 → m.2 6 d = pbets c d 1) ∧ (∀ d : Int, 0 ≤ d → d < 5 → m.2 7 d = pbets c d 0)
theorem RR.mk {c m : CS} (n0 : c.1 0 = m.1 1) (n1 : c.1 1 = m.1 2) (n2 : c.1 2 = m.1 3) (n3 : c.1 3 = m.1 4) (n4 : c.1 4 = m.1 5) (n5 : c.1 5 = m.1 6) (dep : c.2 0 = m.2 0) (flw : c.2 1 = m.2 1) (rch : ∀ j : Int, 0 ≤ j → j < 2400 → c.2 2 j = m.2 2 j) (rch0 : ∀ j : Int, 400 * m.1 3 ≤ j → j < 2400 → m.2 2 j = 0) (wat : ∀ j : Int, 0 ≤ j → j < 400 → c.2 3 j = mWat m j (m.1 3).toNat) (shl : ∀ j : Int, 0 ≤ j → j < 400 → c.2 4 j = mDep m j (m.1 3).toNat) (fel : c.2 5 = m.2 3) (len : c.2 6 = m.2 4) (coi : c.2 7 = m.2 5) (own : ∀ j : Int, c.2 8 j = m.2 8 j - 1) (cnt : c.1 4 = sm (fun j => b01 (0 < m.2 8 j)) 400) (pat : ∀ j : Int, 0 ≤ j → j < 400 → c.2 10 j = mPA m j) (plc : c.2 11 = m.2 9) (wdp : c.2 12 = m.2 10) (dug : c.2 13 = m.2 11) (dug0 : ∀ q : Int, m.1 6 ≤ q → m.2 11 q = 0) (sta : ∀ j : Int, 0 ≤ j → j < 50 → c.2 14 j = ab (m.2 12 j)) (bfp : ∀ j : Int, 0 ≤ j → j < 50 → 0 < m.2 12 j → c.2 15 j = 1) (bfn : ∀ j : Int, 0 ≤ j → j < 50 → m.2 12 j < 0 → c.2 15 j = 0) (bet0 : ∀ q d : Int, 0 ≤ q → q < 10 → 0 ≤ d → d < 5 → (m.1 6 ≤ q ∨ m.1 4 ≤ d) → m.2 12 (5 * q + d) = 0) (rgt : ∀ d : Int, 0 ≤ d → d < 5 → m.2 6 d = pbets c d 1) (wrg : ∀ d : Int, 0 ≤ d → d < 5 → m.2 7 d = pbets c d 0) : RR c m := ⟨n0, n1, n2, n3, n4, n5, dep, flw, rch, rch0, wat, shl, fel, len, coi, own, cnt, pat, plc, wdp, dug, dug0, sta, bfp, bfn, bet0, rgt, wrg⟩
theorem RR.n0 {c m : CS} (h : RR c m) : c.1 0 = m.1 1 := h.1
theorem RR.n1 {c m : CS} (h : RR c m) : c.1 1 = m.1 2 := h.2.1
theorem RR.n2 {c m : CS} (h : RR c m) : c.1 2 = m.1 3 := h.2.2.1
theorem RR.n3 {c m : CS} (h : RR c m) : c.1 3 = m.1 4 := h.2.2.2.1
theorem RR.n4 {c m : CS} (h : RR c m) : c.1 4 = m.1 5 := h.2.2.2.2.1
theorem RR.n5 {c m : CS} (h : RR c m) : c.1 5 = m.1 6 := h.2.2.2.2.2.1
theorem RR.dep {c m : CS} (h : RR c m) : c.2 0 = m.2 0 := h.2.2.2.2.2.2.1
theorem RR.flw {c m : CS} (h : RR c m) : c.2 1 = m.2 1 := h.2.2.2.2.2.2.2.1
theorem RR.rch {c m : CS} (h : RR c m) : ∀ j : Int, 0 ≤ j → j < 2400 → c.2 2 j = m.2 2 j := h.2.2.2.2.2.2.2.2.1
theorem RR.rch0 {c m : CS} (h : RR c m) : ∀ j : Int, 400 * m.1 3 ≤ j → j < 2400 → m.2 2 j = 0 := h.2.2.2.2.2.2.2.2.2.1
theorem RR.wat {c m : CS} (h : RR c m) : ∀ j : Int, 0 ≤ j → j < 400 → c.2 3 j = mWat m j (m.1 3).toNat := h.2.2.2.2.2.2.2.2.2.2.1
theorem RR.shl {c m : CS} (h : RR c m) : ∀ j : Int, 0 ≤ j → j < 400 → c.2 4 j = mDep m j (m.1 3).toNat := h.2.2.2.2.2.2.2.2.2.2.2.1
theorem RR.fel {c m : CS} (h : RR c m) : c.2 5 = m.2 3 := h.2.2.2.2.2.2.2.2.2.2.2.2.1
theorem RR.len {c m : CS} (h : RR c m) : c.2 6 = m.2 4 := h.2.2.2.2.2.2.2.2.2.2.2.2.2.1
theorem RR.coi {c m : CS} (h : RR c m) : c.2 7 = m.2 5 := h.2.2.2.2.2.2.2.2.2.2.2.2.2.2.1
theorem RR.own {c m : CS} (h : RR c m) : ∀ j : Int, c.2 8 j = m.2 8 j - 1 := h.2.2.2.2.2.2.2.2.2.2.2.2.2.2.2.1
theorem RR.cnt {c m : CS} (h : RR c m) : c.1 4 = sm (fun j => b01 (0 < m.2 8 j)) 400 := h.2.2.2.2.2.2.2.2.2.2.2.2.2.2.2.2.1
theorem RR.pat {c m : CS} (h : RR c m) : ∀ j : Int, 0 ≤ j → j < 400 → c.2 10 j = mPA m j := h.2.2.2.2.2.2.2.2.2.2.2.2.2.2.2.2.2.1
theorem RR.plc {c m : CS} (h : RR c m) : c.2 11 = m.2 9 := h.2.2.2.2.2.2.2.2.2.2.2.2.2.2.2.2.2.2.1
theorem RR.wdp {c m : CS} (h : RR c m) : c.2 12 = m.2 10 := h.2.2.2.2.2.2.2.2.2.2.2.2.2.2.2.2.2.2.2.1
theorem RR.dug {c m : CS} (h : RR c m) : c.2 13 = m.2 11 := h.2.2.2.2.2.2.2.2.2.2.2.2.2.2.2.2.2.2.2.2.1
theorem RR.dug0 {c m : CS} (h : RR c m) : ∀ q : Int, m.1 6 ≤ q → m.2 11 q = 0 := h.2.2.2.2.2.2.2.2.2.2.2.2.2.2.2.2.2.2.2.2.2.1
theorem RR.sta {c m : CS} (h : RR c m) : ∀ j : Int, 0 ≤ j → j < 50 → c.2 14 j = ab (m.2 12 j) := h.2.2.2.2.2.2.2.2.2.2.2.2.2.2.2.2.2.2.2.2.2.2.1
theorem RR.bfp {c m : CS} (h : RR c m) : ∀ j : Int, 0 ≤ j → j < 50 → 0 < m.2 12 j → c.2 15 j = 1 := h.2.2.2.2.2.2.2.2.2.2.2.2.2.2.2.2.2.2.2.2.2.2.2.1
theorem RR.bfn {c m : CS} (h : RR c m) : ∀ j : Int, 0 ≤ j → j < 50 → m.2 12 j < 0 → c.2 15 j = 0 := h.2.2.2.2.2.2.2.2.2.2.2.2.2.2.2.2.2.2.2.2.2.2.2.2.1
theorem RR.bet0 {c m : CS} (h : RR c m) : ∀ q d : Int, 0 ≤ q → q < 10 → 0 ≤ d → d < 5 → (m.1 6 ≤ q ∨ m.1 4 ≤ d) → m.2 12 (5 * q + d) = 0 := h.2.2.2.2.2.2.2.2.2.2.2.2.2.2.2.2.2.2.2.2.2.2.2.2.2.1
theorem RR.rgt {c m : CS} (h : RR c m) : ∀ d : Int, 0 ≤ d → d < 5 → m.2 6 d = pbets c d 1 := h.2.2.2.2.2.2.2.2.2.2.2.2.2.2.2.2.2.2.2.2.2.2.2.2.2.2.1
theorem RR.wrg {c m : CS} (h : RR c m) : ∀ d : Int, 0 ≤ d → d < 5 → m.2 7 d = pbets c d 0 := h.2.2.2.2.2.2.2.2.2.2.2.2.2.2.2.2.2.2.2.2.2.2.2.2.2.2.2
theorem mDep_c {m m' : CS} (h0 : m.2 0 = m'.2 0) (h2 : m.2 2 = m'.2 2) (sp : Int) : ∀ n : Nat, mDep m sp n = mDep m' sp n
  | 0 => rfl
  | n + 1 => by rw [mDep, mDep, mDep_c h0 h2 sp n, h0, h2]
theorem RR.th {c m : CS} (h : RR c m) (v : Int) : RR c (sS m 0 v) := RR.mk h.n0 h.n1 h.n2 h.n3 h.n4 h.n5 h.dep h.flw h.rch h.rch0 h.wat (fun j h1 h2 => (h.shl j h1 h2).trans (mDep_c (m := m) (m' := sS m 0 v) rfl rfl j _)) h.fel h.len h.coi h.own h.cnt h.pat h.plc h.wdp h.dug h.dug0 h.sta h.bfp h.bfn h.bet0 h.rgt h.wrg
theorem b01_cs (P : Prop) [Decidable P] : (b01 P = 1 ∧ P) ∨ (b01 P = 0 ∧ ¬ P) := by
  by_cases q : P
  · exact Or.inl ⟨b01_t q, q⟩
  · exact Or.inr ⟨b01_f q, q⟩
theorem sm_add (f f' : Int → Int) : ∀ n : Nat, sm (fun k => f k + f' k) n = sm f n + sm f' n
  | 0 => rfl
  | n + 1 => by
    show sm (fun k => f k + f' k) n + (f n + f' n) = (sm f n + f n) + (sm f' n + f' n)
    rw [sm_add f f' n]
    omega
theorem sm_pick (j : Int) (Q : Prop) [Decidable Q] : ∀ n : Nat, sm (fun k => b01 (k = j ∧ Q)) n = b01 ((0 ≤ j ∧ j < n) ∧ Q)
  | 0 => by rw [b01_f (by omega)]; rfl
  | n + 1 => by
    show sm (fun k => b01 (k = j ∧ Q)) n + b01 ((n : Int) = j ∧ Q) = _
    rw [sm_pick j Q n]
    by_cases q : Q
    · rw [b01_congr (P := (0 ≤ j ∧ j < (n : Int)) ∧ Q) (P' := 0 ≤ j ∧ j < (n : Int)) ⟨fun z => z.1, fun z => ⟨z, q⟩⟩, b01_congr (P := (n : Int) = j ∧ Q) (P' := (n : Int) = j) ⟨fun z => z.1, fun z => ⟨z, q⟩⟩, b01_congr (P := (0 ≤ j ∧ j < ((n + 1 : Nat) : Int)) ∧ Q) (P' := 0 ≤ j ∧ j < ((n + 1 : Nat) : Int)) ⟨fun z => z.1, fun z => ⟨z, q⟩⟩]
      have h1 := b01_cs (0 ≤ j ∧ j < (n : Int))
      have h2 := b01_cs ((n : Int) = j)
      have h3 := b01_cs (0 ≤ j ∧ j < ((n + 1 : Nat) : Int))
      omega
    · rw [b01_f (fun z => q z.2), b01_f (fun z => q z.2), b01_f (fun z => q z.2)]
      rfl
theorem dg_congr {f f' : Int → Int} (d : Int64) : ∀ n : Nat, (∀ j : Int, 0 ≤ j → j < n → f j = f' j) → dg f d n = dg f' d n
  | 0, _ => rfl
  | n + 1, h => by
    rw [dg, dg, dg_congr d n (fun j h0 h1 => h j h0 (by omega)), h (n : Int) (by omega) (by omega)]
theorem dgO_congr {f f' : Int → Int → Int} (w : Nat) (d : Int64) : ∀ n : Nat, (∀ i j : Int, 0 ≤ i → i < n → 0 ≤ j → j < w → f i j = f' i j) → dgO f w d n = dgO f' w d n
  | 0, _ => rfl
  | n + 1, h => by
    rw [dgO, dgO, dgO_congr w d n (fun i j h0 h1 => h i j h0 (by omega)), dg_congr _ w (fun j h0 h1 => h (n : Int) j (by omega) (by omega) h0 h1)]
section RA
variable {B : Int} {c m : CS}
theorem RR.e_fnd (h : RR c m) (q : Int) : fnd c q ↔ mF m q := by
  show (0 < c.2 12 q ∧ c.2 12 q ≤ c.2 13 q) ↔ (0 < m.2 10 q ∧ m.2 10 q ≤ m.2 11 q)
  rw [h.wdp, h.dug]
theorem RR.e_over (h : RR c m) (hM : IM B m) (q : Int) : over c q ↔ mO m q := by
  have h1 := hM.r11 q
  have h2 := h.e_fnd q
  have h3 := congrFun h.dug q
  show (fnd c q ∨ 20 ≤ c.2 13 q) ↔ (mF m q ∨ m.2 11 q = 20)
  omega
theorem RR.e_term (h : RR c m) (d : Int) {sp v : Int} (hs : 0 ≤ sp ∧ sp < 400) (hv : 0 ≤ v ∧ v < 6) : vterm c sp (c.2 5 d) v = mtrm m d sp v := by
  unfold vterm mtrm
  rw [show v * 400 + sp = 400 * v + sp by omega, h.rch (400 * v + sp) (by omega) (by omega), h.flw, h.fel, h.dep]
theorem mB_sm (m : CS) (d sp : Int) : ∀ n : Nat, mB m d sp n = m.2 4 d + sm (mtrm m d sp) n
  | 0 => by show m.2 4 d = m.2 4 d + 0; omega
  | n + 1 => by
    rw [mB, mB_sm m d sp n]
    show m.2 4 d + sm (mtrm m d sp) n + mtrm m d sp n = m.2 4 d + (sm (mtrm m d sp) n + mtrm m d sp n)
    omega
theorem RR.e_bend (h : RR c m) (hM : IM B m) (d : Int) {sp : Int} (hs : 0 ≤ sp ∧ sp < 400) : bendC c d sp = mBnd m d sp := by
  have hm := hM.s
  unfold bendC mBnd vbend
  rw [mB_sm, sm_congr (f' := mtrm m d sp) _ (fun j h0 h1 => h.e_term d hs (v := j) (by rw [h.n2] at h1; omega)), h.n2, h.len, Int.add_comm]
theorem fm_congr {F F' : Int → Int} : ∀ n : Nat, (∀ j : Int, 0 ≤ j → j < n → F j = F' j) → fm F n = fm F' n
  | 0, _ => rfl
  | n + 1, hF => by
    have h1 := fm_congr n (fun j h0 h1 => hF j h0 (by omega))
    have h2 := fm_b F n
    have h3 := hF (n : Int) (by omega) (by omega)
    have h5 : fm F n < ((n + 1 : Nat) : Int) := by
      rcases h2.2 with q | q
      · omega
      · subst q
        show (0 : Int) < ((0 + 1 : Nat) : Int)
        decide
    have h4 := hF (fm F n) h2.1 h5
    show (if F (fm F n) < F (n : Int) then (n : Int) else fm F n) = (if F' (fm F' n) < F' (n : Int) then (n : Int) else fm F' n)
    rw [← h1, h3, h4]
theorem RR.e_best (h : RR c m) (hM : IM B m) (d : Int) : bestS c d = mBst m d := fm_congr 400 (fun j h0 h1 => h.e_bend hM d ⟨h0, h1⟩)
theorem RR.e_bestT (h : RR c m) (hM : IM B m) (d w : Int) : bestT c d w = mBsT m d w := by
  have h1 := fm_b (mBnd m d) 400
  have h2 := h.e_bend hM d (sp := mBst m d) ⟨h1.1, by rcases h1.2 with q | q; exact q; exact absurd q (by decide)⟩
  unfold bestT mBsT
  rw [h.e_best hM d, h2]
theorem RR.e_wet (h : RR c m) : wet c = mWet m := sm_congr 400 (fun j h0 h1 => by
  show b01 (0 < c.2 3 j) = b01 (0 < mWat m j (m.1 3).toNat)
  rw [h.wat j h0 h1])
theorem mNr_0 (m : CS) (sp : Int) : ∀ n : Nat, -1 ≤ mNr m sp n
  | 0 => by simp [mNr]
  | n + 1 => by
    have h1 := mNr_0 m sp n
    have q1 := ab_cs ((n : Int) % 20 - sp % 20)
    have q2 := ab_cs ((n : Int) / 20 - sp / 20)
    rw [mNr]
    unfold dist
    split <;> omega
theorem RR.e_nr (h : RR c m) (hM : IM B m) (sp : Int) : ∀ n : Nat, nr c sp n = mNr m sp n
  | 0 => rfl
  | n + 1 => by
    have h1 := h.e_nr hM sp n
    have h2 := h.own (n : Int)
    have h3 := hM.r8 (n : Int)
    have h5 := mNr_0 m sp n
    rw [nr, mNr, h1, dist_comm sp (n : Int)]
    by_cases q : 0 < m.2 8 (n : Int) ∧ (mNr m sp n = -1 ∨ dist (n : Int) sp < mNr m sp n)
    · rw [if_pos q, if_pos (by omega)]
    · rw [if_neg q, if_neg (by omega)]
theorem RR.e_beside (h : RR c m) (hM : IM B m) {sp : Int} (hs : 0 ≤ sp ∧ sp < 400) : beside c sp = mPN m sp := by
  unfold beside mPN pgAt
  rw [sm_congr (f := fun k => b01 (0 < m.2 8 k ∧ dist k sp = 1)) (f' := fun k => ((b01 (k = sp / 20 * 20 + (sp % 20 - 1) ∧ inF (sp % 20 - 1) (sp / 20) ∧ c.2 8 (sp / 20 * 20 + (sp % 20 - 1)) ≠ -1) + b01 (k = sp / 20 * 20 + (sp % 20 + 1) ∧ inF (sp % 20 + 1) (sp / 20) ∧ c.2 8 (sp / 20 * 20 + (sp % 20 + 1)) ≠ -1)) + b01 (k = (sp / 20 - 1) * 20 + sp % 20 ∧ inF (sp % 20) (sp / 20 - 1) ∧ c.2 8 ((sp / 20 - 1) * 20 + sp % 20) ≠ -1)) + b01 (k = (sp / 20 + 1) * 20 + sp % 20 ∧ inF (sp % 20) (sp / 20 + 1) ∧ c.2 8 ((sp / 20 + 1) * 20 + sp % 20) ≠ -1)) 400 (fun k h0 h1 => ?_)]
  · rw [sm_add, sm_add, sm_add, sm_pick, sm_pick, sm_pick, sm_pick]
    rw [b01_congr (P := inF (sp % 20 - 1) (sp / 20) ∧ c.2 8 (sp / 20 * 20 + (sp % 20 - 1)) ≠ -1) (P' := (0 ≤ sp / 20 * 20 + (sp % 20 - 1) ∧ sp / 20 * 20 + (sp % 20 - 1) < ((400 : Nat) : Int)) ∧ inF (sp % 20 - 1) (sp / 20) ∧ c.2 8 (sp / 20 * 20 + (sp % 20 - 1)) ≠ -1) (by omega),
      b01_congr (P := inF (sp % 20 + 1) (sp / 20) ∧ c.2 8 (sp / 20 * 20 + (sp % 20 + 1)) ≠ -1) (P' := (0 ≤ sp / 20 * 20 + (sp % 20 + 1) ∧ sp / 20 * 20 + (sp % 20 + 1) < ((400 : Nat) : Int)) ∧ inF (sp % 20 + 1) (sp / 20) ∧ c.2 8 (sp / 20 * 20 + (sp % 20 + 1)) ≠ -1) (by omega),
      b01_congr (P := inF (sp % 20) (sp / 20 - 1) ∧ c.2 8 ((sp / 20 - 1) * 20 + sp % 20) ≠ -1) (P' := (0 ≤ (sp / 20 - 1) * 20 + sp % 20 ∧ (sp / 20 - 1) * 20 + sp % 20 < ((400 : Nat) : Int)) ∧ inF (sp % 20) (sp / 20 - 1) ∧ c.2 8 ((sp / 20 - 1) * 20 + sp % 20) ≠ -1) (by omega),
      b01_congr (P := inF (sp % 20) (sp / 20 + 1) ∧ c.2 8 ((sp / 20 + 1) * 20 + sp % 20) ≠ -1) (P' := (0 ≤ (sp / 20 + 1) * 20 + sp % 20 ∧ (sp / 20 + 1) * 20 + sp % 20 < ((400 : Nat) : Int)) ∧ inF (sp % 20) (sp / 20 + 1) ∧ c.2 8 ((sp / 20 + 1) * 20 + sp % 20) ≠ -1) (by omega)]
  · have g0 := h.own k
    have g1 : k = sp / 20 * 20 + (sp % 20 - 1) → c.2 8 (sp / 20 * 20 + (sp % 20 - 1)) = c.2 8 k := fun z => by rw [← z]
    have g2 : k = sp / 20 * 20 + (sp % 20 + 1) → c.2 8 (sp / 20 * 20 + (sp % 20 + 1)) = c.2 8 k := fun z => by rw [← z]
    have g3 : k = (sp / 20 - 1) * 20 + sp % 20 → c.2 8 ((sp / 20 - 1) * 20 + sp % 20) = c.2 8 k := fun z => by rw [← z]
    have g4 : k = (sp / 20 + 1) * 20 + sp % 20 → c.2 8 ((sp / 20 + 1) * 20 + sp % 20) = c.2 8 k := fun z => by rw [← z]
    have g5 := hM.r8 k
    have q1 := ab_cs (k % 20 - sp % 20)
    have q2 := ab_cs (k / 20 - sp / 20)
    show b01 (0 < m.2 8 k ∧ ab (k % 20 - sp % 20) + ab (k / 20 - sp / 20) = 1) = ((b01 (k = sp / 20 * 20 + (sp % 20 - 1) ∧ inF (sp % 20 - 1) (sp / 20) ∧ c.2 8 (sp / 20 * 20 + (sp % 20 - 1)) ≠ -1) + b01 (k = sp / 20 * 20 + (sp % 20 + 1) ∧ inF (sp % 20 + 1) (sp / 20) ∧ c.2 8 (sp / 20 * 20 + (sp % 20 + 1)) ≠ -1)) + b01 (k = (sp / 20 - 1) * 20 + sp % 20 ∧ inF (sp % 20) (sp / 20 - 1) ∧ c.2 8 ((sp / 20 - 1) * 20 + sp % 20) ≠ -1)) + b01 (k = (sp / 20 + 1) * 20 + sp % 20 ∧ inF (sp % 20) (sp / 20 + 1) ∧ c.2 8 ((sp / 20 + 1) * 20 + sp % 20) ≠ -1)
    rw [b01_congr (P := k = sp / 20 * 20 + (sp % 20 - 1) ∧ inF (sp % 20 - 1) (sp / 20) ∧ c.2 8 (sp / 20 * 20 + (sp % 20 - 1)) ≠ -1) (P' := (k % 20 = sp % 20 - 1 ∧ k / 20 = sp / 20) ∧ 0 < m.2 8 k) ⟨fun z => by have := g1 z.1; omega, fun z => by have := g1 (by omega); omega⟩,
      b01_congr (P := k = sp / 20 * 20 + (sp % 20 + 1) ∧ inF (sp % 20 + 1) (sp / 20) ∧ c.2 8 (sp / 20 * 20 + (sp % 20 + 1)) ≠ -1) (P' := (k % 20 = sp % 20 + 1 ∧ k / 20 = sp / 20) ∧ 0 < m.2 8 k) ⟨fun z => by have := g2 z.1; omega, fun z => by have := g2 (by omega); omega⟩,
      b01_congr (P := k = (sp / 20 - 1) * 20 + sp % 20 ∧ inF (sp % 20) (sp / 20 - 1) ∧ c.2 8 ((sp / 20 - 1) * 20 + sp % 20) ≠ -1) (P' := (k % 20 = sp % 20 ∧ k / 20 = sp / 20 - 1) ∧ 0 < m.2 8 k) ⟨fun z => by have := g3 z.1; omega, fun z => by have := g3 (by omega); omega⟩,
      b01_congr (P := k = (sp / 20 + 1) * 20 + sp % 20 ∧ inF (sp % 20) (sp / 20 + 1) ∧ c.2 8 ((sp / 20 + 1) * 20 + sp % 20) ≠ -1) (P' := (k % 20 = sp % 20 ∧ k / 20 = sp / 20 + 1) ∧ 0 < m.2 8 k) ⟨fun z => by have := g4 z.1; omega, fun z => by have := g4 (by omega); omega⟩]
    clear g1 g2 g3 g4 g0
    have z0 := b01_cs (0 < m.2 8 k ∧ ab (k % 20 - sp % 20) + ab (k / 20 - sp / 20) = 1)
    have z1 := b01_cs ((k % 20 = sp % 20 - 1 ∧ k / 20 = sp / 20) ∧ 0 < m.2 8 k)
    have z2 := b01_cs ((k % 20 = sp % 20 + 1 ∧ k / 20 = sp / 20) ∧ 0 < m.2 8 k)
    have z3 := b01_cs ((k % 20 = sp % 20 ∧ k / 20 = sp / 20 - 1) ∧ 0 < m.2 8 k)
    have z4 := b01_cs ((k % 20 = sp % 20 ∧ k / 20 = sp / 20 + 1) ∧ 0 < m.2 8 k)
    rcases q1 with ⟨q1, p1⟩ | ⟨q1, p1⟩ <;> rcases q2 with ⟨q2, p2⟩ | ⟨q2, p2⟩ <;> rw [q1, q2] at z0 <;> rw [q1, q2] <;> omega
theorem RR.e_spot (h : RR c m) (hM : IM B m) {sp : Int} (hs : 0 ≤ sp ∧ sp < 400) (w : Int) : spotT c sp w = mSpT m sp w := by
  unfold spotT mSpT
  rw [h.wat sp hs.1 hs.2, h.shl sp hs.1 hs.2, h.own sp, h.pat sp hs.1 hs.2, h.e_beside hM hs, h.e_nr hM sp 400]
theorem RR.e_pgOf (h : RR c m) {d : Int} (hd : 0 ≤ d) : pgOf c d = mPgO m d 0 := sm_congr 400 (fun j h0 h1 => by
  have h2 := h.own j
  show b01 (c.2 8 j = d) = b01 _
  exact b01_congr (by omega))
theorem RR.e_truOf (h : RR c m) {d : Int} (hd : 0 ≤ d) : truOf c d = mPgO m d 1 := sm_congr 400 (fun j h0 h1 => by
  have h2 := h.own j
  have h3 := h.wat j h0 h1
  show b01 (c.2 8 j = d ∧ c.2 8 j ≠ -1 ∧ 0 < c.2 3 j) = b01 _
  exact b01_congr (by omega))
theorem RR.e_truAll (h : RR c m) : truAll c = mPgO m (-1) 1 := sm_congr 400 (fun j h0 h1 => by
  have h2 := h.own j
  have h3 := h.wat j h0 h1
  show b01 (c.2 8 j ≠ -1 ∧ 0 < c.2 3 j) = b01 _
  exact b01_congr (by omega))
theorem RR.e_meanW (h : RR c m) (hM : IM B m) : meanW c = mMeW m := sm_congr 400 (fun j h0 h1 => by
  have h2 := h.own j
  have h3 := h.wat j h0 h1
  have h4 := hM.r8 j
  show (if c.2 8 j ≠ -1 then c.2 3 j else 0) = (if 0 < m.2 8 j then mWat m j (m.1 3).toNat else 0)
  by_cases q : 0 < m.2 8 j
  · rw [if_pos q, if_pos (by omega), h3]
  · rw [if_neg q, if_neg (by omega)])
theorem RR.e_stk1 (h : RR c m) {q d f : Int} (hq : 0 ≤ q ∧ q < 10) (hd : 0 ≤ d ∧ d < 5) (hf : 0 ≤ f ∧ f ≤ 1) : stk c q d f = max 0 (mOwn m q d f) := by
  have h1 := h.sta (5 * q + d) (by omega) (by omega)
  have h2 := h.bfp (5 * q + d) (by omega) (by omega)
  have h3 := h.bfn (5 * q + d) (by omega) (by omega)
  have h4 := ab_cs (m.2 12 (5 * q + d))
  unfold stk mOwn
  rw [show q * 5 + d = 5 * q + d by omega]
  rcases Int.lt_trichotomy (m.2 12 (5 * q + d)) 0 with w | w | w
  · have := h3 w
    by_cases e : c.2 15 (5 * q + d) = f
    · rw [if_pos e, if_neg (by omega)]; omega
    · rw [if_neg e, if_pos (by omega)]; omega
  · by_cases e : c.2 15 (5 * q + d) = f
    · rw [if_pos e]; split <;> omega
    · rw [if_neg e]; split <;> omega
  · have := h2 w
    by_cases e : c.2 15 (5 * q + d) = f
    · rw [if_pos e, if_pos (by omega)]; omega
    · rw [if_neg e, if_neg (by omega)]; omega
theorem RR.e_stOn (h : RR c m) {q f : Int} (hq : 0 ≤ q ∧ q < 10) (hf : 0 ≤ f ∧ f ≤ 1) : stOn c q f = mBO m q f 5 := sm_congr 5 (fun j h0 h1 => h.e_stk1 hq ⟨h0, h1⟩ hf)
theorem RR.e_shr (h : RR c m) {q d f : Int} (hq : 0 ≤ q ∧ q < 10) (hd : 0 ≤ d ∧ d < 5) (hf : 0 ≤ f ∧ f ≤ 1) : shr c q d f = mSh m q d f := by
  unfold shr mSh allS
  rw [h.e_stOn hq hf, h.e_stOn hq (f := 1) (by omega), h.e_stOn hq (f := 0) (by omega), h.e_stk1 hq hd hf]
  by_cases w : mOwn m q d f ≤ 0
  · rw [if_pos w, show max 0 (mOwn m q d f) = 0 by omega, Int.mul_zero, Int.zero_ediv]
  · rw [if_neg w, show max 0 (mOwn m q d f) = mOwn m q d f by omega]
theorem RR.e_would (h : RR c m) (hM : IM B m) {q d f : Int} (hq : 0 ≤ q ∧ q < 10) (hd : 0 ≤ d ∧ d < 5) (hf : 0 ≤ f ∧ f ≤ 1) : wouldT c q d f = if mO m q then 0 else mSh m q d f := by
  unfold wouldT
  have h1 := h.e_over hM q
  rw [h.e_shr hq hd hf]
  by_cases w : mO m q
  · rw [if_pos w, if_pos (h1.mpr w)]
  · rw [if_neg w, if_neg (fun z => w (h1.mp z))]
theorem RR.e_unp (h : RR c m) (hM : IM B m) {d : Int} (hd : 0 ≤ d ∧ d < 5) : unp c d = mInB m d := by
  have hs := hM.s
  unfold unp mInB
  rw [h.n5]
  refine sm_congr _ (fun q h0 h1 => ?_)
  have h2 := h.e_over hM q
  have h3 := h.sta (5 * q + d) (by omega) (by omega)
  show (if over c q then 0 else c.2 14 (q * 5 + d)) = (if mO m q then 0 else ab (m.2 12 (5 * q + d)))
  rw [show q * 5 + d = 5 * q + d by omega, h3]
  by_cases w : mO m q
  · rw [if_pos w, if_pos (h2.mpr w)]
  · rw [if_neg w, if_neg (fun z => w (h2.mp z))]
theorem RR.e_dow (h : RR c m) (hM : IM B m) {d : Int} (hd : 0 ≤ d ∧ d < 5) (w : Int) : dowT c d w = mDoT m d w := by
  unfold dowT mDoT
  rw [h.fel, h.len, h.coi, h.e_pgOf hd.1, h.e_truOf hd.1, h.e_unp hM hd, ← h.rgt d hd.1 hd.2, ← h.wrg d hd.1 hd.2]
theorem RR.e_pit (h : RR c m) (hM : IM B m) {q : Int} (hq : 0 ≤ q ∧ q < 10) (w : Int) : pitT c q w = mPiT m q w := by
  unfold pitT mPiT
  rw [b01_congr (h.e_fnd q), b01_congr (h.e_over hM q), h.e_stOn hq (f := 1) (by omega), h.e_stOn hq (f := 0) (by omega), h.plc, h.dug]
  by_cases e : w = 5
  · rw [if_pos e, b01_t e]
  · rw [if_neg e, b01_f e]
theorem RR.e_cntT (h : RR c m) (w : Int) : cntT c w = mCnt m w := by
  unfold cntT mCnt allC
  rw [h.n0, h.n1, h.n2, h.n3, h.n4, h.n5, h.e_wet, h.e_truAll, h.coi]
theorem RR.e_dig (h : RR c m) (hM : IM B m) : digC c = dgO (mSpT m) 4 (dgO (mPiT m) 7 (dgO (mDoT m) 8 (dg (mCnt m) 1801 9) (m.1 4).toNat) (m.1 6).toNat) 400 := by
  have hs := hM.s
  unfold digC
  rw [h.n3, h.n5, dg_congr (f := cntT c) (f' := mCnt m) 1801 9 (fun j _ _ => h.e_cntT j), dgO_congr (f := dowT c) (f' := mDoT m) 8 _ _ (fun i j h0 h1 _ _ => h.e_dow hM (by omega) j), dgO_congr (f := pitT c) (f' := mPiT m) 7 _ _ (fun i j h0 h1 _ _ => h.e_pit hM (by omega) j), dgO_congr (f := spotT c) (f' := mSpT m) 4 _ _ (fun i j h0 h1 _ _ => h.e_spot hM ⟨h0, h1⟩ j)]
theorem RR.e_adv (h : RR c m) : ∀ n : Nat, adv c n = mAdv m n
  | 0 => rfl
  | n + 1 => by
    have h1 := h.e_adv n
    have h2 := adv_b c n
    have h3 := h.e_pgOf (d := (n : Int)) (by omega)
    have h4 := h.e_truOf (d := (n : Int)) (by omega)
    have h5 := mPgO_b m (n : Int) 0
    rw [adv, mAdv, h3, h4, h1]
    by_cases z : mPgO m (n : Int) 0 = 0
    · rw [if_pos z, if_neg (by omega)]
    · rw [if_neg z]
      by_cases z2 : mAdv m n = -1
      · rw [if_pos z2, if_pos ⟨by omega, Or.inl z2⟩]
      · rw [if_neg z2]
        have h6 := h.e_pgOf (d := mAdv m n) (by omega)
        have h7 := h.e_truOf (d := mAdv m n) (by omega)
        rw [show pq c (mAdv m n) = mPgO m (mAdv m n) 0 by unfold pq; rw [if_neg z2]; exact h6, show tq c (mAdv m n) = mPgO m (mAdv m n) 1 by unfold tq; rw [if_neg z2]; exact h7]
        unfold tru
        generalize mPgO m (n : Int) 1 * mPgO m (mAdv m n) 0 = X
        generalize mPgO m (mAdv m n) 1 * mPgO m (n : Int) 0 = Y
        by_cases z3 : 0 < X - Y ∨ (X - Y = 0 ∧ mPgO m (mAdv m n) 0 < mPgO m (n : Int) 0)
        · rw [if_pos z3, if_pos (by omega)]
        · rw [if_neg z3, if_neg (by omega)]
end RA
