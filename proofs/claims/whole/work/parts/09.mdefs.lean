/-! WHAT THE REFERENCE'S METHODS ANSWER AND DO -/
def mWat (c : CS) (sp : Int) (n : Nat) : Int := sm (fun v => if c.2 2 (400 * v + sp) = 2 then c.2 1 v else 0) n
theorem mWat_b {B : Int} {c : CS} (h : IM B c) (sp : Int) {n : Nat} (hn : n ≤ 6) : 0 ≤ mWat c sp n ∧ mWat c sp n ≤ 54 := by
  have h1 := sm_b (f := fun v => if c.2 2 (400 * v + sp) = 2 then c.2 1 v else 0) (lo := 0) (hi := 9) n (fun j _ _ => by
    have h2 := h.r1 j
    by_cases q : c.2 2 (400 * j + sp) = 2
    · show 0 ≤ (if _ then _ else _ : Int) ∧ (if _ then _ else _ : Int) ≤ 9
      rw [if_pos q]; exact h2
    · show 0 ≤ (if _ then _ else _ : Int) ∧ (if _ then _ else _ : Int) ≤ 9
      rw [if_neg q]; omega)
  unfold mWat
  omega
def mDep (c : CS) (sp : Int) : Nat → Int
  | 0 => 0
  | n + 1 => if c.2 2 (400 * (n : Int) + sp) = 2 ∧ (mDep c sp n = 0 ∨ c.2 0 (n : Int) < mDep c sp n) then c.2 0 (n : Int) else mDep c sp n
theorem mDep_b {B : Int} {c : CS} (h : IM B c) (sp : Int) : ∀ n : Nat, 0 ≤ mDep c sp n ∧ mDep c sp n ≤ 20
  | 0 => by simp [mDep]
  | n + 1 => by
    have h1 := mDep_b h sp n
    have h2 := h.r0 (n : Int)
    rw [mDep]
    split
    · exact h2
    · exact h1
def mtrm (c : CS) (d sp v : Int) : Int := if c.2 2 (400 * v + sp) = 2 then c.2 1 v * c.2 3 d / c.2 0 v else if c.2 2 (400 * v + sp) = 1 then c.2 1 v * c.2 3 d / c.2 0 v / 2 else 0
theorem mw_b {B : Int} {c : CS} (h : IM B c) (d v : Int) : (0 ≤ c.2 1 v * c.2 3 d ∧ c.2 1 v * c.2 3 d ≤ 81) ∧ (0 ≤ c.2 1 v * c.2 3 d / c.2 0 v ∧ c.2 1 v * c.2 3 d / c.2 0 v ≤ 81) := by
  have h1 := prod_b (h.r1 v) (h.r3 d)
  have h2 := h.r0 v
  exact ⟨by omega, div_b (by omega) h2.1⟩
theorem mtrm_b {B : Int} {c : CS} (h : IM B c) (d sp v : Int) : 0 ≤ mtrm c d sp v ∧ mtrm c d sp v ≤ 81 := by
  have h1 := (mw_b h d v).2
  unfold mtrm
  split
  · exact h1
  · split
    · omega
    · omega
def mB (c : CS) (d sp : Int) : Nat → Int
  | 0 => c.2 4 d
  | n + 1 => mB c d sp n + mtrm c d sp (n : Int)
theorem mB_b {B : Int} {c : CS} (h : IM B c) (d sp : Int) : ∀ n : Nat, -3 ≤ mB c d sp n ∧ mB c d sp n ≤ 3 + 81 * n
  | 0 => by have := h.r4 d; rw [mB]; omega
  | n + 1 => by
    have h1 := mB_b h d sp n
    have h2 := mtrm_b h d sp (n : Int)
    rw [mB]
    omega
def mBnd (c : CS) (d sp : Int) : Int := max 0 (mB c d sp (c.1 3).toNat)
theorem mBnd_b {B : Int} {c : CS} (h : IM B c) (d sp : Int) : 0 ≤ mBnd c d sp ∧ mBnd c d sp ≤ 489 := by
  have hs := h.s
  have h1 := mB_b h d sp (c.1 3).toNat
  unfold mBnd
  omega
/-- the first place of n where P holds, or -1 -/
def ff (P : Int → Prop) [DecidablePred P] : Nat → Int
  | 0 => -1
  | n + 1 => if ff P n ≠ -1 then ff P n else if P (n : Int) then (n : Int) else -1
theorem ff_b (P : Int → Prop) [DecidablePred P] : ∀ n : Nat, -1 ≤ ff P n ∧ ff P n < n
  | 0 => by simp [ff]
  | n + 1 => by
    have h1 := ff_b P n
    rw [ff]
    split
    · omega
    · split <;> omega
theorem ff_no {P : Int → Prop} [DecidablePred P] {n : Nat} (h : ff P n = -1) (h2 : ¬ P (n : Int)) : ff P (n + 1) = -1 := by
  rw [ff, if_neg (by omega), if_neg h2]
theorem ff_hit {P : Int → Prop} [DecidablePred P] {k : Nat} (h : ff P k = -1) (h2 : P (k : Int)) : ∀ n : Nat, k < n → ff P n = k
  | 0, hn => absurd hn (by omega)
  | n + 1, hn => by
    by_cases e : k = n
    · subst e
      rw [ff, if_neg (by omega), if_pos h2]
    · have h3 := ff_hit h h2 n (by omega)
      rw [ff, if_pos (by omega), h3]
def mPA (c : CS) (sp : Int) : Int := ff (fun k => c.2 9 k = sp) (c.1 6).toNat
def mPN (c : CS) (sp : Int) : Int := sm (fun k => b01 (0 < c.2 8 k ∧ dist k sp = 1)) 400
def mNr (c : CS) (sp : Int) : Nat → Int
  | 0 => -1
  | n + 1 => if 0 < c.2 8 (n : Int) ∧ (mNr c sp n = -1 ∨ dist (n : Int) sp < mNr c sp n) then dist (n : Int) sp else mNr c sp n
theorem mNr_b {c : CS} {sp : Int} (h : 0 ≤ sp ∧ sp < 400) : ∀ n : Nat, n ≤ 400 → -1 ≤ mNr c sp n ∧ mNr c sp n ≤ 38
  | 0, _ => by simp [mNr]
  | n + 1, hn => by
    have h1 := mNr_b (c := c) h n (by omega)
    have h2 := dist_b (i := n) (j := sp) (by omega)
    rw [mNr]
    split
    · omega
    · exact h1
-- veins
abbrev besP (c : CS) (v sp : Int) : Int → Prop := fun k => c.2 2 (400 * v + k) = 2 ∧ dist k sp = 1
abbrev isBes (c : CS) (v sp : Int) : Prop := ff (besP c v sp) 400 ≠ -1
def mby (fr tt st : Int) : Int := if st = 0 then 0 else (tt - fr).tdiv st
def mst (fr tt : Int) : Int := max (ab (tt % 20 - fr % 20)) (ab (tt / 20 - fr / 20))
def mL1 (c : CS) (v fr by9 : Int) : Nat → CS
  | 0 => c
  | n + 1 => sA (mL1 c v fr by9 n) 2 (upZ ((mL1 c v fr by9 n).2 2) ((400 * v + fr) + (n : Int) * by9) 2)
def mL2 (c : CS) (v : Int) : Nat → CS
  | 0 => c
  | n + 1 => if (mL2 c v n).2 2 (400 * v + (n : Int)) = 0 ∧ isBes (mL2 c v n) v (n : Int) then sA (mL2 c v n) 2 (upZ ((mL2 c v n).2 2) (400 * v + (n : Int)) 1) else mL2 c v n
def mLay (c : CS) (v fr tt : Int) : CS := mL2 (mL1 c v fr (mby fr tt (mst fr tt)) (mst fr tt + 1).toNat) v 400
theorem mL1_IM {B : Int} {c : CS} (h : IM B c) (v fr by9 : Int) : ∀ n : Nat, IM B (mL1 c v fr by9 n)
  | 0 => h
  | n + 1 => (mL1_IM h v fr by9 n).u2 (by omega)
theorem mL2_IM {B : Int} {c : CS} (h : IM B c) (v : Int) : ∀ n : Nat, IM B (mL2 c v n)
  | 0 => h
  | n + 1 => by
    have h1 := mL2_IM h v n
    rw [mL2]
    split
    · exact h1.u2 (by omega)
    · exact h1
theorem mLay_IM {B : Int} {c : CS} (h : IM B c) (v fr tt : Int) : IM B (mLay c v fr tt) := mL2_IM (mL1_IM h v fr _ _) v 400
theorem mL1_c (c : CS) (v fr by9 : Int) : ∀ n : Nat, (mL1 c v fr by9 n).1 = c.1 ∧ ∀ k : Nat, k ≠ 2 → (mL1 c v fr by9 n).2 k = c.2 k
  | 0 => ⟨rfl, fun _ _ => rfl⟩
  | n + 1 => ⟨(mL1_c c v fr by9 n).1, fun k hk => by
      show (bif Nat.beq k 2 then _ else (mL1 c v fr by9 n).2 k) = c.2 k
      rw [show Nat.beq k 2 = false by (cases hb : Nat.beq k 2 with | false => rfl | true => exact absurd (Nat.eq_of_beq_eq_true hb) hk)]
      exact (mL1_c c v fr by9 n).2 k hk⟩
theorem mL2_c (c : CS) (v : Int) : ∀ n : Nat, (mL2 c v n).1 = c.1 ∧ ∀ k : Nat, k ≠ 2 → (mL2 c v n).2 k = c.2 k
  | 0 => ⟨rfl, fun _ _ => rfl⟩
  | n + 1 => by
    have h1 := mL2_c c v n
    rw [mL2]
    split
    · refine ⟨h1.1, fun k hk => ?_⟩
      show (bif Nat.beq k 2 then _ else (mL2 c v n).2 k) = c.2 k
      rw [show Nat.beq k 2 = false by (cases hb : Nat.beq k 2 with | false => rfl | true => exact absurd (Nat.eq_of_beq_eq_true hb) hk)]
      exact h1.2 k hk
    · exact h1
theorem mLay_c (c : CS) (v fr tt : Int) : (mLay c v fr tt).1 = c.1 ∧ ∀ k : Nat, k ≠ 2 → (mLay c v fr tt).2 k = c.2 k := by
  have h1 := mL2_c (mL1 c v fr (mby fr tt (mst fr tt)) (mst fr tt + 1).toNat) v 400
  have h2 := mL1_c c v fr (mby fr tt (mst fr tt)) (mst fr tt + 1).toNat
  unfold mLay
  exact ⟨h1.1.trans h2.1, fun k hk => (h1.2 k hk).trans (h2.2 k hk)⟩
-- codes and answers
abbrev mD (c : CS) (d : Int) : Prop := 0 ≤ d ∧ d ≤ c.1 4 - 1
abbrev mP (c : CS) (q : Int) : Prop := 0 ≤ q ∧ q ≤ c.1 6 - 1
/-- after a call with the code k: the state, the answer -/
def mC (c : CS) (k : Nat) (body : CS) : CS := if k = 0 then body else sS (sS c 0 0) 0 (k : Int)
def mA (k : Nat) (r : Int) : Int := if k = 0 then r else 0
def jVein (c : CS) (x y tx ty dp fl : Int) : Nat := if ¬ (inF x y ∧ inF tx ty) then 1 else if ¬ ((x = tx ∨ y = ty ∨ ab (x - tx) = ab (y - ty)) ∧ (1 ≤ dp ∧ dp ≤ 20) ∧ 1 ≤ fl ∧ fl ≤ 9) then 2 else if c.1 3 = 6 then 3 else 0
def mOpn (c : CS) (dp fl : Int) : CS := sA (sA (sS c 0 0) 0 (upZ (c.2 0) (c.1 3) dp)) 1 (upZ (c.2 1) (c.1 3) fl)
def mVein (c : CS) (x y tx ty dp fl : Int) : CS := sS (mLay (mOpn c dp fl) (c.1 3) (20 * y + x) (20 * ty + tx)) 3 ((mLay (mOpn c dp fl) (c.1 3) (20 * y + x) (20 * ty + tx)).1 3 + 1)
def jDow (c : CS) (fl ln : Int) : Nat := if ¬ ((0 ≤ fl ∧ fl ≤ 9) ∧ -3 ≤ ln ∧ ln ≤ 3) then 1 else if c.1 4 = 5 then 2 else 0
def mDow (c : CS) (fl ln : Int) : CS := sS (sA (sA (sA (sS c 0 0) 3 (upZ (c.2 3) (c.1 4) fl)) 4 (upZ (c.2 4) (c.1 4) ln)) 5 (upZ (c.2 5) (c.1 4) 50)) 4 (c.1 4 + 1)
def jMark (mk : Int) : Nat := if ¬ (1 ≤ mk ∧ mk ≤ 30) then 1 else 0
abbrev mMk (c : CS) (d sp : Int) : Prop := ¬ (c.1 5 = 60 ∨ 0 < c.2 8 sp ∨ mBnd c d sp < c.1 1)
def mMkC (c : CS) (d sp : Int) : CS := if mMk c d sp then sS (sA c 8 (upZ (c.2 8) sp (d + 1))) 5 (c.1 5 + 1) else c
theorem mMkC_IM {B : Int} {c : CS} (h : IM B c) {d sp : Int} (hd : 0 ≤ d ∧ d < 5) : IM B (mMkC c d sp) := by
  have hs := h.s
  unfold mMkC
  by_cases q : mMk c d sp
  · rw [if_pos q]
    have q2 : ¬ c.1 5 = 60 := fun z => q (Or.inl z)
    have h1 : IM B (sA c 8 (upZ (c.2 8) sp (d + 1))) := h.u8 (by omega)
    exact h1.n5 (by omega)
  · rw [if_neg q]; exact h
def mwC (c : CS) (d : Int) (f : Nat → Int) : Nat → CS
  | 0 => c
  | n + 1 => mMkC (mwC c d f n) d (f n)
def mwR (c : CS) (d : Int) (f : Nat → Int) : Nat → Int
  | 0 => 0
  | n + 1 => mwR c d f n + b01 (mMk (mwC c d f n) d (f n))
theorem mwC_IM {B : Int} {c : CS} (h : IM B c) {d : Int} (hd : 0 ≤ d ∧ d < 5) (f : Nat → Int) : ∀ n : Nat, IM B (mwC c d f n)
  | 0 => h
  | n + 1 => mMkC_IM (mwC_IM h hd f n) hd
def jWalk (c : CS) (d x y tx ty : Int) : Nat := if ¬ (mD c d ∧ inF x y ∧ inF tx ty) then 1 else 0
def acr (x tx : Int) : Int := if tx < x then -1 else 1
def m1 (x y tx : Int) : Nat → Int := fun n => 20 * y + (x + acr x tx * (n : Int))
def m2 (y tx ty : Int) : Nat → Int := fun n => 20 * (y + acr y ty * (n : Int)) + tx
def mWkA (c : CS) (d x y tx : Int) : CS := mwC (sS c 0 0) d (m1 x y tx) (ab (tx - x)).toNat
def mWkB (c : CS) (d x y tx ty : Int) : CS := mwC (mWkA c d x y tx) d (m2 y tx ty) (ab (ty - y)).toNat
def mWkC (c : CS) (d x y tx ty : Int) : CS := mMkC (mWkB c d x y tx ty) d (20 * ty + tx)
def mWkR (c : CS) (d x y tx ty : Int) : Int := (mwR (sS c 0 0) d (m1 x y tx) (ab (tx - x)).toNat + mwR (mWkA c d x y tx) d (m2 y tx ty) (ab (ty - y)).toNat) + b01 (mMk (mWkB c d x y tx ty) d (20 * ty + tx))
def jPull (c : CS) (x y : Int) : Nat := if ¬ inF x y then 1 else if c.2 8 (20 * y + x) = 0 then 2 else 0
def mPull (c : CS) (x y : Int) : CS := sS (sA (sS c 0 0) 8 (upZ (c.2 8) (20 * y + x) 0)) 5 (c.1 5 - 1)
def jPit (c : CS) (x y : Int) : Nat := if ¬ inF x y then 1 else if c.1 6 = 10 ∨ mPA (sS c 0 0) (20 * y + x) ≠ -1 then 2 else 0
def mPit (c : CS) (x y : Int) : CS := sS (sA (sA (sS c 0 0) 9 (upZ (c.2 9) (c.1 6) (20 * y + x))) 10 (upZ (c.2 10) (c.1 6) (mDep (sA (sS c 0 0) 9 (upZ (c.2 9) (c.1 6) (20 * y + x))) (20 * y + x) (c.1 3).toNat))) 6 (c.1 6 + 1)
abbrev mF (c : CS) (q : Int) : Prop := 0 < c.2 10 q ∧ c.2 10 q ≤ c.2 11 q
abbrev mO (c : CS) (q : Int) : Prop := mF c q ∨ c.2 11 q = 20
def jBet (c : CS) (d q co9 : Int) : Nat := if ¬ (mD c d ∧ mP c q) then 1 else if ¬ (1 ≤ co9 ∧ co9 ≤ 99) then 2 else if 0 < c.2 11 q ∨ c.2 12 (5 * q + d) ≠ 0 ∨ c.2 5 d < co9 then 3 else 0
def mBet (c : CS) (d q co9 f : Int) : CS := sA (sA (sS c 0 0) 5 (upZ (c.2 5) d (c.2 5 d - co9))) 12 (upZ (c.2 12) (5 * q + d) (if f = 1 then co9 else -co9))
def mOwn (c : CS) (q d f : Int) : Int := if f = 1 then c.2 12 (5 * q + d) else -c.2 12 (5 * q + d)
theorem mOwn_b {B : Int} {c : CS} (h : IM B c) (q d f : Int) : -99 ≤ mOwn c q d f ∧ mOwn c q d f ≤ 99 := by
  have h1 := h.r12 (5 * q + d)
  unfold mOwn
  split <;> omega
def mBO (c : CS) (q f : Int) (n : Nat) : Int := sm (fun d => max 0 (mOwn c q d f)) n
theorem mBO_b {B : Int} {c : CS} (h : IM B c) (q f : Int) (n : Nat) : 0 ≤ mBO c q f n ∧ mBO c q f n ≤ 99 * n := by
  have h1 := sm_b (f := fun d => max 0 (mOwn c q d f)) (lo := 0) (hi := 99) n (fun j _ _ => by have := mOwn_b h q j f; show 0 ≤ max 0 _ ∧ max 0 _ ≤ 99; omega)
  unfold mBO
  omega
theorem mBO_ge {B : Int} {c : CS} (h : IM B c) (q f : Int) : ∀ (n : Nat) (d : Int), 0 ≤ d → d < n → mOwn c q d f ≤ mBO c q f n
  | 0, d, h0, h1 => by omega
  | n + 1, d, h0, h1 => by
    have h2 := mBO_b h q f n
    show _ ≤ mBO c q f n + max 0 (mOwn c q (n : Int) f)
    by_cases e : d = n
    · subst e; omega
    · have := mBO_ge h q f n d h0 (by omega); omega
def mSh (c : CS) (q d f : Int) : Int := if mOwn c q d f ≤ 0 then 0 else (mBO c q 1 5 + mBO c q 0 5) * mOwn c q d f / mBO c q f 5
theorem mSh_b {B : Int} {c : CS} (h : IM B c) (q d f : Int) : 0 ≤ mSh c q d f ∧ mSh c q d f ≤ 98010 := by
  have h1 := mBO_b h q 1 5
  have h0 := mBO_b h q 0 5
  have hf := mBO_b h q f 5
  have ho := mOwn_b h q d f
  unfold mSh
  split
  · omega
  · have hp := prod_b (x := mBO c q 1 5 + mBO c q 0 5) (y := mOwn c q d f) (m := 990) (n := 99) (by omega) (by omega)
    exact div_b (by omega) hf.1
/-- one dowser is paid -/
def mPay1 (c : CS) (q f d : Int) : CS :=
  if c.2 12 (5 * q + d) = 0 then sA c 5 (upZ (c.2 5) d (c.2 5 d + mSh c q d f))
  else if b01 (0 < c.2 12 (5 * q + d)) = f then sA (sA c 5 (upZ (c.2 5) d (c.2 5 d + mSh c q d f))) 6 (upZ (c.2 6) d (c.2 6 d + 1))
  else sA (sA c 5 (upZ (c.2 5) d (c.2 5 d + mSh c q d f))) 7 (upZ (c.2 7) d (c.2 7 d + 1))
def mPyD (c : CS) (q f : Int) : Nat → CS
  | 0 => c
  | n + 1 => mPay1 (mPyD c q f n) q f (n : Int)
def mLft (c : CS) (q f : Int) : Nat → Int
  | 0 => mBO c q 1 5 + mBO c q 0 5
  | n + 1 => mLft c q f n - mSh (mPyD c q f n) q (n : Int) f
def mPay (c : CS) (q : Int) : CS := sS (mPyD c q (b01 (mF c q)) (c.1 4).toNat) 2 ((mPyD c q (b01 (mF c q)) (c.1 4).toNat).1 2 + mLft c q (b01 (mF c q)) (c.1 4).toNat)
theorem mPay1_c (c : CS) (q f d : Int) : (mPay1 c q f d).1 = c.1 ∧ (mPay1 c q f d).2 5 = upZ (c.2 5) d (c.2 5 d + mSh c q d f) ∧ ∀ k : Nat, k ≠ 5 → k ≠ 6 → k ≠ 7 → (mPay1 c q f d).2 k = c.2 k := by
  have hb : ∀ (k j : Nat), k ≠ j → Nat.beq k j = false := fun k j hk => by
    cases hb : Nat.beq k j with
    | false => rfl
    | true => exact absurd (Nat.eq_of_beq_eq_true hb) hk
  unfold mPay1
  split
  · exact ⟨rfl, rfl, fun k h5 _ _ => by show (bif Nat.beq k 5 then _ else _) = _; rw [hb k 5 h5]; rfl⟩
  · split
    · exact ⟨rfl, rfl, fun k h5 h6 _ => by show (bif Nat.beq k 6 then _ else (bif Nat.beq k 5 then _ else _)) = _; rw [hb k 6 h6, hb k 5 h5]; rfl⟩
    · exact ⟨rfl, rfl, fun k h5 _ h7 => by show (bif Nat.beq k 7 then _ else (bif Nat.beq k 5 then _ else _)) = _; rw [hb k 7 h7, hb k 5 h5]; rfl⟩
theorem mPyD_c (c : CS) (q f : Int) : ∀ n : Nat, (mPyD c q f n).1 = c.1 ∧ ∀ k : Nat, k ≠ 5 → k ≠ 6 → k ≠ 7 → (mPyD c q f n).2 k = c.2 k
  | 0 => ⟨rfl, fun _ _ _ _ => rfl⟩
  | n + 1 => by
    have h1 := mPyD_c c q f n
    have h2 := mPay1_c (mPyD c q f n) q f (n : Int)
    exact ⟨h2.1.trans h1.1, fun k a b d => (h2.2.2 k a b d).trans (h1.2 k a b d)⟩
theorem mPyD_sh (c : CS) (q f : Int) (n : Nat) (q' d f' : Int) : mSh (mPyD c q f n) q' d f' = mSh c q' d f' := by
  have h := (mPyD_c c q f n).2 12 (by decide) (by decide) (by decide)
  unfold mSh mBO mOwn
  rw [h]
theorem mPyD_5 (c : CS) (q f : Int) : ∀ (n : Nat) (j : Int), (mPyD c q f n).2 5 j = if 0 ≤ j ∧ j < n then c.2 5 j + mSh c q j f else c.2 5 j
  | 0, j => by rw [if_neg (by omega)]; rfl
  | n + 1, j => by
    have h1 := mPyD_5 c q f n j
    have h2 := (mPay1_c (mPyD c q f n) q f (n : Int)).2.1
    show (mPay1 (mPyD c q f n) q f (n : Int)).2 5 j = _
    rw [h2, mPyD_sh]
    unfold upZ
    by_cases e : j = n
    · subst e
      have h3 := mPyD_5 c q f n (n : Int)
      rw [if_neg (by omega)] at h3
      rw [if_pos rfl, if_pos (by omega), h3]
    · rw [if_neg e, h1]
      by_cases e2 : 0 ≤ j ∧ j < n
      · rw [if_pos e2, if_pos (by omega)]
      · rw [if_neg e2, if_neg (by omega)]
theorem mPay1_IM {B : Int} {c : CS} (h : IM B c) (q f d : Int) (hc : -B ≤ c.2 5 d + mSh c q d f ∧ c.2 5 d + mSh c q d f ≤ B) : IM B (mPay1 c q f d) := by
  have h1 : IM B (sA c 5 (upZ (c.2 5) d (c.2 5 d + mSh c q d f))) := h.u5 hc
  unfold mPay1
  split
  · exact h1
  · split
    · exact h1.a6
    · exact h1.a7
theorem mPyD_IM {B : Int} {c : CS} (h : IM B c) (hB : B ≤ 900000000) (q f : Int) : ∀ n : Nat, IM (B + 100000) (mPyD c q f n)
  | 0 => h.mono (by omega)
  | n + 1 => by
    have h1 := mSh_b h q (n : Int) f
    have h2 := h.r5 (n : Int)
    have h3 := mPyD_5 c q f n (n : Int)
    rw [if_neg (by omega)] at h3
    have h4 := mPyD_sh c q f n q (n : Int) f
    exact mPay1_IM (mPyD_IM h hB q f n) q f (n : Int) (by rw [h3, h4]; omega)
theorem mPay_IM {B : Int} {c : CS} (h : IM B c) (hB : B ≤ 900000000) (q : Int) : IM (B + 100000) (mPay c q) := (mPyD_IM h hB q _ _).n2
def jDig (c : CS) (q by9 : Int) : Nat := if ¬ mP c q then 1 else if ¬ (1 ≤ by9 ∧ by9 ≤ 20) then 2 else if mO c q then 3 else 0
def mDpn (c : CS) (q by9 : Int) : Int := min (c.2 11 q + by9) (if 0 < c.2 10 q then c.2 10 q else 20)
theorem mDpn_b {B : Int} {c : CS} (h : IM B c) (q : Int) {by9 : Int} (hb : 1 ≤ by9 ∧ by9 ≤ 20) : 0 ≤ mDpn c q by9 ∧ mDpn c q by9 ≤ 20 := by
  have h1 := h.r10 q
  have h2 := h.r11 q
  unfold mDpn
  split <;> omega
def mDp (c : CS) (q by9 : Int) : CS := sA (sS c 0 0) 11 (upZ (c.2 11) q (mDpn c q by9))
theorem mDp_IM {B : Int} {c : CS} (h : IM B c) (q : Int) {by9 : Int} (hb : 1 ≤ by9 ∧ by9 ≤ 20) : IM B (mDp c q by9) := (h.n0 (v := 0)).u11 (mDpn_b h q hb)
def mDig (c : CS) (q by9 : Int) : CS := if mO (mDp c q by9) q then mPay (mDp c q by9) q else mDp c q by9
theorem mPay_row (c : CS) (q : Int) (k : Nat) (h5 : k ≠ 5) (h6 : k ≠ 6) (h7 : k ≠ 7) : (mPay c q).2 k = c.2 k := (mPyD_c c q _ _).2 k h5 h6 h7
def mSpT (c : CS) (sp what : Int) : Int := if what = 0 then mWat c sp (c.1 3).toNat else if what = 1 then mDep c sp (c.1 3).toNat else if what = 2 then c.2 8 sp - 1 else if what = 3 then mPA c sp else if what = 4 then mPN c sp else mNr c sp 400
def mPgO (c : CS) (d t : Int) : Int := sm (fun k => b01 (¬ (c.2 8 k = 0 ∨ (d ≠ -1 ∧ c.2 8 k ≠ d + 1)) ∧ (t = 0 ∨ 0 < mWat c k (c.1 3).toNat))) 400
theorem mPgO_b (c : CS) (d t : Int) : 0 ≤ mPgO c d t ∧ mPgO c d t ≤ 400 := by
  have h := sm_b (f := fun k => b01 (¬ (c.2 8 k = 0 ∨ (d ≠ -1 ∧ c.2 8 k ≠ d + 1)) ∧ (t = 0 ∨ 0 < mWat c k (c.1 3).toNat))) (lo := 0) (hi := 1) 400 (fun j _ _ => b01_01 _)
  unfold mPgO
  omega
def mInB (c : CS) (d : Int) : Int := sm (fun k => if mO c k then 0 else ab (c.2 12 (5 * k + d))) (c.1 6).toNat
def mDoT (c : CS) (d what : Int) : Int := if what = 0 then c.2 3 d else if what = 1 then c.2 4 d else if what = 2 then c.2 5 d else if what = 3 then mPgO c d 0 else if what = 4 then mPgO c d 1 else if what = 5 then mInB c d else if what = 6 then c.2 6 d else c.2 7 d
def mPiT (c : CS) (q what : Int) : Int := if what = 0 then c.2 9 q % 20 else if what = 1 then c.2 9 q / 20 else if what = 2 then c.2 11 q else if what = 3 then b01 (mF c q) else if what = 4 then b01 (mO c q) else mBO c q (b01 (what = 5)) 5
def mWet (c : CS) : Int := sm (fun k => b01 (0 < mWat c k (c.1 3).toNat)) 400
def mCnt (c : CS) (what : Int) : Int := if what = 0 then c.1 3 else if what = 1 then c.1 4 else if what = 2 then c.1 5 else if what = 3 then c.1 6 else if what = 4 then c.1 1 else if what = 5 then mWet c else if what = 6 then mPgO c (-1) 1 else if what = 7 then c.1 2 else sm (fun d => c.2 5 d) (c.1 4).toNat
def lnOf (kd k : Int) : Int := if kd = 0 then k / 20 else if kd = 1 then k % 20 else if kd = 2 then k % 20 - k / 20 else k % 20 + k / 20
def mOn (c : CS) (kd nb : Int) : Int := sm (fun k => b01 (0 < c.2 8 k ∧ lnOf kd k = nb)) 400
theorem mOn_b (c : CS) (kd nb : Int) : 0 ≤ mOn c kd nb ∧ mOn c kd nb ≤ 400 := by
  have h := sm_b (f := fun k => b01 (0 < c.2 8 k ∧ lnOf kd k = nb)) (lo := 0) (hi := 1) 400 (fun j _ _ => b01_01 _)
  unfold mOn
  omega
def mLi (c : CS) (kd : Int) (s : Int × Int × Int) : Nat → Int × Int × Int
  | 0 => s
  | n + 1 => if mOn c kd ((n : Int) - 19) ≤ (mLi c kd s n).1 then mLi c kd s n else (mOn c kd ((n : Int) - 19), kd, (n : Int) - 19)
def mLo (c : CS) : Nat → Int × Int × Int
  | 0 => (0, -1, -1)
  | n + 1 => mLi c (n : Int) (mLo c n) 59
theorem mLi_b (c : CS) (kd : Int) {s : Int × Int × Int} (h : 0 ≤ s.1 ∧ s.1 ≤ 400) : ∀ n : Nat, 0 ≤ (mLi c kd s n).1 ∧ (mLi c kd s n).1 ≤ 400
  | 0 => h
  | n + 1 => by
    rw [mLi]
    split
    · exact mLi_b c kd h n
    · exact mOn_b c kd _
theorem mLo_b (c : CS) : ∀ n : Nat, 0 ≤ (mLo c n).1 ∧ (mLo c n).1 ≤ 400
  | 0 => by simp [mLo]
  | n + 1 => mLi_b c (n : Int) (mLo_b c n) 59
def mLnT (c : CS) (what : Int) : Int := if what = 0 then (mLo c 4).1 else if what = 1 then (mLo c 4).2.1 else (mLo c 4).2.2
def mWld (c : CS) (q d f : Int) : Int := if mO c q then 0 else mSh c q d f
def mBst (c : CS) (d : Int) : Int := fm (mBnd c d) 400
def mBsT (c : CS) (d what : Int) : Int := if what = 0 then mBst c d % 20 else if what = 1 then mBst c d / 20 else mBnd c d (mBst c d)
def mAdv (c : CS) : Nat → Int
  | 0 => -1
  | n + 1 => if mPgO c (n : Int) 0 = 0 then mAdv c n else if mAdv c n = -1 then (n : Int) else if 0 < mPgO c (n : Int) 1 * mPgO c (mAdv c n) 0 - mPgO c (mAdv c n) 1 * mPgO c (n : Int) 0 ∨ (mPgO c (n : Int) 1 * mPgO c (mAdv c n) 0 - mPgO c (mAdv c n) 1 * mPgO c (n : Int) 0 = 0 ∧ mPgO c (mAdv c n) 0 < mPgO c (n : Int) 0) then (n : Int) else mAdv c n
theorem mAdv_s (c : CS) (n : Nat) : mAdv c (n + 1) = (n : Int) ∨ mAdv c (n + 1) = mAdv c n := by
  rw [mAdv]
  split
  · exact Or.inr rfl
  · split
    · exact Or.inl rfl
    · split
      · exact Or.inl rfl
      · exact Or.inr rfl
theorem mAdv_b (c : CS) : ∀ n : Nat, -1 ≤ mAdv c n ∧ mAdv c n < n
  | 0 => by simp [mAdv]
  | n + 1 => by
    have h1 := mAdv_b c n
    rcases mAdv_s c n with e | e <;> rw [e] <;> omega
def mMeW (c : CS) : Int := sm (fun k => if 0 < c.2 8 k then mWat c k (c.1 3).toNat else 0) 400
def mDgs (c : CS) : Int64 := dgO (mSpT c) 4 (dgO (mPiT c) 7 (dgO (mDoT c) 8 (dg (mCnt c) 1801 9) (c.1 4).toNat) (c.1 6).toNat) 400
def jSpot (x y w : Int) : Nat := if ¬ (inF x y ∧ 0 ≤ w ∧ w ≤ 5) then 1 else 0
def jRod (c : CS) (d x y : Int) : Nat := if ¬ (mD c d ∧ inF x y) then 1 else 0
def jTold (c : CS) (d w : Int) : Nat := if ¬ (mD c d ∧ 0 ≤ w ∧ w ≤ 7) then 1 else 0
def jAbout (c : CS) (q w : Int) : Nat := if ¬ (mP c q ∧ 0 ≤ w ∧ w ≤ 6) then 1 else 0
def jCount (w : Int) : Nat := if ¬ (0 ≤ w ∧ w ≤ 8) then 1 else 0
def jLine (w : Int) : Nat := if ¬ (0 ≤ w ∧ w ≤ 2) then 1 else 0
def jWould (c : CS) (q d : Int) : Nat := if ¬ (mP c q ∧ mD c d) then 1 else 0
def jBest (c : CS) (d w : Int) : Nat := if ¬ (mD c d ∧ 0 ≤ w ∧ w ≤ 2) then 1 else 0
theorem acr_in {x tx : Int} (h : (0 ≤ x ∧ x ≤ 19) ∧ 0 ≤ tx ∧ tx ≤ 19) {k : Int} (hk : 0 ≤ k ∧ k ≤ ab (tx - x)) : 0 ≤ x + acr x tx * k ∧ x + acr x tx * k ≤ 19 := by
  unfold ab at hk
  unfold acr
  split <;> omega
theorem acr_ab (x tx : Int) : x + acr x tx * ab (tx - x) = tx := by
  unfold acr ab
  split <;> split <;> omega
theorem acr_ne {x tx k : Int} (h : 0 ≤ k ∧ k < ab (tx - x)) : ¬ x + acr x tx * k = tx := by
  unfold ab at h
  unfold acr
  split <;> omega
