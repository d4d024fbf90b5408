/-! WHAT THE CLASS'S METHODS ANSWER AND DO, in words over the state -/
theorem sm_b {f : Int → Int} {lo hi : Int} : ∀ n : Nat, (∀ j : Int, 0 ≤ j → j < n → lo ≤ f j ∧ f j ≤ hi) → lo * n ≤ sm f n ∧ sm f n ≤ hi * n
  | 0, _ => by simp [sm]
  | n + 1, h => by
    have h1 := sm_b (f := f) (lo := lo) (hi := hi) n (fun j h0 h1 => h j h0 (by omega))
    have h2 := h (n : Int) (by omega) (by omega)
    have e1 : lo * ((n + 1 : Nat) : Int) = lo * n + lo := by show lo * ((n : Int) + 1) = _; rw [Int.mul_add, Int.mul_one]
    have e2 : hi * ((n + 1 : Nat) : Int) = hi * n + hi := by show hi * ((n : Int) + 1) = _; rw [Int.mul_add, Int.mul_one]
    show lo * ((n + 1 : Nat) : Int) ≤ sm f n + f n ∧ sm f n + f n ≤ hi * ((n + 1 : Nat) : Int)
    rw [e1, e2]
    omega
theorem sm_congr {f f' : Int → Int} : ∀ n : Nat, (∀ j : Int, 0 ≤ j → j < n → f j = f' j) → sm f n = sm f' n
  | 0, _ => rfl
  | n + 1, h => by
    show sm f n + f n = sm f' n + f' n
    rw [sm_congr n (fun j h0 h1 => h j h0 (by omega)), h n (by omega) (by omega)]
theorem ab_le {x n : Int} (h : -n ≤ x ∧ x ≤ n) : 0 ≤ ab x ∧ ab x ≤ n := by
  unfold ab
  by_cases q : 0 ≤ x
  · rw [if_pos q]; omega
  · rw [if_neg q]; omega
theorem ab_comm (x y : Int) : ab (x - y) = ab (y - x) := by
  unfold ab
  by_cases q : 0 ≤ x - y
  · rw [if_pos q]
    by_cases q2 : 0 ≤ y - x
    · rw [if_pos q2]; omega
    · rw [if_neg q2]; omega
  · rw [if_neg q, if_pos (by omega)]; omega
/-- how far two spots are from each other -/
def dist (i j : Int) : Int := ab (i % 20 - j % 20) + ab (i / 20 - j / 20)
theorem dist_b {i j : Int} (h : 0 ≤ i ∧ i < 400 ∧ 0 ≤ j ∧ j < 400) : 0 ≤ dist i j ∧ dist i j ≤ 38 := by
  have h1 := ab_le (x := i % 20 - j % 20) (n := 19) (by omega)
  have h2 := ab_le (x := i / 20 - j / 20) (n := 19) (by omega)
  unfold dist
  omega
theorem dist_comm (i j : Int) : dist i j = dist j i := by
  unfold dist
  rw [ab_comm (i % 20), ab_comm (i / 20)]
def sgn (x : Int) : Int := if 0 < x then 1 else if x < 0 then -1 else 0
abbrev inF (x y : Int) : Prop := (0 ≤ x ∧ x ≤ 19) ∧ 0 ≤ y ∧ y ≤ 19
-- pegs
def pgOf (c : CS) (d : Int) : Int := sm (fun j => b01 (c.2 8 j = d)) 400
theorem pgOf_b (c : CS) (d : Int) : 0 ≤ pgOf c d ∧ pgOf c d ≤ 400 := by
  have h := sm_b (f := fun j => b01 (c.2 8 j = d)) (lo := 0) (hi := 1) 400 (fun j _ _ => b01_01 _)
  unfold pgOf
  omega
def pgAt (c : CS) (x y : Int) : Int := b01 (inF x y ∧ c.2 8 (y * 20 + x) ≠ -1)
def beside (c : CS) (sp : Int) : Int := ((pgAt c (sp % 20 - 1) (sp / 20) + pgAt c (sp % 20 + 1) (sp / 20)) + pgAt c (sp % 20) (sp / 20 - 1)) + pgAt c (sp % 20) (sp / 20 + 1)
def nr (c : CS) (sp : Int) : Nat → Int
  | 0 => -1
  | n + 1 => if c.2 8 (n : Int) ≠ -1 ∧ (nr c sp n < 0 ∨ dist sp n < nr c sp n) then dist sp n else nr c sp n
theorem nr_b {c : CS} {sp : Int} (h : 0 ≤ sp ∧ sp < 400) : ∀ n : Nat, n ≤ 400 → -1 ≤ nr c sp n ∧ nr c sp n ≤ 38
  | 0, _ => by simp [nr]
  | n + 1, hn => by
    have h1 := nr_b (c := c) h n (by omega)
    have h2 := dist_b (i := sp) (j := n) (by omega)
    show -1 ≤ (if _ then _ else _) ∧ (if _ then _ else _) ≤ (38 : Int)
    by_cases q : c.2 8 (n : Int) ≠ -1 ∧ (nr c sp n < 0 ∨ dist sp n < nr c sp n)
    · rw [if_pos q]; omega
    · rw [if_neg q]; exact h1
def bump (F : Int → Int) (i : Int) : Int → Int := upZ F i (F i + 1)
def onL (c : CS) : Nat → Int → Int
  | 0 => fun _ => 0
  | n + 1 => if c.2 8 (n : Int) ≠ -1 then bump (bump (bump (bump (onL c n) ((n : Int) / 20)) (20 + (n : Int) % 20)) ((59 + (n : Int) % 20) - (n : Int) / 20)) ((79 + (n : Int) % 20) + (n : Int) / 20) else onL c n
theorem bump_b {F : Int → Int} {i n : Int} (h : ∀ j, 0 ≤ F j ∧ F j ≤ n) : ∀ j, 0 ≤ bump F i j ∧ bump F i j ≤ n + 1 := fun j => by
  have h1 := h j
  have h2 := h i
  unfold bump upZ
  by_cases q : j = i
  · rw [if_pos q]; omega
  · rw [if_neg q]; omega
theorem onL_b (c : CS) : ∀ n : Nat, ∀ j : Int, 0 ≤ onL c n j ∧ onL c n j ≤ 4 * n
  | 0, j => by simp [onL]
  | n + 1, j => by
    have h1 := onL_b c n
    show 0 ≤ (if _ then _ else _ : Int → Int) j ∧ (if _ then _ else _ : Int → Int) j ≤ 4 * ((n + 1 : Nat) : Int)
    by_cases q : c.2 8 (n : Int) ≠ -1
    · rw [if_pos q]
      have h2 := bump_b (bump_b (bump_b (bump_b h1 (i := (n : Int) / 20)) (i := 20 + (n : Int) % 20)) (i := (59 + (n : Int) % 20) - (n : Int) / 20)) (i := (79 + (n : Int) % 20) + (n : Int) / 20) j
      omega
    · rw [if_neg q]
      have := h1 j
      omega
/-- the first greatest of F 0, .. F (n-1) -/
def fm (F : Int → Int) : Nat → Int
  | 0 => 0
  | n + 1 => if F (fm F n) < F (n : Int) then (n : Int) else fm F n
theorem fm_1 (F : Int → Int) : fm F 1 = 0 := by
  show (if F 0 < F 0 then ((0 : Nat) : Int) else 0) = 0
  by_cases q : F 0 < F 0
  · rw [if_pos q]; rfl
  · rw [if_neg q]
theorem fm_b (F : Int → Int) : ∀ n : Nat, 0 ≤ fm F n ∧ (fm F n < n ∨ n = 0)
  | 0 => by simp [fm]
  | n + 1 => by
    have h1 := fm_b F n
    show 0 ≤ (if _ then _ else _ : Int) ∧ ((if _ then _ else _ : Int) < ((n + 1 : Nat) : Int) ∨ n + 1 = 0)
    by_cases q : F (fm F n) < F (n : Int)
    · rw [if_pos q]; omega
    · rw [if_neg q]
      rcases h1 with ⟨h1, h2 | h2⟩
      · omega
      · subst h2; exact ⟨h1, Or.inl (by simp [fm])⟩
def kindL (q : Int) : Int := if q < 20 then 0 else if q < 40 then 1 else if q < 79 then 2 else 3
def numL (q : Int) : Int := if q < 20 then q else if q < 40 then q - 20 else if q < 79 then q - 59 else q - 79
def lineT (c : CS) (what : Int) : Int := if what = 0 then onL c 400 (fm (onL c 400) 118) else if c.1 4 = 0 then -1 else if what = 1 then kindL (fm (onL c 400) 118) else numL (fm (onL c 400) 118)
-- veins
def vterm (c : CS) (sp feel v : Int) : Int := if c.2 2 (v * 400 + sp) = 2 then c.2 1 v * feel / c.2 0 v else if c.2 2 (v * 400 + sp) = 1 then c.2 1 v * feel / c.2 0 v / 2 else 0
def vbend (c : CS) (sp feel : Int) (n : Nat) : Int := sm (vterm c sp feel) n
theorem prod_b {x y m n : Int} (hx : 0 ≤ x ∧ x ≤ m) (hy : 0 ≤ y ∧ y ≤ n) : 0 ≤ x * y ∧ x * y ≤ m * n := by
  refine ⟨Int.mul_nonneg hx.1 hy.1, ?_⟩
  have h1 : x * y ≤ m * y := Int.mul_le_mul_of_nonneg_right hx.2 hy.1
  have h2 : m * y ≤ m * n := Int.mul_le_mul_of_nonneg_left hy.2 (by omega)
  exact Int.le_trans h1 h2
theorem div_b {x y n : Int} (hx : 0 ≤ x ∧ x ≤ n) (hy : 0 ≤ y) : 0 ≤ x / y ∧ x / y ≤ n := by
  refine ⟨Int.ediv_nonneg hx.1 hy, ?_⟩
  exact Int.le_trans (Int.ediv_le_self y hx.1) hx.2
theorem vw_b {B : Int} {c : CS} (h : IC B c) {feel : Int} (hf : 0 ≤ feel ∧ feel ≤ 9) (v : Int) : (0 ≤ c.2 1 v * feel ∧ c.2 1 v * feel ≤ 81) ∧ (0 ≤ c.2 1 v * feel / c.2 0 v ∧ c.2 1 v * feel / c.2 0 v ≤ 81) := by
  have h1 := prod_b (h.r1 v) hf
  have h2 := h.r0 v
  exact ⟨by omega, div_b (by omega) h2.1⟩
theorem vterm_b {B : Int} {c : CS} (h : IC B c) {feel : Int} (hf : 0 ≤ feel ∧ feel ≤ 9) (sp v : Int) : 0 ≤ vterm c sp feel v ∧ vterm c sp feel v ≤ 81 := by
  have h1 := (vw_b h hf v).2
  unfold vterm
  by_cases q : c.2 2 (v * 400 + sp) = 2
  · rw [if_pos q]; exact h1
  · rw [if_neg q]
    by_cases q : c.2 2 (v * 400 + sp) = 1
    · rw [if_pos q]; omega
    · rw [if_neg q]; omega
theorem vbend_b {B : Int} {c : CS} (h : IC B c) {feel : Int} (hf : 0 ≤ feel ∧ feel ≤ 9) (sp : Int) {n : Nat} (hn : n ≤ 6) : 0 ≤ vbend c sp feel n ∧ vbend c sp feel n ≤ 486 := by
  have h1 := sm_b (f := vterm c sp feel) (lo := 0) (hi := 81) n (fun j _ _ => vterm_b h hf sp j)
  unfold vbend
  omega
def wet (c : CS) : Int := sm (fun j => b01 (0 < c.2 3 j)) 400
def rse (c : CS) (v x y lv : Int) : CS := if inF x y then sA c 2 (upZ (c.2 2) (v * 400 + (y * 20 + x)) (max (c.2 2 (v * 400 + (y * 20 + x))) lv)) else c
def cov5 (c : CS) (v x y : Int) : CS := rse (rse (rse (rse (rse c v x y 2) v (x - 1) y 1) v (x + 1) y 1) v x (y - 1) 1) v x (y + 1) 1
def shlw (c : CS) (v sp : Int) : Int := if c.2 4 sp = 0 ∨ c.2 0 v < c.2 4 sp then c.2 0 v else c.2 4 sp
def covW (c : CS) (v sp : Int) : CS := sA (sA c 3 (upZ (c.2 3) sp (c.2 3 sp + c.2 1 v))) 4 (upZ (c.2 4) sp (shlw c v sp))
def cov (c : CS) (v x y : Int) : CS := covW (cov5 c v x y) v (y * 20 + x)
def lay (c : CS) (v x y dx dy : Int) : Nat → CS
  | 0 => c
  | n + 1 => cov (lay c v x y dx dy n) v (x + (n : Int) * dx) (y + (n : Int) * dy)
-- dowsers, pits
def allC (c : CS) : Int := sm (fun j => c.2 7 j) (c.1 3).toNat
abbrev fnd (c : CS) (q : Int) : Prop := 0 < c.2 12 q ∧ c.2 12 q ≤ c.2 13 q
abbrev over (c : CS) (q : Int) : Prop := fnd c q ∨ 20 ≤ c.2 13 q
def dpn (c : CS) (q by' : Int) : Int := min (if 0 < c.2 12 q then c.2 12 q else 20) (c.2 13 q + by')
def stk (c : CS) (q d f : Int) : Int := if c.2 15 (q * 5 + d) = f then c.2 14 (q * 5 + d) else 0
theorem stk_b {B : Int} {c : CS} (h : IC B c) (q d f : Int) : 0 ≤ stk c q d f ∧ stk c q d f ≤ 99 := by
  have h1 := h.r14 (q * 5 + d)
  unfold stk
  by_cases w : c.2 15 (q * 5 + d) = f
  · rw [if_pos w]; exact h1
  · rw [if_neg w]; omega
def stOn (c : CS) (q f : Int) : Int := sm (fun d => stk c q d f) 5
theorem stOn_b {B : Int} {c : CS} (h : IC B c) (q f : Int) : 0 ≤ stOn c q f ∧ stOn c q f ≤ 495 := by
  have h1 := sm_b (f := fun d => stk c q d f) (lo := 0) (hi := 99) 5 (fun j _ _ => stk_b h q j f)
  unfold stOn
  omega
def allS (c : CS) (q : Int) : Int := stOn c q 1 + stOn c q 0
def shr (c : CS) (q d f : Int) : Int := allS c q * stk c q d f / stOn c q f
theorem shr_b {B : Int} {c : CS} (h : IC B c) (q d f : Int) : (0 ≤ allS c q ∧ allS c q ≤ 990) ∧ (0 ≤ allS c q * stk c q d f ∧ allS c q * stk c q d f ≤ 98010) ∧ (0 ≤ shr c q d f ∧ shr c q d f ≤ 98010) := by
  have h1 := stOn_b h q 1
  have h0 := stOn_b h q 0
  have hf := stOn_b h q f
  have ha : 0 ≤ allS c q ∧ allS c q ≤ 990 := by unfold allS; omega
  have hp := prod_b ha (stk_b h q d f)
  refine ⟨ha, by omega, ?_⟩
  have := div_b (n := 98010) ⟨hp.1, by omega⟩ hf.1
  exact this
def unp (c : CS) (d : Int) : Int := sm (fun q => if over c q then 0 else c.2 14 (q * 5 + d)) (c.1 5).toNat
def pbets (c : CS) (d rt : Int) : Int := sm (fun q => b01 ((over c q ∧ 0 < c.2 14 (q * 5 + d)) ∧ b01 (c.2 15 (q * 5 + d) = b01 (fnd c q)) = rt)) (c.1 5).toNat
def pitT (c : CS) (q what : Int) : Int := if what = 0 then c.2 11 q % 20 else if what = 1 then c.2 11 q / 20 else if what = 2 then c.2 13 q else if what = 3 then b01 (fnd c q) else if what = 4 then b01 (over c q) else if what = 5 then stOn c q 1 else stOn c q 0
-- the class's own
def bendC (c : CS) (d sp : Int) : Int := max 0 (vbend c sp (c.2 5 d) (c.1 2).toNat + c.2 6 d)
theorem bendC_b {B : Int} {c : CS} (h : IC B c) (d sp : Int) : 0 ≤ bendC c d sp ∧ bendC c d sp ≤ 489 := by
  have hs := h.s
  have h1 := vbend_b h (h.r5 d) sp (n := (c.1 2).toNat) (by omega)
  have h2 := h.r6 d
  unfold bendC
  omega
def bestS (c : CS) (d : Int) : Int := fm (bendC c d) 400
abbrev mrk (c : CS) (d sp : Int) : Prop := ¬ (60 ≤ c.1 4 ∨ c.2 8 sp ≠ -1 ∨ bendC c d sp < c.1 0)
def mrkC (c : CS) (d sp : Int) : CS := if mrk c d sp then sS (sA c 8 (upZ (c.2 8) sp d)) 4 (c.1 4 + 1) else c
abbrev truP (c : CS) (sp : Int) : Prop := c.2 8 sp ≠ -1 ∧ 0 < c.2 3 sp
def truOf (c : CS) (d : Int) : Int := sm (fun j => b01 (c.2 8 j = d ∧ truP c j)) 400
theorem truOf_b (c : CS) (d : Int) : 0 ≤ truOf c d ∧ truOf c d ≤ 400 := by
  have h := sm_b (f := fun j => b01 (c.2 8 j = d ∧ truP c j)) (lo := 0) (hi := 1) 400 (fun j _ _ => b01_01 _)
  unfold truOf
  omega
def truAll (c : CS) : Int := sm (fun j => b01 (truP c j)) 400
def spotT (c : CS) (sp what : Int) : Int := if what = 0 then c.2 3 sp else if what = 1 then c.2 4 sp else if what = 2 then c.2 8 sp else if what = 3 then c.2 10 sp else if what = 4 then beside c sp else nr c sp 400
def dowT (c : CS) (d what : Int) : Int := if what = 0 then c.2 5 d else if what = 1 then c.2 6 d else if what = 2 then c.2 7 d else if what = 3 then pgOf c d else if what = 4 then truOf c d else if what = 5 then unp c d else if what = 6 then pbets c d 1 else pbets c d 0
def cntT (c : CS) (what : Int) : Int := if what = 0 then c.1 2 else if what = 1 then c.1 3 else if what = 2 then c.1 4 else if what = 3 then c.1 5 else if what = 4 then c.1 0 else if what = 5 then wet c else if what = 6 then truAll c else if what = 7 then c.1 1 else allC c
/-- payBets: the dowsers 0 .. n-1 have got their shares -/
def payD (c : CS) (q f : Int) : Nat → CS
  | 0 => c
  | n + 1 => sA (payD c q f n) 7 (upZ ((payD c q f n).2 7) (n : Int) ((payD c q f n).2 7 (n : Int) + shr (payD c q f n) q (n : Int) f))
def left (c : CS) (q f : Int) : Nat → Int
  | 0 => allS c q
  | n + 1 => left c q f n - shr (payD c q f n) q (n : Int) f
def payC (c : CS) (q : Int) : CS := sS (payD c q (b01 (fnd c q)) (c.1 3).toNat) 1 ((payD c q (b01 (fnd c q)) (c.1 3).toNat).1 1 + left c q (b01 (fnd c q)) (c.1 3).toNat)
-- walks
def wkC (c : CS) (d : Int) (f : Nat → Int) : Nat → CS
  | 0 => c
  | n + 1 => mrkC (wkC c d f n) d (f n)
def wkR (c : CS) (d : Int) (f : Nat → Int) : Nat → Int
  | 0 => 0
  | n + 1 => wkR c d f n + b01 (mrk (wkC c d f n) d (f n))
-- whom to follow
def pq (c : CS) (a : Int) : Int := if a = -1 then 0 else pgOf c a
def tq (c : CS) (a : Int) : Int := if a = -1 then 0 else truOf c a
abbrev tru (tr st otr ost : Int) : Prop := otr * st < tr * ost ∨ (tr * ost = otr * st ∧ ost < st)
def adv (c : CS) : Nat → Int
  | 0 => -1
  | n + 1 => if 0 < pgOf c (n : Int) ∧ (adv c n = -1 ∨ tru (truOf c (n : Int)) (pgOf c (n : Int)) (tq c (adv c n)) (pq c (adv c n))) then (n : Int) else adv c n
theorem adv_s (c : CS) (n : Nat) : adv c (n + 1) = (n : Int) ∨ adv c (n + 1) = adv c n := by
  rw [adv]
  split
  · exact Or.inl rfl
  · exact Or.inr rfl
theorem adv_b (c : CS) : ∀ n : Nat, -1 ≤ adv c n ∧ adv c n < n
  | 0 => by simp [adv]
  | n + 1 => by
    have h1 := adv_b c n
    rcases adv_s c n with e | e <;> rw [e] <;> omega
theorem pq_b (c : CS) (a : Int) : 0 ≤ pq c a ∧ pq c a ≤ 400 := by
  have h := pgOf_b c a
  unfold pq
  by_cases q : a = -1
  · rw [if_pos q]; omega
  · rw [if_neg q]; exact h
theorem tq_b (c : CS) (a : Int) : 0 ≤ tq c a ∧ tq c a ≤ 400 := by
  have h := truOf_b c a
  unfold tq
  by_cases q : a = -1
  · rw [if_pos q]; omega
  · rw [if_neg q]; exact h
/-- a digest over a table of w columns -/
def dgO (f : Int → Int → Int) (w : Nat) (d : Int64) : Nat → Int64
  | 0 => d
  | n + 1 => dg (f (n : Int)) (dgO f w d n) w
def digC (c : CS) : Int64 := dgO (spotT c) 4 (dgO (pitT c) 7 (dgO (dowT c) 8 (dg (cntT c) 1801 9) (c.1 3).toNat) (c.1 5).toNat) 400
def meanW (c : CS) : Int := sm (fun j => if c.2 8 j ≠ -1 then c.2 3 j else 0) 400
