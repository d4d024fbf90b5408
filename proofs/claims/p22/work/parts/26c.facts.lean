/-! WHAT THE LAW LOOKS AT: words, and what is so of them -/
/-! THE LAST LOOK: what the class tells is what the law's own field holds -/
theorem b01_is {p : Prop} [Decidable p] {v : Int} (h : (p ∧ v = 1) ∨ (¬ p ∧ v = 0)) : v = b01 p := by
  rcases h with ⟨h, rfl⟩ | ⟨h, rfl⟩
  · exact (b01_t h).symm
  · exact (b01_f h).symm
theorem rw_at {g : ClassId × ClassId × ClassId} {r : Nat → Nat} {w n : Nat} {F : Int → Int → Int} {W : va_W} {i : Int} (h : 0 ≤ i ∧ i < (n : Int)) : (rwW g r w F n ++ W)[i.toNat]? = some (r i.toNat, .inl (g.1, w, .inl (zA (F i)))) := by
  have hi : ((i.toNat : Nat) : Int) = i := by omega
  rw [ap_at0 (by rw [rwW_len]; omega), rwW_at (by omega), hi]
theorem rw_set {g : ClassId × ClassId × ClassId} {r : Nat → Nat} {w n : Nat} {F : Int → Int → Int} {W : va_W} {i f v : Int} (h : 0 ≤ i ∧ i < (n : Int)) : (rwW g r w F n ++ W).set i.toNat (r i.toNat, .inl (g.1, w, .inl (zA (upZ (F i) f v)))) = rwW g r w (up2 F i f v) n ++ W := by
  have hi : ((i.toNat : Nat) : Int) = i := by omega
  have e := rwW_set (g := g) (r := r) (w := w) (F := F) (n := n) (i := i.toNat) (f := f) (v := v)
  rw [hi] at e
  rw [ap_set0 (by rw [rwW_len]; omega), e]
def cF (t : SS) (a b d : Int) : Int → Int := fun j => if j = 0 then t.1 2 else if j = 1 then t.1 3 else if j = 2 then t.1 4 else if j = 3 then t.1 5 else if j = 4 then t.1 0 else if j = 5 then a else if j = 6 then b else if j = 7 then t.1 1 else if j = 8 then d else 0
def cF0 (t : SS) : Int → Int := upZ (upZ (upZ (upZ (upZ (upZ (upZ (upZ (upZ (fun _ => 0) 0 (t.1 2)) 1 (t.1 3)) 2 (t.1 4)) 3 (t.1 5)) 4 (t.1 0)) 5 0) 6 0) 7 (t.1 1)) 8 0
theorem cF_c {j : Int} (h : ¬ (0 ≤ j ∧ j ≤ 8)) {t : SS} {a b d : Int} : cF t a b d j = 0 := by
  unfold cF
  rw [if_neg (by omega), if_neg (by omega), if_neg (by omega), if_neg (by omega), if_neg (by omega), if_neg (by omega), if_neg (by omega), if_neg (by omega), if_neg (by omega)]
theorem c9_cs {j : Int} (h : 0 ≤ j ∧ j ≤ 8) : j = 0 ∨ j = 1 ∨ j = 2 ∨ j = 3 ∨ j = 4 ∨ j = 5 ∨ j = 6 ∨ j = 7 ∨ j = 8 := by omega
theorem cF_0 {t : SS} : cF0 t = cF t 0 0 0 := by
  funext j
  by_cases h : 0 ≤ j ∧ j ≤ 8
  · rcases c9_cs h with rfl | rfl | rfl | rfl | rfl | rfl | rfl | rfl | rfl <;> rfl
  · rw [cF_c h]
    unfold cF0 upZ
    rw [if_neg (by omega), if_neg (by omega), if_neg (by omega), if_neg (by omega), if_neg (by omega), if_neg (by omega), if_neg (by omega), if_neg (by omega), if_neg (by omega)]
theorem cF_5 {t : SS} {a b d v : Int} : upZ (cF t a b d) 5 v = cF t v b d := by
  funext j
  by_cases h : 0 ≤ j ∧ j ≤ 8
  · rcases c9_cs h with rfl | rfl | rfl | rfl | rfl | rfl | rfl | rfl | rfl <;> rfl
  · rw [cF_c h, upZ_ne (by omega), cF_c h]
theorem cF_6 {t : SS} {a b d v : Int} : upZ (cF t a b d) 6 v = cF t a v d := by
  funext j
  by_cases h : 0 ≤ j ∧ j ≤ 8
  · rcases c9_cs h with rfl | rfl | rfl | rfl | rfl | rfl | rfl | rfl | rfl <;> rfl
  · rw [cF_c h, upZ_ne (by omega), cF_c h]
theorem cF_8 {t : SS} {a b d v : Int} : upZ (cF t a b d) 8 v = cF t a b v := by
  funext j
  by_cases h : 0 ≤ j ∧ j ≤ 8
  · rcases c9_cs h with rfl | rfl | rfl | rfl | rfl | rfl | rfl | rfl | rfl <;> rfl
  · rw [cF_c h, upZ_ne (by omega), cF_c h]
/-- how many of the first n spots, column by column, have water -/
def wcS (t : SS) (n : Nat) : Int := sm (fun k => b01 (0 < sWat t (k / 20) (k % 20))) n
theorem wcS_step {t : SS} {x y : Nat} (hy : y < 20) {v : Int} (hv : v = b01 (0 < sWat t (x : Int) (y : Int))) : wcS t (20 * x + y) + v = wcS t (20 * x + (y + 1)) := by
  show _ = sm _ (20 * x + y) + b01 (0 < sWat t (((20 * x + y : Nat) : Int) / 20) (((20 * x + y : Nat) : Int) % 20))
  rw [show ((20 * x + y : Nat) : Int) / 20 = (x : Int) by omega, show ((20 * x + y : Nat) : Int) % 20 = (y : Int) by omega, hv]
  rfl
/-- the water below peg k -/
abbrev wat (t : SS) (k : Int) : Int := sWat t (t.2 2 k 0) (t.2 2 k 1)
def watS (t : SS) (n : Nat) : Int := sm (wat t) n
def peg6 (t : SS) (n : Nat) : Int := sm (fun k => b01 (0 < wat t k)) n
def coin (t : SS) (n : Nat) : Int := sm (fun d => t.2 1 d 2) n
def hasF (t : SS) (n : Nat) : Int → Int → Int := fun o f => if f = 0 then sm (fun k => b01 (t.2 2 k 2 = o)) n else if f = 1 then sm (fun k => b01 (t.2 2 k 2 = o ∧ 0 < wat t k)) n else 0
theorem hasF_0 {t : SS} : hasF t 0 = fun _ _ => 0 := by
  funext o f
  unfold hasF
  split
  · rfl
  · split <;> rfl
theorem has_step {t : SS} {k : Nat} {v : Int} (hv : v = b01 (0 < wat t k)) : up2 (up2 (hasF t k) (t.2 2 k 2) 0 (hasF t k (t.2 2 k 2) 0 + 1)) (t.2 2 k 2) 1 (up2 (hasF t k) (t.2 2 k 2) 0 (hasF t k (t.2 2 k 2) 0 + 1) (t.2 2 k 2) 1 + v) = hasF t (k + 1) := by
  have e0 : ∀ o, hasF t (k + 1) o 0 = hasF t k o 0 + b01 (t.2 2 (k : Int) 2 = o) := fun o => rfl
  have e1 : ∀ o, hasF t (k + 1) o 1 = hasF t k o 1 + b01 (t.2 2 (k : Int) 2 = o ∧ 0 < wat t (k : Int)) := fun o => rfl
  have en : ∀ (n : Nat) o f, f ≠ 0 → f ≠ 1 → hasF t n o f = 0 := fun n o f h0 h1 => by unfold hasF; rw [if_neg h0, if_neg h1]
  funext o f
  by_cases ho : o = t.2 2 (k : Int) 2
  · subst ho
    by_cases hf1 : f = 1
    · subst hf1
      rw [up2_at, up2_at' (by decide), e1, hv]
      congr 1
      exact b01_congr ⟨fun h => ⟨rfl, h⟩, fun h => h.2⟩
    · rw [up2_at' hf1]
      by_cases hf0 : f = 0
      · subst hf0
        rw [up2_at, e0, b01_t rfl]
      · rw [up2_at' hf0, en _ _ _ hf0 hf1, en _ _ _ hf0 hf1]
  · rw [up2_ne ho, up2_ne ho]
    by_cases hf0 : f = 0
    · subst hf0; rw [e0, b01_f (fun z => ho z.symm), Int.add_zero]
    · by_cases hf1 : f = 1
      · subst hf1; rw [e1, b01_f (fun z => ho z.1.symm), Int.add_zero]
      · rw [en _ _ _ hf0 hf1, en _ _ _ hf0 hf1]
def inS (t : SS) (d : Int) (n : Nat) : Int := sm (fun q => if sOv t q then 0 else ab (t.2 3 q (4 + d))) n
def dueF (t : SS) (d : Int) : Int → Int := upZ (upZ (upZ (upZ (upZ (upZ (upZ (upZ (fun _ => 0) 0 (t.2 1 d 0)) 1 (t.2 1 d 1)) 2 (t.2 1 d 2)) 3 (hasF t (t.1 4).toNat d 0)) 4 (hasF t (t.1 4).toNat d 1)) 5 (inS t d (t.1 5).toNat)) 6 (t.2 1 d 3)) 7 (t.2 1 d 4)
def dueQ (t : SS) (q : Int) : Int → Int := upZ (upZ (upZ (upZ (upZ (upZ (upZ (fun _ => 0) 0 (t.2 3 q 0)) 1 (t.2 3 q 1)) 2 (t.2 3 q 3)) 3 (b01 (0 < t.2 3 q 2 ∧ t.2 3 q 2 ≤ t.2 3 q 3))) 4 (b01 (sOv t q))) 5 (sBt (t.2 3 q) 1)) 6 (sBt (t.2 3 q) 0)
/-! WHAT THE LAW ASKS BETWEEN ITS ACTS, in words over the class's state -/
theorem lg_cmp_self (z : Int64) : lg_cmp z z = zI 0 := by
  unfold lg_cmp
  rw [if_neg (fun q => absurd q (by rw [gt_iff_lt, Int64.lt_iff_toInt_lt]; omega)), if_pos rfl]
  rfl
def spD (k : Int) : Int := k % 20 * 20 + k / 20
def handL (c : CS) (n : Nat) : Int := sm (fun d => dowT c d 2) n
def cnL (c : CS) : Nat → Int
  | 0 => c.1 1
  | n + 1 => cnL c n + (dowT c (n : Int) 2 + dowT c (n : Int) 5)
def pegL (c : CS) (n : Nat) : Int := sm (fun d => dowT c d 3) n
def paidL (c : CS) (n : Nat) : Int := sm (fun d => dowT c d 6 + dowT c d 7) n
def wetD (c : CS) (n : Nat) : Int := sm (fun k => b01 (0 < spotT c (spD k) 0)) n
def allD (c : CS) (n : Nat) : Int := sm (fun k => b01 (0 ≤ spotT c (spD k) 2)) n
def truD (c : CS) (n : Nat) : Int := sm (fun k => if 0 ≤ spotT c (spD k) 2 then b01 (0 < spotT c (spD k) 0) else 0) n
def watD (c : CS) (n : Nat) : Int := sm (fun k => if 0 ≤ spotT c (spD k) 2 then spotT c (spD k) 0 else 0) n
def rowD (c : CS) : Nat → Int → Int
  | 0 => fun _ => 0
  | n + 1 => if 0 ≤ spotT c (spD (n : Int)) 2 then upZ (rowD c n) ((n : Int) % 20) (rowD c n ((n : Int) % 20) + 1) else rowD c n
def colD (c : CS) : Nat → Int → Int
  | 0 => fun _ => 0
  | n + 1 => if 0 ≤ spotT c (spD (n : Int)) 2 then upZ (colD c n) ((n : Int) / 20) (colD c n ((n : Int) / 20) + 1) else colD c n
theorem spD_xy {x y : Nat} (hy : y < 20) : spD ((20 * x + y : Nat) : Int) = (y : Int) * 20 + (x : Int) ∧ ((20 * x + y : Nat) : Int) % 20 = (y : Int) ∧ ((20 * x + y : Nat) : Int) / 20 = (x : Int) := by
  unfold spD
  omega
theorem wetD_s (c : CS) (n : Nat) : wetD c (n + 1) = wetD c n + b01 (0 < spotT c (spD (n : Int)) 0) := rfl
theorem truD_s (c : CS) (n : Nat) : truD c (n + 1) = truD c n + (if 0 ≤ spotT c (spD (n : Int)) 2 then b01 (0 < spotT c (spD (n : Int)) 0) else 0) := rfl
theorem allD_s (c : CS) (n : Nat) : allD c (n + 1) = allD c n + b01 (0 ≤ spotT c (spD (n : Int)) 2) := rfl
theorem watD_s (c : CS) (n : Nat) : watD c (n + 1) = watD c n + (if 0 ≤ spotT c (spD (n : Int)) 2 then spotT c (spD (n : Int)) 0 else 0) := rfl
theorem rowD_s (c : CS) (n : Nat) : rowD c (n + 1) = if 0 ≤ spotT c (spD (n : Int)) 2 then upZ (rowD c n) ((n : Int) % 20) (rowD c n ((n : Int) % 20) + 1) else rowD c n := rfl
theorem colD_s (c : CS) (n : Nat) : colD c (n + 1) = if 0 ≤ spotT c (spD (n : Int)) 2 then upZ (colD c n) ((n : Int) / 20) (colD c n ((n : Int) / 20) + 1) else colD c n := rfl
theorem D_wet {c : CS} {x y : Nat} (hy : y < 20) : wetD c (20 * x + (y + 1)) = wetD c (20 * x + y) + b01 (0 < spotT c ((y : Int) * 20 + (x : Int)) 0) := by
  rw [← (spD_xy (x := x) hy).1]; rfl
theorem D_skip {c : CS} {x y : Nat} (hy : y < 20) (h : spotT c ((y : Int) * 20 + (x : Int)) 2 < 0) : truD c (20 * x + (y + 1)) = truD c (20 * x + y) ∧ allD c (20 * x + (y + 1)) = allD c (20 * x + y) ∧ watD c (20 * x + (y + 1)) = watD c (20 * x + y) ∧ rowD c (20 * x + (y + 1)) = rowD c (20 * x + y) ∧ colD c (20 * x + (y + 1)) = colD c (20 * x + y) := by
  have e := spD_xy (x := x) hy
  have hn : ¬ 0 ≤ spotT c (spD ((20 * x + y : Nat) : Int)) 2 := by rw [e.1]; omega
  rw [← Nat.add_assoc]
  exact ⟨by rw [truD_s, if_neg hn, Int.add_zero], by rw [allD_s, b01_f hn, Int.add_zero], by rw [watD_s, if_neg hn, Int.add_zero], by rw [rowD_s, if_neg hn], by rw [colD_s, if_neg hn]⟩
theorem D_take {c : CS} {x y : Nat} (hy : y < 20) (h : 0 ≤ spotT c ((y : Int) * 20 + (x : Int)) 2) : truD c (20 * x + (y + 1)) = truD c (20 * x + y) + b01 (0 < spotT c ((y : Int) * 20 + (x : Int)) 0) ∧ allD c (20 * x + (y + 1)) = allD c (20 * x + y) + 1 ∧ watD c (20 * x + (y + 1)) = watD c (20 * x + y) + spotT c ((y : Int) * 20 + (x : Int)) 0 ∧ rowD c (20 * x + (y + 1)) = upZ (rowD c (20 * x + y)) (y : Int) (rowD c (20 * x + y) (y : Int) + 1) ∧ colD c (20 * x + (y + 1)) = upZ (colD c (20 * x + y)) (x : Int) (colD c (20 * x + y) (x : Int) + 1) := by
  have e := spD_xy (x := x) hy
  have hn : 0 ≤ spotT c (spD ((20 * x + y : Nat) : Int)) 2 := by rw [e.1]; exact h
  rw [← Nat.add_assoc]
  exact ⟨by rw [truD_s, if_pos hn, e.1], by rw [allD_s, b01_t hn], by rw [watD_s, if_pos hn, e.1], by rw [rowD_s, if_pos hn, e.2.1], by rw [colD_s, if_pos hn, e.2.2]⟩
/-- which line of a kind a spot lies on -/
def itsL (c : CS) (x y : Int) : Int := if lineT c 1 = 0 then y else if lineT c 1 = 1 then x else if lineT c 1 = 2 then x - y else x + y
def onD (c : CS) (n : Nat) : Int := sm (fun k => if c.1 4 ≠ 0 ∧ itsL c (k / 20) (k % 20) = lineT c 2 then b01 (0 ≤ spotT c (spD k) 2) else 0) n
theorem onD_s (c : CS) (n : Nat) : onD c (n + 1) = onD c n + (if c.1 4 ≠ 0 ∧ itsL c ((n : Int) / 20) ((n : Int) % 20) = lineT c 2 then b01 (0 ≤ spotT c (spD (n : Int)) 2) else 0) := rfl
theorem O_skip {c : CS} {x y : Nat} (hy : y < 20) (h : ¬ (c.1 4 ≠ 0 ∧ itsL c (x : Int) (y : Int) = lineT c 2)) : onD c (20 * x + (y + 1)) = onD c (20 * x + y) := by
  have e := spD_xy (x := x) hy
  rw [← Nat.add_assoc, onD_s, e.2.1, e.2.2, if_neg h, Int.add_zero]
theorem O_take {c : CS} {x y : Nat} (hy : y < 20) (h : c.1 4 ≠ 0 ∧ itsL c (x : Int) (y : Int) = lineT c 2) : onD c (20 * x + (y + 1)) = onD c (20 * x + y) + b01 (0 ≤ spotT c ((y : Int) * 20 + (x : Int)) 2) := by
  have e := spD_xy (x := x) hy
  rw [← Nat.add_assoc, onD_s, e.2.1, e.2.2, if_pos h, e.1]
def wouS (c : CS) (q f : Int) (n : Nat) : Int := sm (fun d => wouldT c q d f) n
def stI (c : CS) (t : SS) (z q : Int) : Nat → Int
  | 0 => z
  | n + 1 => stI c t z q n + b01 (pitT c q 4 = 1 ∧ t.2 3 q (4 + (n : Int)) ≠ 0)
def setD (c : CS) (t : SS) : Nat → Int
  | 0 => 0
  | n + 1 => stI c t (setD c t n) (n : Int) (c.1 3).toNat
def gtF (c : CS) (q : Int) : Nat → Int → Int → Int
  | 0 => fun _ _ => 0
  | n + 1 => up2 (up2 (gtF c q n) 0 (n : Int) (dowT c (n : Int) 2 + wouldT c q (n : Int) 0)) 1 (n : Int) (dowT c (n : Int) 2 + wouldT c q (n : Int) 1)
/-! SUMS OF THE LAW'S: exchange, transposition, over pegs -/
theorem sm_zero : ∀ n : Nat, sm (fun _ => (0 : Int)) n = 0
  | 0 => rfl
  | n + 1 => by rw [sm_suc, sm_zero n]; rfl
theorem sm_swap (f : Int → Int → Int) (m : Nat) : ∀ n : Nat, sm (fun i => sm (fun j => f i j) m) n = sm (fun j => sm (fun i => f i j) n) m
  | 0 => (sm_zero m).symm
  | n + 1 => by
    rw [sm_suc, sm_swap f m n, ← sm_add]
    rfl
theorem sm_app (g : Int → Int) (n : Nat) : ∀ m : Nat, sm g (n + m) = sm g n + sm (fun j => g ((n : Int) + j)) m
  | 0 => by show sm g n = sm g n + 0; rw [Int.add_zero]
  | m + 1 => by
    rw [show n + (m + 1) = (n + m) + 1 from rfl, sm_suc, sm_app g n m, sm_suc, Int.add_assoc, show ((n + m : Nat) : Int) = (n : Int) + (m : Int) by omega]
theorem sm_rows (g : Int → Int) : ∀ m : Nat, sm g (20 * m) = sm (fun i => sm (fun j => g (20 * i + j)) 20) m
  | 0 => rfl
  | m + 1 => by
    rw [show 20 * (m + 1) = 20 * m + 20 from rfl, sm_app, sm_rows g m, sm_suc _ m, show ((20 * m : Nat) : Int) = 20 * (m : Int) by omega]
theorem sm_tr (f : Int → Int) : sm (fun k => f (spD k)) (20 * 20) = sm f (20 * 20) := by
  rw [sm_rows, sm_rows f, sm_swap (fun i j => f (20 * i + j))]
  refine sm_congr _ (fun i i0 i1 => sm_congr _ (fun j j0 j1 => ?_))
  show f (spD (20 * i + j)) = f (20 * j + i)
  unfold spD
  congr 1
  omega
theorem sm_one (p a : Int) (hp : 0 ≤ p ∧ p < 400) : sm (fun j => if j = p then a else 0) 400 = a := by
  rw [sm_upd (f := fun _ => 0) hp.1, sm_zero, if_pos (by omega)]; omega
section PG
variable {c : CS} {t : SS} {B : Int}
/-- a sum over the spots with pegs is a sum over the pegs -/
theorem pg_sum (hT : IT t) (hu : RSu t 2) (G : Int → Int → Int) : sm (fun sp => if pgS t sp = -1 then 0 else G sp (pgS t sp)) 400 = sm (fun k => G (t.2 2 k 1 * 20 + t.2 2 k 0) (t.2 2 k 2)) (t.1 4).toNat := by
  have hs := hT.s
  have key : ∀ n : Nat, (n : Int) ≤ t.1 4 → sm (fun sp => if ff (atP t 2 (sp % 20) (sp / 20)) n = -1 then 0 else G sp (t.2 2 (ff (atP t 2 (sp % 20) (sp / 20)) n) 2)) 400 = sm (fun k => G (t.2 2 k 1 * 20 + t.2 2 k 0) (t.2 2 k 2)) n := by
    intro n
    induction n with
    | zero =>
      intro _
      exact sm_zero 400
    | succ n ih =>
      intro hn
      have hp := hT.p (i := (n : Int)) (by omega)
      rw [sm_suc _ n, ← ih (by omega), ← sm_one (t.2 2 (n : Int) 1 * 20 + t.2 2 (n : Int) 0) (G (t.2 2 (n : Int) 1 * 20 + t.2 2 (n : Int) 0) (t.2 2 (n : Int) 2)) (by omega), ← sm_add]
      refine sm_congr _ (fun sp s0 s1 => ?_)
      show (if ff (atP t 2 (sp % 20) (sp / 20)) (n + 1) = -1 then 0 else G sp (t.2 2 (ff (atP t 2 (sp % 20) (sp / 20)) (n + 1)) 2)) = (if ff (atP t 2 (sp % 20) (sp / 20)) n = -1 then 0 else G sp (t.2 2 (ff (atP t 2 (sp % 20) (sp / 20)) n) 2)) + (if sp = t.2 2 (n : Int) 1 * 20 + t.2 2 (n : Int) 0 then G (t.2 2 (n : Int) 1 * 20 + t.2 2 (n : Int) 0) (t.2 2 (n : Int) 2) else 0)
      by_cases e : sp = t.2 2 (n : Int) 1 * 20 + t.2 2 (n : Int) 0
      · have ex : t.2 2 (n : Int) 0 = sp % 20 := by omega
        have ey : t.2 2 (n : Int) 1 = sp / 20 := by omega
        have h0 : ff (atP t 2 (sp % 20) (sp / 20)) n = -1 := ff_all _ (fun k hk z => hu (k : Int) (n : Int) (by omega) (by omega) (show (n : Int) < t.1 4 by omega) ⟨z.1.trans ex.symm, z.2.trans ey.symm⟩)
        have h1 : ff (atP t 2 (sp % 20) (sp / 20)) (n + 1) = (n : Int) := by
          rw [ff, if_neg (by omega), if_pos ⟨ex, ey⟩]
        rw [h0, h1, if_neg (by omega), if_pos rfl, if_pos e, ← e]; omega
      · have h1 : ff (atP t 2 (sp % 20) (sp / 20)) (n + 1) = ff (atP t 2 (sp % 20) (sp / 20)) n := by
          rw [ff]
          by_cases z : ff (atP t 2 (sp % 20) (sp / 20)) n ≠ -1
          · rw [if_pos z]
          · rw [if_neg z, if_neg (fun y : t.2 2 (n : Int) 0 = sp % 20 ∧ t.2 2 (n : Int) 1 = sp / 20 => e (by omega))]; omega
        rw [h1, if_neg e, Int.add_zero]
  refine Eq.trans (sm_congr 400 (fun sp s0 s1 => ?_)) (key (t.1 4).toNat (by omega))
  have hb := sPA_b hT (sp % 20) (sp / 20)
  show (if (if sPA t (sp % 20) (sp / 20) = -1 then -1 else t.2 2 (sPA t (sp % 20) (sp / 20)) 2) = -1 then 0 else G sp (if sPA t (sp % 20) (sp / 20) = -1 then -1 else t.2 2 (sPA t (sp % 20) (sp / 20)) 2)) = (if sPA t (sp % 20) (sp / 20) = -1 then 0 else G sp (t.2 2 (sPA t (sp % 20) (sp / 20)) 2))
  by_cases e : sPA t (sp % 20) (sp / 20) = -1
  · rw [if_pos e, if_pos rfl, if_pos e]
  · have := hT.p (i := sPA t (sp % 20) (sp / 20)) (by omega)
    rw [if_neg e, if_neg (by omega), if_neg e]
theorem R_own (h : RS c t) {sp : Int} (h0 : 0 ≤ sp) (h1 : sp < 400) : c.2 8 sp = pgS t sp := h.p sp h0 h1
theorem pg_sumC (h : RS c t) (hT : IT t) (f : Int → Int) (G : Int → Int → Int) (hf : ∀ sp, 0 ≤ sp → sp < 400 → f sp = if pgS t sp = -1 then 0 else G sp (pgS t sp)) : sm f 400 = sm (fun k => G (t.2 2 k 1 * 20 + t.2 2 k 0) (t.2 2 k 2)) (t.1 4).toNat := (sm_congr 400 (fun j a b => hf j a (by omega))).trans (pg_sum hT h.u2 G)
theorem R_wat (h : RS c t) {sp : Int} (h0 : 0 ≤ sp) (h1 : sp < 400) : c.2 3 sp = sWat t (sp % 20) (sp / 20) := (h.w sp h0 h1).1
theorem wat_k (hT : IT t) {k : Int} (hk : 0 ≤ k ∧ k < t.1 4) : sWat t ((t.2 2 k 1 * 20 + t.2 2 k 0) % 20) ((t.2 2 k 1 * 20 + t.2 2 k 0) / 20) = wat t k := by
  have := hT.p hk
  rw [show (t.2 2 k 1 * 20 + t.2 2 k 0) % 20 = t.2 2 k 0 by omega, show (t.2 2 k 1 * 20 + t.2 2 k 0) / 20 = t.2 2 k 1 by omega]
theorem F_pgOf (h : RS c t) (hT : IT t) {d : Int} (hd : 0 ≤ d) : pgOf c d = hasF t (t.1 4).toNat d 0 := by
  unfold pgOf
  rw [pg_sumC h hT _ (fun _ o => b01 (o = d)) (fun sp a b => by
    show b01 (c.2 8 sp = d) = _
    rw [R_own h a b]
    by_cases e : pgS t sp = -1
    · rw [if_pos e, b01_f (by omega)]
    · rw [if_neg e])]
  rfl
theorem F_truOf (h : RS c t) (hT : IT t) {d : Int} (hd : 0 ≤ d) : truOf c d = hasF t (t.1 4).toNat d 1 := by
  unfold truOf
  rw [pg_sumC h hT _ (fun sp o => b01 (o = d ∧ 0 < sWat t (sp % 20) (sp / 20))) (fun sp a b => by
    show b01 (c.2 8 sp = d ∧ (c.2 8 sp ≠ -1 ∧ 0 < c.2 3 sp)) = _
    rw [R_own h a b, R_wat h a b]
    by_cases e : pgS t sp = -1
    · rw [if_pos e, b01_f (by omega)]
    · rw [if_neg e]
      exact b01_congr ⟨fun z => ⟨z.1, z.2.2⟩, fun z => ⟨z.1, e, z.2⟩⟩)]
  exact sm_congr _ (fun k a b => by
    show b01 (t.2 2 k 2 = d ∧ 0 < sWat t ((t.2 2 k 1 * 20 + t.2 2 k 0) % 20) ((t.2 2 k 1 * 20 + t.2 2 k 0) / 20)) = _
    rw [wat_k hT ⟨a, by have := hT.s; omega⟩])
theorem F_truAll (h : RS c t) (hT : IT t) : truAll c = peg6 t (t.1 4).toNat := by
  unfold truAll
  rw [pg_sumC h hT _ (fun sp _ => b01 (0 < sWat t (sp % 20) (sp / 20))) (fun sp a b => by
    show b01 (c.2 8 sp ≠ -1 ∧ 0 < c.2 3 sp) = _
    rw [R_own h a b, R_wat h a b]
    by_cases e : pgS t sp = -1
    · rw [if_pos e, b01_f (fun z => z.1 e)]
    · rw [if_neg e]
      exact b01_congr ⟨fun z => z.2, fun z => ⟨e, z⟩⟩)]
  exact sm_congr _ (fun k a b => by
    show b01 (0 < sWat t ((t.2 2 k 1 * 20 + t.2 2 k 0) % 20) ((t.2 2 k 1 * 20 + t.2 2 k 0) / 20)) = _
    rw [wat_k hT ⟨a, by have := hT.s; omega⟩])
theorem F_meanW (h : RS c t) (hT : IT t) : meanW c = watS t (t.1 4).toNat := by
  unfold meanW
  rw [pg_sumC h hT _ (fun sp _ => sWat t (sp % 20) (sp / 20)) (fun sp a b => by
    show (if c.2 8 sp ≠ -1 then c.2 3 sp else 0) = _
    rw [R_own h a b, R_wat h a b]
    by_cases e : pgS t sp = -1
    · rw [if_pos e, if_neg (fun z => z e)]
    · rw [if_neg e, if_pos e])]
  exact sm_congr _ (fun k a b => by
    show sWat t ((t.2 2 k 1 * 20 + t.2 2 k 0) % 20) ((t.2 2 k 1 * 20 + t.2 2 k 0) / 20) = _
    rw [wat_k hT ⟨a, by have := hT.s; omega⟩])
theorem sm_ones : ∀ n : Nat, sm (fun _ => (1 : Int)) n = n
  | 0 => rfl
  | n + 1 => by rw [sm_suc, sm_ones n]; omega
theorem F_cnt (h : RS c t) (hT : IT t) : sm (fun sp => b01 (c.2 8 sp ≠ -1)) 400 = c.1 4 := by
  have hs := hT.s
  rw [pg_sumC h hT _ (fun _ _ => 1) (fun sp a b => by
    show b01 (c.2 8 sp ≠ -1) = _
    rw [R_own h a b]
    by_cases e : pgS t sp = -1
    · rw [if_pos e, b01_f (fun z => z e)]
    · rw [if_neg e, b01_t e]), sm_ones]
  have := h.n.2.2.2.2.1
  omega
theorem F_wet (h : RS c t) : wet c = wcS t (20 * 20) := by
  unfold wet wcS
  rw [← sm_tr (fun j => b01 (0 < c.2 3 j))]
  refine sm_congr _ (fun k a b => ?_)
  show b01 (0 < c.2 3 (spD k)) = b01 (0 < sWat t (k / 20) (k % 20))
  have hk : 0 ≤ spD k ∧ spD k < 400 ∧ spD k % 20 = k / 20 ∧ spD k / 20 = k % 20 := by unfold spD; omega
  rw [R_wat h hk.1 hk.2.1, hk.2.2.1, hk.2.2.2]
theorem oB_nn (t : SS) (q : Int) : 0 ≤ oB t q := by
  have a1 := sBt_nn (t.2 3 q) 1
  have a0 := sBt_nn (t.2 3 q) 0
  unfold oB
  split <;> omega
theorem F_coins (h : RS c t) (hT : IT t) : (0 ≤ t.1 1 ∧ t.1 1 ≤ 250) ∧ (0 ≤ coin t (t.1 3).toNat ∧ coin t (t.1 3).toNat ≤ 250) ∧ ∀ d : Int, 0 ≤ d → d < t.1 3 → 0 ≤ t.2 1 d 2 ∧ t.2 1 d 2 ≤ 250 := by
  have hs := hT.s
  have hk := h.k
  have ho := sm_nn (oB_nn t) (t.1 5).toNat
  rw [← sOpen_o] at ho
  have e : coin t (t.1 3).toNat = sm (fun d => t.2 1 d 2) (t.1 3).toNat := rfl
  have cb := sm_b (f := fun d => t.2 1 d 2) (lo := 0) (hi := 1000000000) (t.1 3).toNat
  have hc : 0 ≤ coin t (t.1 3).toNat := by
    rw [e]
    have : ∀ n : Nat, (n : Int) ≤ t.1 3 → 0 ≤ sm (fun d => t.2 1 d 2) n := by
      intro n
      induction n with
      | zero => intro _; exact Int.le_refl _
      | succ n ih =>
        intro hn
        have := ih (by omega)
        have := (h.d (n : Int) (by omega) (by omega)).2.2.2
        rw [sm_suc]; omega
    exact this _ (by omega)
  have hk2 : t.1 1 + coin t (t.1 3).toNat + sOpen t = 50 * t.1 3 := hk.2
  have hk1 := hk.1
  refine ⟨by omega, by omega, fun d d0 d1 => ?_⟩
  have hd := (h.d d d0 d1).2.2.2
  have := sm_ge (f := fun d => t.2 1 d 2) (t.1 3).toNat (fun j a b => (h.d j a (by omega)).2.2.2) d d0 (by omega)
  have : t.2 1 d 2 ≤ coin t (t.1 3).toNat := this
  omega
end PG
section LOOK
variable {c : CS} {t : SS} {B : Int}
theorem sw_dp (hT : IT t) (x y : Int) : ∀ n : Nat, (n : Int) ≤ t.1 2 → (sm (sWt t x y) n = 0 ∧ sDp t x y n = 99) ∨ (0 < sm (sWt t x y) n ∧ 1 ≤ sDp t x y n ∧ sDp t x y n ≤ 20)
  | 0, _ => Or.inl ⟨rfl, rfl⟩
  | n + 1, hn => by
    have ih := sw_dp hT x y n (by omega)
    have hv := hT.v (i := (n : Int)) (by omega)
    rw [sm_suc, sDp]
    unfold sWt
    by_cases z : vfar (t.2 0 (n : Int)) x y = 0
    · rw [if_pos z, if_pos z]
      have e : sm (sWt t x y) n = sm (fun i => if vfar (t.2 0 i) x y = 0 then t.2 0 i 6 else 0) n := rfl
      rw [← e]; omega
    · rw [if_neg z, if_neg z, Int.add_zero]; exact ih
theorem S_spot (h : RS c t) (hI : IC B c) (hT : IT t) {x y : Int} (hf : inF x y) : spotT c (y * 20 + x) 0 = sWat t x y ∧ spotT c (y * 20 + x) 1 = sDep t x y ∧ spotT c (y * 20 + x) 3 = sQA t x y ∧ ((0 ≤ spotT c (y * 20 + x) 2 ∧ 0 ≤ sPA t x y) ∨ (spotT c (y * 20 + x) 2 < 0 ∧ sPA t x y < 0)) ∧ (-1 ≤ spotT c (y * 20 + x) 2 ∧ spotT c (y * 20 + x) 2 ≤ 4) ∧ (0 ≤ sWat t x y ∧ sWat t x y ≤ 54) ∧ (0 ≤ sDep t x y ∧ sDep t x y ≤ 99) ∧ -1 ≤ sQA t x y ∧ sQA t x y ≤ 9 := by
  have hs := hT.s
  have hw := h.w (y * 20 + x) (by omega) (by omega)
  rw [show (y * 20 + x) % 20 = x by omega, show (y * 20 + x) / 20 = y by omega] at hw
  have hp := R_pegs h hT hf
  have e2 : spotT c (y * 20 + x) 2 = c.2 8 (y * 20 + x) := rfl
  have hd := sDep20 hT x y
  have hq := sQA_b hT x y
  have ww := sWat_b hT x y (t.1 2).toNat (by omega)
  have ww : 0 ≤ sWat t x y ∧ sWat t x y ≤ 54 := ww
  refine ⟨hw.1, hw.2, R_at h hf, ?_, ?_, ww, by omega, by omega⟩
  · rw [e2]; omega
  · rw [e2]; exact hp.2
theorem S_pegk (h : RS c t) (hI : IC B c) (hT : IT t) {k : Int} (hk : 0 ≤ k ∧ k < t.1 4) : spotT c (t.2 2 k 1 * 20 + t.2 2 k 0) 2 = t.2 2 k 2 := by
  have hp := hT.p hk
  show c.2 8 (t.2 2 k 1 * 20 + t.2 2 k 0) = _
  rw [R_peg h ⟨hp.1, hp.2.1⟩, pg_at hT h.u2 hk ⟨rfl, rfl⟩, if_neg (by omega)]
theorem F_unp (h : RS c t) (hT : IT t) {d : Int} (hd : 0 ≤ d ∧ d < 5) : unp c d = inS t d (t.1 5).toNat := by
  have hs := hT.s
  unfold unp inS
  rw [h.n.2.2.2.2.2]
  refine sm_congr _ (fun q a b => ?_)
  have hq : 0 ≤ q ∧ q < t.1 5 := ⟨a, by omega⟩
  have ho := R_over h hT hq
  rw [(h.b q d hq.1 hq.2 hd.1 hd.2).1]
  by_cases z : sOv t q
  · rw [if_pos z, if_pos (ho.mpr z)]
  · rw [if_neg z, if_neg (fun y => z (ho.mp y))]
theorem unp_b (hI : IC B c) (d : Int) : 0 ≤ unp c d ∧ unp c d ≤ 990 := by
  have hs := hI.s
  have := sm_b (f := fun q => if over c q then 0 else c.2 14 (q * 5 + d)) (lo := 0) (hi := 99) (c.1 5).toNat (fun j _ _ => by
    have := hI.r14 (j * 5 + d)
    show 0 ≤ (if over c j then 0 else c.2 14 (j * 5 + d)) ∧ (if over c j then 0 else c.2 14 (j * 5 + d)) ≤ 99
    split <;> omega)
  unfold unp
  omega
theorem pb_b (hI : IC B c) (d rt : Int) : 0 ≤ pbets c d rt ∧ pbets c d rt ≤ 10 := by
  have hs := hI.s
  have := sm_b (f := fun q => b01 ((over c q ∧ 0 < c.2 14 (q * 5 + d)) ∧ b01 (c.2 15 (q * 5 + d) = b01 (fnd c q)) = rt)) (lo := 0) (hi := 1) (c.1 5).toNat (fun j _ _ => b01_01 _)
  unfold pbets
  omega
theorem S_told (h : RS c t) (hI : IC B c) (hT : IT t) {d w : Int} (hd : 0 ≤ d ∧ d < t.1 3) (hw : 0 ≤ w ∧ w ≤ 7) : dowT c d w = dueF t d w ∧ -1000000000 ≤ dueF t d w ∧ dueF t d w ≤ 1000000000 := by
  have hs := hT.s
  have hD := h.d d hd.1 hd.2
  have hB := hT.d hd
  have hr := h.r d hd.1 hd.2
  have b3 := pgOf_b c d
  have b4 := truOf_b c d
  have b5 := unp_b hI d
  have b6 := pb_b hI d 1
  have b7 := pb_b hI d 0
  have e3 := F_pgOf h hT hd.1
  have e4 := F_truOf h hT hd.1
  have e5 := F_unp h hT (d := d) ⟨hd.1, by omega⟩
  have hc := (F_coins h hT).2.2 d hd.1 hd.2
  rcases (show w = 0 ∨ w = 1 ∨ w = 2 ∨ w = 3 ∨ w = 4 ∨ w = 5 ∨ w = 6 ∨ w = 7 by omega) with e | e | e | e | e | e | e | e <;> subst e
  · show c.2 5 d = t.2 1 d 0 ∧ -1000000000 ≤ t.2 1 d 0 ∧ t.2 1 d 0 ≤ 1000000000; omega
  · show c.2 6 d = t.2 1 d 1 ∧ -1000000000 ≤ t.2 1 d 1 ∧ t.2 1 d 1 ≤ 1000000000; omega
  · show c.2 7 d = t.2 1 d 2 ∧ -1000000000 ≤ t.2 1 d 2 ∧ t.2 1 d 2 ≤ 1000000000; omega
  · show pgOf c d = hasF t (t.1 4).toNat d 0 ∧ -1000000000 ≤ hasF t (t.1 4).toNat d 0 ∧ hasF t (t.1 4).toNat d 0 ≤ 1000000000; omega
  · show truOf c d = hasF t (t.1 4).toNat d 1 ∧ -1000000000 ≤ hasF t (t.1 4).toNat d 1 ∧ hasF t (t.1 4).toNat d 1 ≤ 1000000000; omega
  · show unp c d = inS t d (t.1 5).toNat ∧ -1000000000 ≤ inS t d (t.1 5).toNat ∧ inS t d (t.1 5).toNat ≤ 1000000000; omega
  · show pbets c d 1 = t.2 1 d 3 ∧ -1000000000 ≤ t.2 1 d 3 ∧ t.2 1 d 3 ≤ 1000000000; omega
  · show pbets c d 0 = t.2 1 d 4 ∧ -1000000000 ≤ t.2 1 d 4 ∧ t.2 1 d 4 ≤ 1000000000; omega
theorem S_about (h : RS c t) (hI : IC B c) (hT : IT t) {q w : Int} (hq : 0 ≤ q ∧ q < t.1 5) (hw : 0 ≤ w ∧ w ≤ 6) : pitT c q w = dueQ t q w ∧ 0 ≤ dueQ t q w ∧ dueQ t q w ≤ 495 := by
  have hQ := hT.q hq
  obtain ⟨q11, q12, q13, q4⟩ := h.q q hq.1 hq.2
  have s1 := R_stOn h (f := 1) hq
  have s0 := R_stOn h (f := 0) hq
  have b1 := stOn_b hI q 1
  have b0 := stOn_b hI q 0
  have f01 := b01_01 (0 < t.2 3 q 2 ∧ t.2 3 q 2 ≤ t.2 3 q 3)
  have o01 := b01_01 (sOv t q)
  have ef := b01_congr (R_fnd h hT hq)
  have eo := b01_congr (R_over h hT hq)
  rcases (show w = 0 ∨ w = 1 ∨ w = 2 ∨ w = 3 ∨ w = 4 ∨ w = 5 ∨ w = 6 by omega) with e | e | e | e | e | e | e <;> subst e
  · show c.2 11 q % 20 = t.2 3 q 0 ∧ 0 ≤ t.2 3 q 0 ∧ t.2 3 q 0 ≤ 495; omega
  · show c.2 11 q / 20 = t.2 3 q 1 ∧ 0 ≤ t.2 3 q 1 ∧ t.2 3 q 1 ≤ 495; omega
  · show c.2 13 q = t.2 3 q 3 ∧ 0 ≤ t.2 3 q 3 ∧ t.2 3 q 3 ≤ 495; omega
  · show b01 (fnd c q) = b01 (0 < t.2 3 q 2 ∧ t.2 3 q 2 ≤ t.2 3 q 3) ∧ 0 ≤ b01 (0 < t.2 3 q 2 ∧ t.2 3 q 2 ≤ t.2 3 q 3) ∧ b01 (0 < t.2 3 q 2 ∧ t.2 3 q 2 ≤ t.2 3 q 3) ≤ 495
    exact ⟨ef, by omega, by omega⟩
  · show b01 (over c q) = b01 (sOv t q) ∧ 0 ≤ b01 (sOv t q) ∧ b01 (sOv t q) ≤ 495
    exact ⟨eo, by omega, by omega⟩
  · show stOn c q 1 = sBt (t.2 3 q) 1 ∧ 0 ≤ sBt (t.2 3 q) 1 ∧ sBt (t.2 3 q) 1 ≤ 495; omega
  · show stOn c q 0 = sBt (t.2 3 q) 0 ∧ 0 ≤ sBt (t.2 3 q) 0 ∧ sBt (t.2 3 q) 0 ≤ 495; omega
theorem F_allC (h : RS c t) (hT : IT t) : allC c = coin t (t.1 3).toNat := by
  have hs := hT.s
  unfold allC coin
  rw [h.n.2.2.2.1]
  exact sm_congr _ (fun d a b => (h.d d a (by omega)).2.2.1)
theorem wet_b (c : CS) : 0 ≤ wet c ∧ wet c ≤ 400 := by
  have := sm_b (f := fun j => b01 (0 < c.2 3 j)) (lo := 0) (hi := 1) 400 (fun j _ _ => b01_01 _)
  unfold wet; omega
theorem tru_b (c : CS) : 0 ≤ truAll c ∧ truAll c ≤ 400 := by
  have := sm_b (f := fun j => b01 (truP c j)) (lo := 0) (hi := 1) 400 (fun j _ _ => b01_01 _)
  unfold truAll; omega
theorem S_count (h : RS c t) (hI : IC B c) (hT : IT t) {w : Int} (hw : 0 ≤ w ∧ w ≤ 8) : cntT c w = cF t (wcS t (20 * 20)) (peg6 t (t.1 4).toNat) (coin t (t.1 3).toNat) w ∧ -1000 ≤ cntT c w ∧ cntT c w ≤ 1000 := by
  have hs := hI.s
  have e5 := F_wet h
  have e6 := F_truAll h hT
  have e8 := F_allC h hT
  have b5 := wet_b c
  have b6 := tru_b c
  obtain ⟨f1, f2, -⟩ := F_coins h hT
  have hn := h.n
  rcases c9_cs hw with e | e | e | e | e | e | e | e | e <;> subst e
  · show c.1 2 = t.1 2 ∧ -1000 ≤ c.1 2 ∧ c.1 2 ≤ 1000; omega
  · show c.1 3 = t.1 3 ∧ -1000 ≤ c.1 3 ∧ c.1 3 ≤ 1000; omega
  · show c.1 4 = t.1 4 ∧ -1000 ≤ c.1 4 ∧ c.1 4 ≤ 1000; omega
  · show c.1 5 = t.1 5 ∧ -1000 ≤ c.1 5 ∧ c.1 5 ≤ 1000; omega
  · show c.1 0 = t.1 0 ∧ -1000 ≤ c.1 0 ∧ c.1 0 ≤ 1000; omega
  · show wet c = wcS t (20 * 20) ∧ -1000 ≤ wet c ∧ wet c ≤ 1000; exact ⟨e5, by omega, by omega⟩
  · show truAll c = peg6 t (t.1 4).toNat ∧ -1000 ≤ truAll c ∧ truAll c ≤ 1000; exact ⟨e6, by omega, by omega⟩
  · show c.1 1 = t.1 1 ∧ -1000 ≤ c.1 1 ∧ c.1 1 ≤ 1000; omega
  · show allC c = coin t (t.1 3).toNat ∧ -1000 ≤ allC c ∧ allC c ≤ 1000; exact ⟨e8, by omega, by omega⟩
theorem S_mean (h : RS c t) (hI : IC B c) (hT : IT t) : meanW c = watS t (t.1 4).toNat := F_meanW h hT
end LOOK
section LF
variable {c : CS} {t : SS} {B : Int}
theorem sm_le {f f' : Int → Int} : ∀ n : Nat, (∀ j : Int, 0 ≤ j → j < (n : Int) → f j ≤ f' j) → sm f n ≤ sm f' n
  | 0, _ => Int.le_refl _
  | n + 1, h => by
    have h1 := sm_le (f := f) (f' := f') n (fun j a b => h j a (by omega))
    have h2 := h (n : Int) (by omega) (by omega)
    rw [sm_suc, sm_suc]; omega
theorem pb_two (c : CS) (d : Int) : pbets c d 1 + pbets c d 0 = sm (fun q => b01 (over c q ∧ 0 < c.2 14 (q * 5 + d))) (c.1 5).toNat := by
  unfold pbets
  rw [← sm_add]
  refine sm_congr _ (fun q _ _ => ?_)
  show b01 ((over c q ∧ 0 < c.2 14 (q * 5 + d)) ∧ b01 (c.2 15 (q * 5 + d) = b01 (fnd c q)) = 1) + b01 ((over c q ∧ 0 < c.2 14 (q * 5 + d)) ∧ b01 (c.2 15 (q * 5 + d) = b01 (fnd c q)) = 0) = b01 (over c q ∧ 0 < c.2 14 (q * 5 + d))
  by_cases z : over c q ∧ 0 < c.2 14 (q * 5 + d)
  · by_cases y : c.2 15 (q * 5 + d) = b01 (fnd c q)
    · rw [b01_t ⟨z, b01_t y⟩, b01_f (fun x => by rw [b01_t y] at x; exact absurd x.2 (by decide)), b01_t z]; rfl
    · rw [b01_f (fun x => by rw [b01_f y] at x; exact absurd x.2 (by decide)), b01_t ⟨z, b01_f y⟩, b01_t z]; rfl
  · rw [b01_f (fun x => z x.1), b01_f (fun x => z x.1), b01_f z]; rfl
theorem L_told (h : RS c t) (hI : IC B c) (hT : IT t) {d : Int} (hd : 0 ≤ d ∧ d < t.1 3) : (0 ≤ dowT c d 2 ∧ dowT c d 2 ≤ 1000000000) ∧ (0 ≤ dowT c d 4 ∧ dowT c d 4 ≤ dowT c d 3 ∧ dowT c d 3 ≤ 1000) ∧ (0 ≤ dowT c d 5 ∧ dowT c d 5 ≤ 1000) ∧ (0 ≤ dowT c d 6 ∧ dowT c d 6 ≤ 10) ∧ (0 ≤ dowT c d 7 ∧ dowT c d 7 ≤ 10) ∧ dowT c d 6 + dowT c d 7 ≤ c.1 5 := by
  have hs := hI.s
  have hD := (h.d d hd.1 hd.2).2.2
  have hc := (F_coins h hT).2.2 d hd.1 hd.2
  have b3 := pgOf_b c d
  have b4 := truOf_b c d
  have b5 := unp_b hI d
  have b6 := pb_b hI d 1
  have b7 := pb_b hI d 0
  have e34 : truOf c d ≤ pgOf c d := sm_le 400 (fun j _ _ => by
    show b01 (c.2 8 j = d ∧ truP c j) ≤ b01 (c.2 8 j = d)
    have := b01_01 (c.2 8 j = d ∧ truP c j)
    by_cases z : c.2 8 j = d
    · rw [b01_t z]; omega
    · rw [b01_f z, b01_f (fun x => z x.1)]; omega)
  have e67 := pb_two c d
  have e67b := sm_b (f := fun q => b01 (over c q ∧ 0 < c.2 14 (q * 5 + d))) (lo := 0) (hi := 1) (c.1 5).toNat (fun j _ _ => b01_01 _)
  refine ⟨?_, ?_, ?_, ?_, ?_, ?_⟩
  · show 0 ≤ c.2 7 d ∧ c.2 7 d ≤ 1000000000; omega
  · show 0 ≤ truOf c d ∧ truOf c d ≤ pgOf c d ∧ pgOf c d ≤ 1000; omega
  · show 0 ≤ unp c d ∧ unp c d ≤ 1000; omega
  · show 0 ≤ pbets c d 1 ∧ pbets c d 1 ≤ 10; omega
  · show 0 ≤ pbets c d 0 ∧ pbets c d 0 ≤ 10; omega
  · show pbets c d 1 + pbets c d 0 ≤ c.1 5; omega
theorem cnL_e (c : CS) : ∀ n : Nat, cnL c n = c.1 1 + (sm (fun d => dowT c d 2) n + sm (fun d => dowT c d 5) n)
  | 0 => by show c.1 1 = c.1 1 + (0 + 0); omega
  | n + 1 => by rw [cnL, cnL_e c n, sm_suc, sm_suc]; omega
theorem sBt_sum (F : Int → Int) : sBt F 1 + sBt F 0 = sm (fun d => ab (F (4 + d))) 5 := by
  unfold sBt
  rw [← sm_add]
  exact sm_congr _ (fun d _ _ => sBe_c F)
theorem sm_cut {f : Int → Int} {n : Nat} : ∀ m : Nat, n ≤ m → (∀ j : Int, (n : Int) ≤ j → j < (m : Int) → f j = 0) → sm f m = sm f n
  | 0, h, _ => by rw [show n = 0 by omega]
  | m + 1, h, hz => by
    by_cases e : n = m + 1
    · rw [e]
    · rw [sm_suc, sm_cut m (by omega) (fun j a b => hz j a (by omega)), hz (m : Int) (by omega) (by omega), Int.add_zero]
theorem F_open (h : RS c t) (hT : IT t) : sm (fun d => unp c d) (t.1 3).toNat = sOpen t := by
  have hs := hT.s
  have e1 := sm_congr (f := fun d => unp c d) (f' := fun d => sm (fun q => if sOv t q then 0 else ab (t.2 3 q (4 + d))) (t.1 5).toNat) (t.1 3).toNat (fun d a b => F_unp h hT ⟨a, by omega⟩)
  rw [e1, sm_swap (fun d q => if sOv t q then 0 else ab (t.2 3 q (4 + d))), sOpen_o]
  refine sm_congr _ (fun q a b => ?_)
  have hq : 0 ≤ q ∧ q < t.1 5 := ⟨a, by omega⟩
  unfold oB
  by_cases z : sOv t q
  · rw [if_pos z]
    exact (sm_congr _ (fun d _ _ => if_pos z)).trans (sm_zero _)
  · rw [if_neg z, sBt_sum, sm_cut (n := (t.1 3).toNat) 5 (by omega) (fun d d0 d1 => by
      rw [(h.b q d hq.1 hq.2 (by omega) (by omega)).2.2 (by omega)]; exact (ab_0 0).mpr rfl)]
    exact sm_congr _ (fun d _ _ => if_neg z)
theorem F_pegs (h : RS c t) (hT : IT t) : sm (fun d => pgOf c d) (t.1 3).toNat = t.1 4 := by
  have hs := hT.s
  have e1 := sm_congr (f := fun d => pgOf c d) (f' := fun d => sm (fun k => b01 (t.2 2 k 2 = d)) (t.1 4).toNat) (t.1 3).toNat (fun d a b => F_pgOf h hT a)
  rw [e1, sm_swap (fun d k => b01 (t.2 2 k 2 = d))]
  have e2 := sm_congr (f := fun k => sm (fun d => b01 (t.2 2 k 2 = d)) (t.1 3).toNat) (f' := fun _ => 1) (t.1 4).toNat (fun k a b => by
    have hp := hT.p (i := k) ⟨a, by omega⟩
    show sm (fun d => b01 (t.2 2 k 2 = d)) (t.1 3).toNat = 1
    rw [sm_congr (f' := fun d => if d = t.2 2 k 2 then 1 else (fun _ => (0 : Int)) d) (t.1 3).toNat (fun d _ _ => by
      show b01 (t.2 2 k 2 = d) = if d = t.2 2 k 2 then 1 else 0
      by_cases e : t.2 2 k 2 = d
      · rw [b01_t e, if_pos e.symm]
      · rw [b01_f e, if_neg (fun z => e z.symm)]), sm_upd hp.2.2.1, sm_zero, if_pos (by omega)]; rfl)
  rw [e2, sm_ones]; omega
theorem L_sums (h : RS c t) (hI : IC B c) (hT : IT t) : cnL c (c.1 3).toNat = 50 * c.1 3 ∧ handL c (c.1 3).toNat = cntT c 8 ∧ pegL c (c.1 3).toNat = c.1 4 ∧ (0 ≤ c.1 1 ∧ c.1 1 ≤ 1000) ∧ (0 ≤ cntT c 8 ∧ cntT c 8 ≤ 1000) := by
  have hs := hT.s
  obtain ⟨f1, f2, -⟩ := F_coins h hT
  have n3 : c.1 3 = t.1 3 := h.n.2.2.2.1
  have n4 : c.1 4 = t.1 4 := h.n.2.2.2.2.1
  have n1 : c.1 1 = t.1 1 := h.n.2.1
  have eA := F_allC h hT
  have e8 : cntT c 8 = allC c := rfl
  have eO := F_open h hT
  have eP := F_pegs h hT
  have hk := h.k.2
  have e2 : sm (fun d => dowT c d 2) (t.1 3).toNat = sm (fun d => t.2 1 d 2) (t.1 3).toNat := sm_congr _ (fun d a b => (h.d d a (by omega)).2.2.1)
  have e5 : sm (fun d => dowT c d 5) (t.1 3).toNat = sm (fun d => unp c d) (t.1 3).toNat := sm_congr _ (fun d a b => rfl)
  rw [n3, n4]
  refine ⟨?_, ?_, eP, by omega, by omega⟩
  · rw [cnL_e, e2, e5, eO]; omega
  · show sm (fun d => dowT c d 2) (t.1 3).toNat = allC c
    rw [e2, eA]; rfl
theorem L_spot (h : RS c t) (hI : IC B c) (hT : IT t) {x y : Int} (hf : inF x y) : (0 ≤ spotT c (y * 20 + x) 0 ∧ spotT c (y * 20 + x) 0 ≤ 54) ∧ ((spotT c (y * 20 + x) 0 = 0 ∧ spotT c (y * 20 + x) 1 = 0) ∨ (0 < spotT c (y * 20 + x) 0 ∧ 0 < spotT c (y * 20 + x) 1)) ∧ spotT c (y * 20 + x) 1 ≤ 20 ∧ -1 ≤ spotT c (y * 20 + x) 2 ∧ spotT c (y * 20 + x) 2 ≤ 4 := by
  have hs := hT.s
  obtain ⟨q0, q1, -, -, q2, q0b, -, -⟩ := S_spot h hI hT hf
  have hd := sDep20 hT x y
  have sd := sw_dp hT x y (t.1 2).toNat (by omega)
  have e : sWat t x y = sm (sWt t x y) (t.1 2).toNat := rfl
  rw [q0, q1]
  refine ⟨q0b, ?_, hd.2, q2⟩
  rw [e]
  unfold sDep
  rcases sd with ⟨s1, s2⟩ | ⟨s1, s2, s3⟩
  · exact Or.inl ⟨s1, if_pos s2⟩
  · exact Or.inr ⟨s1, by rw [if_neg (by omega)]; omega⟩
theorem L_all (h : RS c t) (hI : IC B c) (hT : IT t) : wetD c (20 * 20) = cntT c 5 ∧ allD c (20 * 20) = c.1 4 ∧ truD c (20 * 20) = cntT c 6 ∧ watD c (20 * 20) = meanW c ∧ (0 ≤ cntT c 5 ∧ cntT c 5 ≤ 400) ∧ 0 ≤ cntT c 6 ∧ cntT c 6 ≤ 400 := by
  have p8 : ∀ sp, 0 ≤ c.2 8 sp ↔ c.2 8 sp ≠ -1 := fun sp => by have := hI.r8 sp; omega
  refine ⟨sm_tr (fun sp => b01 (0 < c.2 3 sp)), ?_, ?_, ?_, wet_b c, tru_b c⟩
  · rw [← F_cnt h hT]
    refine (sm_tr (fun sp => b01 (0 ≤ c.2 8 sp))).trans (sm_congr _ (fun sp _ _ => b01_congr (p8 sp)))
  · refine (sm_tr (fun sp => if 0 ≤ c.2 8 sp then b01 (0 < c.2 3 sp) else 0)).trans (sm_congr _ (fun sp _ _ => ?_))
    show (if 0 ≤ c.2 8 sp then b01 (0 < c.2 3 sp) else 0) = b01 (c.2 8 sp ≠ -1 ∧ 0 < c.2 3 sp)
    by_cases z : 0 ≤ c.2 8 sp
    · rw [if_pos z]; exact b01_congr ⟨fun x => ⟨(p8 sp).mp z, x⟩, fun x => x.2⟩
    · rw [if_neg z, b01_f (fun x => z ((p8 sp).mpr x.1))]
  · refine (sm_tr (fun sp => if 0 ≤ c.2 8 sp then c.2 3 sp else 0)).trans (sm_congr _ (fun sp _ _ => ?_))
    show (if 0 ≤ c.2 8 sp then c.2 3 sp else 0) = if c.2 8 sp ≠ -1 then c.2 3 sp else 0
    by_cases z : 0 ≤ c.2 8 sp
    · rw [if_pos z, if_pos ((p8 sp).mp z)]
    · rw [if_neg z, if_neg (fun x => z ((p8 sp).mpr x))]
end LF
section LK
variable {c : CS} {t : SS} {B : Int}
theorem onL_9 (F : Int → Int) : ∀ n : Nat, onL (sA c 9 F) n = onL c n
  | 0 => rfl
  | n + 1 => by
    show (if c.2 8 (n : Int) ≠ -1 then _ else onL (sA c 9 F) n) = _
    rw [onL_9 F n]; rfl
theorem lineT_9 {F : Int → Int} {w : Int} : lineT (sA c 9 F) w = lineT c w := by
  unfold lineT
  rw [onL_9]
  rfl
theorem nr_9 (F : Int → Int) (sp : Int) : ∀ n : Nat, nr (sA c 9 F) sp n = nr c sp n
  | 0 => rfl
  | n + 1 => by
    rw [nr, nr, nr_9 F sp n]
    rfl
theorem spotT_9 (F : Int → Int) : spotT (sA c 9 F) = spotT c := by
  funext sp w
  unfold spotT
  rw [nr_9]
  rfl
theorem digC_9 {F : Int → Int} : digC (sA c 9 F) = digC c := by
  unfold digC
  rw [spotT_9]
  rfl
theorem paidL_9 {F : Int → Int} {n : Nat} : paidL (sA c 9 F) n = paidL c n := rfl
theorem R_line (h : RS c t) : RS (sA c 9 (onL c 400)) t := ⟨h.n, h.v, h.v0, h.w, h.d, h.p, h.u2, h.u3, h.q, h.b, h.z, h.a, h.r, h.k⟩
theorem IC_line (hI : IC B c) : IC B (sA c 9 (onL c 400)) := hI.a9
theorem L_best (hI : IC B c) {d : Int} : inF (bestT c d 0) (bestT c d 1) ∧ bendC c d (bestT c d 1 * 20 + bestT c d 0) = bestT c d 2 ∧ (0 ≤ bestT c d 2 ∧ bestT c d 2 ≤ 489) ∧ ∀ x y : Int, inF x y → 0 ≤ bendC c d (y * 20 + x) ∧ bendC c d (y * 20 + x) ≤ bestT c d 2 := by
  have hb := fm_b (bendC c d) 400
  have hm := (fm_max (bendC c d) 400).1
  have e : bestS c d = fm (bendC c d) 400 := rfl
  show inF (bestS c d % 20) (bestS c d / 20) ∧ bendC c d (bestS c d / 20 * 20 + bestS c d % 20) = bendC c d (bestS c d) ∧ (0 ≤ bendC c d (bestS c d) ∧ bendC c d (bestS c d) ≤ 489) ∧ ∀ x y : Int, inF x y → 0 ≤ bendC c d (y * 20 + x) ∧ bendC c d (y * 20 + x) ≤ bendC c d (bestS c d)
  rw [e]
  have hb2 : 0 ≤ fm (bendC c d) 400 ∧ fm (bendC c d) 400 < 400 := by omega
  refine ⟨by omega, ?_, bendC_b hI d _, fun x y hf => ⟨(bendC_b hI d _).1, hm _ (by omega) (by omega)⟩⟩
  congr 1
  omega
theorem L_notov {q : Int} (h : ¬ pitT c q 4 = 1) : ¬ over c q := fun z => h (b01_t z)
theorem qt_at (hT : IT t) (hu : RSu t 3) {k : Int} (hk : 0 ≤ k ∧ k < t.1 5) : sQA t (t.2 3 k 0) (t.2 3 k 1) = k := by
  have hs := hT.s
  have cK : ((k.toNat : Nat) : Int) = k := by omega
  unfold sQA
  rw [ff_hit (k := k.toNat) (ff_all _ (fun j hj z => hu (j : Int) k (by omega) (by omega) hk.2 ⟨z.1, z.2⟩)) (by rw [cK]; exact ⟨rfl, rfl⟩) _ (by omega), cK]
theorem L_pit (h : RS c t) (hI : IC B c) (hT : IT t) {q : Int} (hq : 0 ≤ q ∧ q < t.1 5) : (0 ≤ pitT c q 5 ∧ pitT c q 5 ≤ 495) ∧ (0 ≤ pitT c q 6 ∧ pitT c q 6 ≤ 495) ∧ (0 ≤ pitT c q 4 ∧ pitT c q 4 ≤ 1) ∧ (0 ≤ pitT c q 2 ∧ pitT c q 2 ≤ 20) ∧ (pitT c q 3 = 0 ∨ (pitT c q 3 = 1 ∧ pitT c q 4 = 1)) ∧ (pitT c q 2 < 20 ∨ pitT c q 4 = 1) ∧ inF (pitT c q 0) (pitT c q 1) ∧ spotT c (pitT c q 1 * 20 + pitT c q 0) 3 = q := by
  have hQ := hT.q hq
  obtain ⟨q11, q12, q13, q4⟩ := h.q q hq.1 hq.2
  have b1 := stOn_b hI q 1
  have b0 := stOn_b hI q 0
  have o01 := b01_01 (over c q)
  have r13 := hI.r13 q
  refine ⟨b1, b0, o01, r13, ?_, ?_, ?_, ?_⟩
  · show b01 (fnd c q) = 0 ∨ (b01 (fnd c q) = 1 ∧ b01 (over c q) = 1)
    by_cases z : fnd c q
    · exact Or.inr ⟨b01_t z, b01_t (Or.inl z)⟩
    · exact Or.inl (b01_f z)
  · show c.2 13 q < 20 ∨ b01 (over c q) = 1
    by_cases z : c.2 13 q < 20
    · exact Or.inl z
    · exact Or.inr (b01_t (Or.inr (by omega)))
  · show inF (c.2 11 q % 20) (c.2 11 q / 20)
    omega
  · show c.2 10 (c.2 11 q / 20 * 20 + c.2 11 q % 20) = q
    have e0 : c.2 11 q % 20 = t.2 3 q 0 := by omega
    have e1 : c.2 11 q / 20 = t.2 3 q 1 := by omega
    rw [e0, e1, R_at h ⟨hQ.1, hQ.2.1⟩]
    exact qt_at hT h.u3 hq
theorem gets_pos {F : Int → Int} {f : Int} (h : 0 < sBt F f) (hf : f = 0 ∨ f = 1) : 0 < sm (fun d => sGt F d f) 5 := by
  obtain ⟨k, hk, hk2⟩ := sm_pos (sBe_nn F f) 5 h
  have a1 := sBt_nn F 1
  have a0 := sBt_nn F 0
  have hle : sBt F f ≤ sBt F 1 + sBt F 0 := by rcases hf with e | e <;> rw [e] <;> omega
  have hg : ∀ j : Int, 0 ≤ sGt F j f := fun j => by
    rw [sGt_e]
    exact Int.ediv_nonneg (Int.mul_nonneg (sBe_nn _ _ _) (by omega)) (by omega)
  have h1 : 1 ≤ sGt F (k : Int) f := by
    rw [sGt_e]
    refine Int.le_ediv_of_mul_le h ?_
    rw [Int.one_mul]
    have h2 : 1 * (sBt F 1 + sBt F 0) ≤ sBe F f (k : Int) * (sBt F 1 + sBt F 0) := Int.mul_le_mul_of_nonneg_right (by omega) (by omega)
    omega
  have h3 := sm_ge (f := fun d => sGt F d f) 5 (fun j _ _ => hg j) (k : Int) (by omega) (by omega)
  have h3 : sGt F (k : Int) f ≤ sm (fun d => sGt F d f) 5 := h3
  omega
theorem F_wou (h : RS c t) (hT : IT t) {q f : Int} (hq : 0 ≤ q ∧ q < t.1 5) (ho : ¬ over c q) : wouS c q f (c.1 3).toNat = sm (fun d => sGt (t.2 3 q) d f) 5 := by
  have hs := hT.s
  have n3 : c.1 3 = t.1 3 := h.n.2.2.2.1
  rw [sm_cut (n := (c.1 3).toNat) 5 (by omega) (fun d d0 d1 => by
    show sGt (t.2 3 q) d f = 0
    exact if_pos (Or.inl ((h.b q d hq.1 hq.2 (by omega) (by omega)).2.2 (by omega))))]
  refine sm_congr _ (fun d a b => ?_)
  show wouldT c q d f = _
  unfold wouldT
  rw [if_neg ho]
  exact R_shr h hq ⟨a, by omega⟩
theorem L_wou (h : RS c t) (hI : IC B c) (hT : IT t) {q : Int} (hq : 0 ≤ q ∧ q < t.1 5) : (pitT c q 4 = 1 ∧ wouS c q 1 (c.1 3).toNat = 0 ∧ wouS c q 0 (c.1 3).toNat = 0) ∨ (pitT c q 4 = 0 ∧ (wouS c q 1 (c.1 3).toNat ≤ pitT c q 5 + pitT c q 6 ∧ wouS c q 0 (c.1 3).toNat ≤ pitT c q 5 + pitT c q 6) ∧ ((wouS c q 1 (c.1 3).toNat = 0 ∧ pitT c q 5 = 0) ∨ (0 < wouS c q 1 (c.1 3).toNat ∧ 0 < pitT c q 5)) ∧ ((wouS c q 0 (c.1 3).toNat = 0 ∧ pitT c q 6 = 0) ∨ (0 < wouS c q 0 (c.1 3).toNat ∧ 0 < pitT c q 6))) := by
  by_cases ho : over c q
  · have z : ∀ f n, wouS c q f n = 0 := fun f n => (sm_congr n (fun d _ _ => if_pos ho)).trans (sm_zero n)
    exact Or.inl ⟨b01_t ho, z _ _, z _ _⟩
  · have e5 : pitT c q 5 = sBt (t.2 3 q) 1 := R_stOn h hq
    have e6 : pitT c q 6 = sBt (t.2 3 q) 0 := R_stOn h hq
    have a1 := sBt_nn (t.2 3 q) 1
    have a0 := sBt_nn (t.2 3 q) 0
    have g1 := gets_le (t.2 3 q) 1 (n := 5) (Nat.le_refl _)
    have g0 := gets_le (t.2 3 q) 0 (n := 5) (Nat.le_refl _)
    have zz : ∀ f, sBt (t.2 3 q) f = 0 → sm (fun d => sGt (t.2 3 q) d f) 5 = 0 := fun f hf => (sm_congr 5 (fun d _ _ => by
      show sGt (t.2 3 q) d f = 0
      rw [sGt_e, hf, Int.ediv_zero])).trans (sm_zero 5)
    rw [F_wou h hT hq ho, F_wou h hT hq ho, e5, e6]
    refine Or.inr ⟨b01_f ho, ⟨g1.1, g0.1⟩, ?_, ?_⟩
    · by_cases z : sBt (t.2 3 q) 1 = 0
      · exact Or.inl ⟨zz 1 z, z⟩
      · exact Or.inr ⟨gets_pos (by omega) (Or.inr rfl), by omega⟩
    · by_cases z : sBt (t.2 3 q) 0 = 0
      · exact Or.inl ⟨zz 0 z, z⟩
      · exact Or.inr ⟨gets_pos (by omega) (Or.inl rfl), by omega⟩
theorem stI_e (c : CS) (t : SS) (z q : Int) : ∀ n : Nat, stI c t z q n = z + sm (fun d => b01 (pitT c q 4 = 1 ∧ t.2 3 q (4 + d) ≠ 0)) n
  | 0 => (Int.add_zero z).symm
  | n + 1 => by rw [stI, stI_e c t z q n, sm_suc, Int.add_assoc]
theorem setD_e (c : CS) (t : SS) : ∀ n : Nat, setD c t n = sm (fun q => sm (fun d => b01 (pitT c q 4 = 1 ∧ t.2 3 q (4 + d) ≠ 0)) (c.1 3).toNat) n
  | 0 => rfl
  | n + 1 => by rw [setD, stI_e, setD_e c t n, sm_suc _ n]
theorem L_settled (h : RS c t) (hI : IC B c) (hT : IT t) : setD c t (c.1 5).toNat = paidL c (c.1 3).toNat ∧ 0 ≤ paidL c (c.1 3).toNat ∧ paidL c (c.1 3).toNat ≤ 1000 := by
  have hs := hT.s
  have n3 : c.1 3 = t.1 3 := h.n.2.2.2.1
  have n5 : c.1 5 = t.1 5 := h.n.2.2.2.2.2
  have hb := sm_b (f := fun d => dowT c d 6 + dowT c d 7) (lo := 0) (hi := 20) (c.1 3).toNat (fun d _ _ => by
    have b6 := pb_b hI d 1
    have b7 := pb_b hI d 0
    show 0 ≤ pbets c d 1 + pbets c d 0 ∧ pbets c d 1 + pbets c d 0 ≤ 20
    omega)
  have e : setD c t (c.1 5).toNat = paidL c (c.1 3).toNat := by
    rw [setD_e, sm_swap (fun q d => b01 (pitT c q 4 = 1 ∧ t.2 3 q (4 + d) ≠ 0))]
    refine sm_congr _ (fun d a b => ?_)
    show _ = pbets c d 1 + pbets c d 0
    rw [pb_two]
    refine sm_congr _ (fun q q0 q1 => ?_)
    have h14 := (h.b q d q0 (by omega) a (by omega)).1
    have a0 := ab_0 (t.2 3 q (4 + d))
    have an := ab_nn (t.2 3 q (4 + d))
    refine b01_congr ?_
    show (b01 (over c q) = 1 ∧ t.2 3 q (4 + d) ≠ 0) ↔ _
    rw [b01_eq, h14]
    exact ⟨fun z => ⟨z.1, by omega⟩, fun z => ⟨z.1, by omega⟩⟩
  have hp : paidL c (c.1 3).toNat = sm (fun d => dowT c d 6 + dowT c d 7) (c.1 3).toNat := rfl
  refine ⟨e, ?_, ?_⟩ <;> rw [hp] <;> omega
theorem gtF_e (c : CS) (q : Int) : ∀ (n : Nat) (d : Int), 0 ≤ d → d < (n : Int) → gtF c q n 0 d = dowT c d 2 + wouldT c q d 0 ∧ gtF c q n 1 d = dowT c d 2 + wouldT c q d 1
  | 0, d, h0, h1 => absurd h1 (by omega)
  | n + 1, d, h0, h1 => by
    have e0 : gtF c q (n + 1) 0 = upZ (gtF c q n 0) (n : Int) (dowT c (n : Int) 2 + wouldT c q (n : Int) 0) := by
      rw [gtF, up2_ne (by decide), up2_r]
    have e1 : gtF c q (n + 1) 1 = upZ (gtF c q n 1) (n : Int) (dowT c (n : Int) 2 + wouldT c q (n : Int) 1) := by
      rw [gtF, up2_r, up2_ne (by decide)]
    rw [e0, e1]
    by_cases e : d = (n : Int)
    · rw [e, upZ_same, upZ_same]; exact ⟨rfl, rfl⟩
    · rw [upZ_ne e, upZ_ne e]; exact gtF_e c q n d h0 (by omega)
theorem L_dig (h : RS c t) (hI : IC B c) (hT : IT t) {q : Int} (hq : 0 ≤ q ∧ q < t.1 5) (ho : ¬ over c q) : pitT (digC1 c q 20) q 4 = 1 ∧ pitT (digC1 c q 20) q 2 = dpn c q 20 ∧ (0 ≤ dpn c q 20 ∧ dpn c q 20 ≤ 20) ∧ (0 ≤ pitT (digC1 c q 20) q 3 ∧ pitT (digC1 c q 20) q 3 ≤ 1) ∧ (c.1 1 ≤ (digC1 c q 20).1 1 ∧ (digC1 c q 20).1 1 ≤ c.1 1 + pitT (digC1 c q 20) q 5 + pitT (digC1 c q 20) q 6 ∧ 0 ≤ c.1 1 ∧ c.1 1 ≤ 1000 ∧ (digC1 c q 20).1 1 ≤ 3000 ∧ 0 ≤ pitT (digC1 c q 20) q 5 ∧ pitT (digC1 c q 20) q 5 ≤ 495 ∧ 0 ≤ pitT (digC1 c q 20) q 6 ∧ pitT (digC1 c q 20) q 6 ≤ 495) ∧ ((digC1 c q 20).1 3 = c.1 3 ∧ (digC1 c q 20).1 5 = c.1 5) ∧ ∀ d : Int, 0 ≤ d → d < c.1 3 → (dowT (digC1 c q 20) d 2 = gtF c q (c.1 3).toNat (pitT (digC1 c q 20) q 3) d ∧ -1000000 ≤ dowT (digC1 c q 20) d 2 ∧ dowT (digC1 c q 20) d 2 ≤ 1000000) ∧ ∀ f : Int, wouldT (digC1 c q 20) q d f = 0 := by
  have hs := hT.s
  have n3 : c.1 3 = t.1 3 := h.n.2.2.2.1
  have n1 : c.1 1 = t.1 1 := h.n.2.1
  have r12 := hI.r12 q
  have r13 := hI.r13 q
  have hvb := dpn_b hI q (by9 := 20) (by omega)
  have d13 : (dpC c q 20).2 13 q = dpn c q 20 := upZ_same
  have w : over (dpC c q 20) q := by
    show (0 < c.2 12 q ∧ c.2 12 q ≤ (dpC c q 20).2 13 q) ∨ 20 ≤ (dpC c q 20).2 13 q
    rw [d13]
    unfold dpn
    by_cases z : 0 < c.2 12 q
    · rw [if_pos z]; omega
    · rw [if_neg z]; omega
  have eX : digC1 c q 20 = payC (dpC c q 20) q := if_pos w
  obtain ⟨f, hf⟩ : ∃ f, f = b01 (fnd (dpC c q 20) q) := ⟨_, rfl⟩
  have hf01 : f = 0 ∨ f = 1 := by
    have := b01_01 (fnd (dpC c q 20) q)
    omega
  have rows : ∀ k : Nat, k ≠ 7 → (digC1 c q 20).2 k = (dpC c q 20).2 k := fun k hk => by rw [eX]; exact payC_row _ q k hk
  have x12 := rows 12 (by decide)
  have x13 := rows 13 (by decide)
  have x14 := rows 14 (by decide)
  have x15 := rows 15 (by decide)
  have oX : over (digC1 c q 20) q := by
    show (0 < (digC1 c q 20).2 12 q ∧ (digC1 c q 20).2 12 q ≤ (digC1 c q 20).2 13 q) ∨ 20 ≤ (digC1 c q 20).2 13 q
    rw [x12, x13]; exact w
  have p3 : pitT (digC1 c q 20) q 3 = f := by
    show b01 (0 < (digC1 c q 20).2 12 q ∧ (digC1 c q 20).2 12 q ≤ (digC1 c q 20).2 13 q) = f
    rw [x12, x13, hf]
  have st : ∀ f, stOn (digC1 c q 20) q f = sBt (t.2 3 q) f := fun f => by
    rw [← R_stOn h hq]
    unfold stOn stk
    rw [x14, x15]; rfl
  have p5 : pitT (digC1 c q 20) q 5 = sBt (t.2 3 q) 1 := st 1
  have p6 : pitT (digC1 c q 20) q 6 = sBt (t.2 3 q) 0 := st 0
  have s1 := R_stOn h (f := 1) hq
  have s0 := R_stOn h (f := 0) hq
  have b1 := stOn_b hI q 1
  have b0 := stOn_b hI q 0
  have c1f : ((dpC c q 20).1 3).toNat = (t.1 3).toNat := by show (c.1 3).toNat = _; rw [n3]
  have eL : left (dpC c q 20) q f (t.1 3).toNat = (sBt (t.2 3 q) 1 + sBt (t.2 3 q) 0) - sm (fun d => sGt (t.2 3 q) d f) (t.1 3).toNat := by
    rw [left_v]
    have e1 : allS (dpC c q 20) q = sBt (t.2 3 q) 1 + sBt (t.2 3 q) 0 := by
      show stOn c q 1 + stOn c q 0 = _
      rw [s1, s0]
    rw [e1]
    congr 1
    exact sm_congr _ (fun j j0 j1 => R_shr h hq ⟨j0, by omega⟩)
  have gl := gets_le (t.2 3 q) f (n := (t.1 3).toNat) (by omega)
  obtain ⟨q1, q2⟩ := payD_c (dpC c q 20) q f (t.1 3).toNat
  have e11 : (digC1 c q 20).1 1 = c.1 1 + left (dpC c q 20) q f (t.1 3).toNat := by
    rw [eX]
    unfold payC
    rw [← hf, c1f]
    show (payD (dpC c q 20) q f (t.1 3).toNat).1 1 + _ = _
    rw [q1]; rfl
  have e1k : ∀ k : Nat, k ≠ 1 → (digC1 c q 20).1 k = c.1 k := fun k hk => by
    rw [eX]
    unfold payC
    rw [← hf, c1f, sS_ne hk, q1]; rfl
  obtain ⟨fc1, fc2, fc3⟩ := F_coins h hT
  refine ⟨b01_t oX, ?_, hvb, by rw [p3]; omega, by rw [e11, eL, p5, p6]; omega, ⟨e1k 3 (by decide), e1k 5 (by decide)⟩, fun d d0 d1 => ⟨?_, fun f' => if_pos oX⟩⟩
  · show (digC1 c q 20).2 13 q = _
    rw [x13, d13]
  · have e7 : (digC1 c q 20).2 7 d = c.2 7 d + shr c q d f := by
      rw [eX]
      unfold payC
      rw [← hf, c1f]
      show (payD (dpC c q 20) q f (t.1 3).toNat).2 7 d = _
      rw [payD_row, if_pos ⟨d0, by omega⟩]; rfl
    have eg : gtF c q (c.1 3).toNat f d = c.2 7 d + shr c q d f := by
      have := gtF_e c q (c.1 3).toNat d d0 (by omega)
      have ew : ∀ f, wouldT c q d f = shr c q d f := fun f => if_neg ho
      rcases hf01 with e | e <;> rw [e]
      · rw [this.1, ew]; rfl
      · rw [this.2, ew]; rfl
    have h7 := (h.d d d0 (by omega)).2.2
    have sb := (shr_b hI q d f).2.2
    have hcd := fc3 d d0 (by omega)
    show (digC1 c q 20).2 7 d = _ ∧ -1000000 ≤ (digC1 c q 20).2 7 d ∧ (digC1 c q 20).2 7 d ≤ 1000000
    rw [p3, e7, eg]
    exact ⟨rfl, by omega, by omega⟩
end LK
section LM
variable {c : CS} {t : SS} {B : Int}
theorem rowD_e (c : CS) (y : Int) : ∀ n : Nat, rowD c n y = sm (fun k => b01 (0 ≤ spotT c (spD k) 2 ∧ k % 20 = y)) n
  | 0 => rfl
  | n + 1 => by
    rw [rowD_s, sm_suc _ n, ← rowD_e c y n]
    by_cases z : 0 ≤ spotT c (spD (n : Int)) 2
    · rw [if_pos z]
      by_cases e : y = (n : Int) % 20
      · rw [e, upZ_same, b01_t ⟨z, rfl⟩]
      · rw [upZ_ne e, b01_f (fun x => e x.2.symm), Int.add_zero]
    · rw [if_neg z, b01_f (fun x => z x.1), Int.add_zero]
theorem colD_e (c : CS) (x : Int) : ∀ n : Nat, colD c n x = sm (fun k => b01 (0 ≤ spotT c (spD k) 2 ∧ k / 20 = x)) n
  | 0 => rfl
  | n + 1 => by
    rw [colD_s, sm_suc _ n, ← colD_e c x n]
    by_cases z : 0 ≤ spotT c (spD (n : Int)) 2
    · rw [if_pos z]
      by_cases e : x = (n : Int) / 20
      · rw [e, upZ_same, b01_t ⟨z, rfl⟩]
      · rw [upZ_ne e, b01_f (fun w => e w.2.symm), Int.add_zero]
    · rw [if_neg z, b01_f (fun w => z w.1), Int.add_zero]
theorem spD_in {k : Int} (h : 0 ≤ k ∧ k < 400) : spD k % 20 = k / 20 ∧ spD k / 20 = k % 20 := by unfold spD; omega
theorem row_F (hI : IC B c) {y : Int} (hy : 0 ≤ y ∧ y < 20) : rowD c (20 * 20) y = onL c 400 y := by
  have e : rowD c (20 * 20) y = sm (fun k => (fun sp => b01 (0 ≤ c.2 8 sp ∧ sp / 20 = y)) (spD k)) (20 * 20) := (rowD_e c y (20 * 20)).trans (sm_congr _ (fun k a b => by
    show b01 (0 ≤ c.2 8 (spD k) ∧ k % 20 = y) = b01 (0 ≤ c.2 8 (spD k) ∧ spD k / 20 = y)
    rw [(spD_in (k := k) (by omega)).2]))
  have e2 : kindL y = 0 ∧ numL y = y := by have := kn_cs (q := y) (by omega); omega
  rw [e]
  refine (sm_tr (fun sp => b01 (0 ≤ c.2 8 sp ∧ sp / 20 = y))).trans ?_
  rw [onL_sm c (by omega) 400 (Nat.le_refl _)]
  refine sm_congr _ (fun sp a b => b01_congr ?_)
  have := hI.r8 sp
  rw [e2.1, e2.2, (lnOf_cs sp).1]
  omega
theorem col_F (hI : IC B c) {x : Int} (hx : 0 ≤ x ∧ x < 20) : colD c (20 * 20) x = onL c 400 (20 + x) := by
  have e : colD c (20 * 20) x = sm (fun k => (fun sp => b01 (0 ≤ c.2 8 sp ∧ sp % 20 = x)) (spD k)) (20 * 20) := (colD_e c x (20 * 20)).trans (sm_congr _ (fun k a b => by
    show b01 (0 ≤ c.2 8 (spD k) ∧ k / 20 = x) = b01 (0 ≤ c.2 8 (spD k) ∧ spD k % 20 = x)
    rw [(spD_in (k := k) (by omega)).1]))
  have e2 : kindL (20 + x) = 1 ∧ numL (20 + x) = x := by have := kn_cs (q := 20 + x) (by omega); omega
  rw [e]
  refine (sm_tr (fun sp => b01 (0 ≤ c.2 8 sp ∧ sp % 20 = x))).trans ?_
  rw [onL_sm c (by omega) 400 (Nat.le_refl _)]
  refine sm_congr _ (fun sp a b => b01_congr ?_)
  have := hI.r8 sp
  rw [e2.1, e2.2, (lnOf_cs sp).2.1]
  omega
theorem onD_F (hI : IC B c) {kd nb : Int} (h4 : c.1 4 ≠ 0) (h1 : lineT c 1 = kd) (h2 : lineT c 2 = nb) (hk : kd = 0 ∨ kd = 1 ∨ kd = 2 ∨ kd = 3) : onD c (20 * 20) = sm (fun sp => b01 (c.2 8 sp ≠ -1 ∧ lnOf kd sp = nb)) 400 := by
  have ei : ∀ k : Int, 0 ≤ k → k < 400 → itsL c (k / 20) (k % 20) = lnOf kd (spD k) := fun k a b => by
    have hs := spD_in (k := k) ⟨a, b⟩
    have hl := lnOf_cs (spD k)
    rw [hs.1, hs.2] at hl
    unfold itsL
    rw [h1]
    rcases hk with e | e | e | e <;> subst e
    · rw [if_pos rfl, hl.1]
    · rw [if_neg (by decide), if_pos rfl, hl.2.1]
    · rw [if_neg (by decide), if_neg (by decide), if_pos rfl, hl.2.2.1]
    · rw [if_neg (by decide), if_neg (by decide), if_neg (by decide), hl.2.2.2]
  have e : onD c (20 * 20) = sm (fun k => (fun sp => b01 (c.2 8 sp ≠ -1 ∧ lnOf kd sp = nb)) (spD k)) (20 * 20) := sm_congr _ (fun k a b => by
    show (if c.1 4 ≠ 0 ∧ itsL c (k / 20) (k % 20) = lineT c 2 then b01 (0 ≤ c.2 8 (spD k)) else 0) = b01 (c.2 8 (spD k) ≠ -1 ∧ lnOf kd (spD k) = nb)
    rw [ei k a (by omega), h2]
    have := hI.r8 (spD k)
    by_cases z : lnOf kd (spD k) = nb
    · rw [if_pos ⟨h4, z⟩]
      exact b01_congr ⟨fun w => ⟨by omega, z⟩, fun w => by omega⟩
    · rw [if_neg (fun w => z w.2), b01_f (fun w => z w.2)])
  rw [e]
  exact sm_tr (fun sp => b01 (c.2 8 sp ≠ -1 ∧ lnOf kd sp = nb))
theorem L_line (h : RS c t) (hI : IC B c) (hT : IT t) : ((c.1 4 = 0 ∧ lineT c 0 = 0 ∧ lineT c 1 = -1) ∨ (0 < c.1 4 ∧ 0 < lineT c 0 ∧ 0 ≤ lineT c 1)) ∧ lineT c 0 ≤ 60 ∧ lineT c 1 ≤ 3 ∧ (-100 ≤ lineT c 2 ∧ lineT c 2 ≤ 100) ∧ (lineT c 1 = 0 → (0 ≤ lineT c 2 ∧ lineT c 2 < 20) ∧ rowD c (20 * 20) (lineT c 2) = lineT c 0) ∧ (lineT c 1 = 1 → (0 ≤ lineT c 2 ∧ lineT c 2 < 20) ∧ colD c (20 * 20) (lineT c 2) = lineT c 0) ∧ (∀ k : Int, 0 ≤ k → k < 20 → (0 ≤ rowD c (20 * 20) k ∧ rowD c (20 * 20) k ≤ lineT c 0) ∧ 0 ≤ colD c (20 * 20) k ∧ colD c (20 * 20) k ≤ lineT c 0) ∧ onD c (20 * 20) = lineT c 0 := by
  have hs := hI.s
  have fb := fm_b (onL c 400) 118
  have hm := (fm_max (onL c 400) 118).1
  obtain ⟨m, em⟩ : ∃ m, m = fm (onL c 400) 118 := ⟨_, rfl⟩
  have l0 : lineT c 0 = onL c 400 m := by rw [em]; rfl
  rw [← em] at fb hm
  have mb : 0 ≤ m ∧ m < 118 := by omega
  have kn := kn_cs mb
  have nn := onL_b c 400
  have ftot : ∀ q : Int, 0 ≤ q → q < 118 → onL c 400 q ≤ c.1 4 := fun q a b => by
    rw [onL_sm c ⟨a, b⟩ 400 (Nat.le_refl _), ← F_cnt h hT]
    refine sm_le 400 (fun sp _ _ => ?_)
    have z1 := b01_01 (c.2 8 sp ≠ -1 ∧ lnOf (kindL q) sp = numL q)
    by_cases z : c.2 8 sp ≠ -1
    · rw [b01_t z]; omega
    · rw [b01_f z, b01_f (fun w => z w.1)]; omega
  have f4 := ftot m mb.1 mb.2
  have n0 := (nn m).1
  have hrc : ∀ k : Int, 0 ≤ k → k < 20 → (0 ≤ rowD c (20 * 20) k ∧ rowD c (20 * 20) k ≤ lineT c 0) ∧ 0 ≤ colD c (20 * 20) k ∧ colD c (20 * 20) k ≤ lineT c 0 := fun k a b => by
    rw [row_F hI ⟨a, b⟩, col_F hI ⟨a, b⟩, l0]
    exact ⟨⟨(nn k).1, hm k a (by omega)⟩, (nn _).1, hm _ (by omega) (by omega)⟩
  by_cases z : c.1 4 = 0
  · have l1 : lineT c 1 = -1 := by unfold lineT; rw [if_neg (by decide), if_pos z]
    have l2 : lineT c 2 = -1 := by unfold lineT; rw [if_neg (by decide), if_pos z]
    have lz : lineT c 0 = 0 := by omega
    have od : onD c (20 * 20) = 0 := (sm_congr _ (fun k _ _ => if_neg (fun w => w.1 z))).trans (sm_zero _)
    exact ⟨Or.inl ⟨z, lz, l1⟩, by omega, by omega, by omega, fun w => by omega, fun w => by omega, hrc, by omega⟩
  · have l1 : lineT c 1 = kindL m := by unfold lineT; rw [if_neg (by decide), if_neg z, if_pos rfl, em]
    have l2 : lineT c 2 = numL m := by unfold lineT; rw [if_neg (by decide), if_neg z, if_neg (by decide), em]
    have hpos : 0 < onL c 400 m := by
      have hc := F_cnt h hT
      obtain ⟨k, hk, hk2⟩ := sm_pos (f := fun sp => b01 (c.2 8 sp ≠ -1)) (fun j => (b01_01 _).1) 400 (by rw [hc]; omega)
      have hk2 : 0 < b01 (c.2 8 (k : Int) ≠ -1) := hk2
      have hk3 : c.2 8 (k : Int) ≠ -1 := fun w => by rw [b01_f (fun y => y w)] at hk2; omega
      have hy : 0 ≤ (k : Int) / 20 ∧ (k : Int) / 20 < 20 := by omega
      have e2 : kindL ((k : Int) / 20) = 0 ∧ numL ((k : Int) / 20) = (k : Int) / 20 := by have := kn_cs (q := (k : Int) / 20) (by omega); omega
      have h1 := hm ((k : Int) / 20) hy.1 (by omega)
      have h2 := sm_ge (f := fun sp => b01 (c.2 8 sp ≠ -1 ∧ lnOf (kindL ((k : Int) / 20)) sp = numL ((k : Int) / 20))) 400 (fun j _ _ => (b01_01 _).1) (k : Int) (by omega) (by omega)
      rw [← onL_sm c (by omega) 400 (Nat.le_refl _)] at h2
      have h3 : b01 (c.2 8 (k : Int) ≠ -1 ∧ lnOf (kindL ((k : Int) / 20)) (k : Int) = numL ((k : Int) / 20)) ≤ onL c 400 ((k : Int) / 20) := h2
      rw [b01_t ⟨hk3, by rw [e2.1, e2.2, (lnOf_cs (k : Int)).1]⟩] at h3
      omega
    have kc : kindL m = 0 ∨ kindL m = 1 ∨ kindL m = 2 ∨ kindL m = 3 := by omega
    have od := onD_F hI z l1 l2 kc
    rw [← onL_sm c mb 400 (Nat.le_refl _)] at od
    refine ⟨Or.inr ⟨by omega, by omega, by omega⟩, by omega, by omega, by omega, fun w => ?_, fun w => ?_, hrc, by omega⟩
    · have : m < 20 ∧ numL m = m := by omega
      rw [l2, this.2, row_F hI (by omega)]
      exact ⟨by omega, l0.symm⟩
    · have : 20 ≤ m ∧ m < 40 ∧ numL m = m - 20 := by omega
      rw [l2, this.2.2, col_F hI (by omega), show 20 + (m - 20) = m by omega]
      exact ⟨by omega, l0.symm⟩
end LM
