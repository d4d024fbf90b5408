/-! WHAT THE LAW'S OWN FIELD ANSWERS, in words over its state -/
def ff (P : Int → Prop) [DecidablePred P] : Nat → Int
  | 0 => -1
  | n + 1 => if ff P n ≠ -1 then ff P n else if P (n : Int) then (n : Int) else -1
theorem ff_b (P : Int → Prop) [DecidablePred P] : ∀ n : Nat, -1 ≤ ff P n ∧ ff P n < n
  | 0 => by simp [ff]
  | n + 1 => by
    have h1 := ff_b P n
    rw [ff]
    split
    · omega
    · split <;> omega
theorem ff_no {P : Int → Prop} [DecidablePred P] {n : Nat} (h : ff P n = -1) (h2 : ¬ P (n : Int)) : ff P (n + 1) = -1 := by
  rw [ff, if_neg (by omega), if_neg h2]
theorem ff_hit {P : Int → Prop} [DecidablePred P] {k : Nat} (h : ff P k = -1) (h2 : P (k : Int)) : ∀ n : Nat, k < n → ff P n = k
  | 0, hn => absurd hn (by omega)
  | n + 1, hn => by
    by_cases e : k = n
    · subst e
      rw [ff, if_neg (by omega), if_pos h2]
    · have h3 := ff_hit h h2 n (by omega)
      rw [ff, if_pos (by omega), h3]
theorem ff_P {P : Int → Prop} [DecidablePred P] : ∀ n : Nat, ff P n ≠ -1 → P (ff P n)
  | 0, h => absurd rfl h
  | n + 1, h => by
    by_cases q : ff P n = -1
    · by_cases q2 : P (n : Int)
      · rw [ff, if_neg (by omega), if_pos q2]; exact q2
      · exact absurd (ff_no q q2) h
    · rw [ff, if_pos q]; exact ff_P n q
theorem ff_none {P : Int → Prop} [DecidablePred P] : ∀ n : Nat, ff P n = -1 → ∀ k : Nat, k < n → ¬ P (k : Int)
  | 0, _, k, hk => absurd hk (by omega)
  | n + 1, h, k, hk => by
    have h0 : ff P n = -1 := by
      by_cases q : ff P n = -1
      · exact q
      · rw [ff, if_pos q] at h; exact absurd h q
    by_cases e : k = n
    · subst e
      intro z
      rw [ff, if_neg (by omega), if_pos z] at h
      omega
    · exact ff_none n h0 k (by omega)
theorem ff_all {P : Int → Prop} [DecidablePred P] : ∀ n : Nat, (∀ k : Nat, k < n → ¬ P (k : Int)) → ff P n = -1
  | 0, _ => rfl
  | n + 1, h => ff_no (ff_all n (fun k hk => h k (by omega))) (h n (by omega))
-- bounds
abbrev VB (F : Int → Int) : Prop := (0 ≤ F 0 ∧ F 0 ≤ 19) ∧ (0 ≤ F 1 ∧ F 1 ≤ 19) ∧ (-1 ≤ F 2 ∧ F 2 ≤ 1) ∧ (-1 ≤ F 3 ∧ F 3 ≤ 1) ∧ (0 ≤ F 4 ∧ F 4 ≤ 19) ∧ (1 ≤ F 5 ∧ F 5 ≤ 20) ∧ 1 ≤ F 6 ∧ F 6 ≤ 9
abbrev DB (F : Int → Int) : Prop := (0 ≤ F 0 ∧ F 0 ≤ 9) ∧ -3 ≤ F 1 ∧ F 1 ≤ 3
abbrev PB (n : Int) (F : Int → Int) : Prop := (0 ≤ F 0 ∧ F 0 ≤ 19) ∧ (0 ≤ F 1 ∧ F 1 ≤ 19) ∧ 0 ≤ F 2 ∧ F 2 < n
abbrev QB (F : Int → Int) : Prop := (0 ≤ F 0 ∧ F 0 ≤ 19) ∧ (0 ≤ F 1 ∧ F 1 ≤ 19) ∧ (0 ≤ F 2 ∧ F 2 ≤ 20) ∧ (0 ≤ F 3 ∧ F 3 ≤ 20) ∧ (-99 ≤ F 4 ∧ F 4 ≤ 99) ∧ (-99 ≤ F 5 ∧ F 5 ≤ 99) ∧ (-99 ≤ F 6 ∧ F 6 ≤ 99) ∧ (-99 ≤ F 7 ∧ F 7 ≤ 99) ∧ -99 ≤ F 8 ∧ F 8 ≤ 99
abbrev ITs (t : SS) : Prop := (1 ≤ t.1 0 ∧ t.1 0 ≤ 30) ∧ (0 ≤ t.1 2 ∧ t.1 2 ≤ 6) ∧ (0 ≤ t.1 3 ∧ t.1 3 ≤ 5) ∧ (0 ≤ t.1 4 ∧ t.1 4 ≤ 60) ∧ 0 ≤ t.1 5 ∧ t.1 5 ≤ 10
def IT (t : SS) : Prop := ITs t ∧ (∀ i : Int, 0 ≤ i → i < t.1 2 → VB (t.2 0 i)) ∧ (∀ i : Int, 0 ≤ i → i < t.1 3 → DB (t.2 1 i)) ∧ (∀ i : Int, 0 ≤ i → i < t.1 4 → PB (t.1 3) (t.2 2 i)) ∧ ∀ i : Int, 0 ≤ i → i < t.1 5 → QB (t.2 3 i)
theorem IT.s {t : SS} (h : IT t) : ITs t := h.1
theorem IT.v {t : SS} (h : IT t) {i : Int} (hi : 0 ≤ i ∧ i < t.1 2) : VB (t.2 0 i) := h.2.1 i hi.1 hi.2
theorem IT.d {t : SS} (h : IT t) {i : Int} (hi : 0 ≤ i ∧ i < t.1 3) : DB (t.2 1 i) := h.2.2.1 i hi.1 hi.2
theorem IT.p {t : SS} (h : IT t) {i : Int} (hi : 0 ≤ i ∧ i < t.1 4) : PB (t.1 3) (t.2 2 i) := h.2.2.2.1 i hi.1 hi.2
theorem IT.q {t : SS} (h : IT t) {i : Int} (hi : 0 ≤ i ∧ i < t.1 5) : QB (t.2 3 i) := h.2.2.2.2 i hi.1 hi.2
theorem QB.b {F : Int → Int} (h : QB F) {d : Int} (hd : 4 ≤ d ∧ d ≤ 8) : -99 ≤ F d ∧ F d ≤ 99 := by
  rcases (show d = 4 ∨ d = 5 ∨ d = 6 ∨ d = 7 ∨ d = 8 by omega) with e | e | e | e | e <;> subst e
  · exact h.2.2.2.2.1
  · exact h.2.2.2.2.2.1
  · exact h.2.2.2.2.2.2.1
  · exact h.2.2.2.2.2.2.2.1
  · exact h.2.2.2.2.2.2.2.2
-- how far
def farS (x y tx ty : Int) : Int := ab (x - tx) + ab (y - ty)
def vf (F : Int → Int) (x y : Int) : Nat → Int
  | 0 => 99
  | n + 1 => min (vf F x y n) (farS (F 0 + (n : Int) * F 2) (F 1 + (n : Int) * F 3) x y)
def vfar (F : Int → Int) (x y : Int) : Int := vf F x y (F 4 + 1).toNat
theorem ab_nn (x : Int) : 0 ≤ ab x := by
  unfold ab
  split <;> omega
theorem vf_b (F : Int → Int) (x y : Int) : ∀ n : Nat, 0 ≤ vf F x y n ∧ vf F x y n ≤ 99
  | 0 => by simp [vf]
  | n + 1 => by
    have h1 := vf_b F x y n
    have h2 := ab_nn (F 0 + (n : Int) * F 2 - x)
    have h3 := ab_nn (F 1 + (n : Int) * F 3 - y)
    rw [vf, farS]
    omega
theorem vfar_b (F : Int → Int) (x y : Int) : 0 ≤ vfar F x y ∧ vfar F x y ≤ 99 := vf_b F x y _
-- veins
def sWt (t : SS) (x y : Int) (i : Int) : Int := if vfar (t.2 0 i) x y = 0 then t.2 0 i 6 else 0
def sWat (t : SS) (x y : Int) : Int := sm (sWt t x y) (t.1 2).toNat
def sDp (t : SS) (x y : Int) : Nat → Int
  | 0 => 99
  | n + 1 => if vfar (t.2 0 (n : Int)) x y = 0 then min (sDp t x y n) (t.2 0 (n : Int) 5) else sDp t x y n
def sDep (t : SS) (x y : Int) : Int := if sDp t x y (t.1 2).toNat = 99 then 0 else sDp t x y (t.1 2).toNat
def sRt (t : SS) (d x y : Int) (i : Int) : Int := if vfar (t.2 0 i) x y < 2 then t.2 0 i 6 * t.2 1 d 0 / t.2 0 i 5 / (vfar (t.2 0 i) x y + 1) else 0
def sRs (t : SS) (d x y : Int) : Int := sm (sRt t d x y) (t.1 2).toNat + t.2 1 d 1
def sRod (t : SS) (d x y : Int) : Int := if sRs t d x y < 0 then 0 else sRs t d x y
theorem sWt_b {t : SS} (h : IT t) (x y : Int) {i : Int} (hi : 0 ≤ i ∧ i < t.1 2) : 0 ≤ sWt t x y i ∧ sWt t x y i ≤ 9 := by
  have := h.v hi
  unfold sWt
  split <;> omega
theorem sWat_b {t : SS} (h : IT t) (x y : Int) : ∀ n : Nat, (n : Int) ≤ t.1 2 → 0 ≤ sm (sWt t x y) n ∧ sm (sWt t x y) n ≤ 54 := fun n hn => by
  have hs := h.s
  have h1 := sm_b (f := sWt t x y) (lo := 0) (hi := 9) n (fun j h0 h1 => sWt_b h x y ⟨h0, by omega⟩)
  omega
theorem sDp_b {t : SS} (h : IT t) (x y : Int) : ∀ n : Nat, (n : Int) ≤ t.1 2 → 1 ≤ sDp t x y n ∧ sDp t x y n ≤ 99
  | 0, _ => by simp [sDp]
  | n + 1, hn => by
    have h1 := sDp_b h x y n (by omega)
    have h2 := h.v (i := (n : Int)) (by omega)
    rw [sDp]
    split <;> omega
theorem sw_b {t : SS} (h : IT t) {d i : Int} (hd : 0 ≤ d ∧ d < t.1 3) (hi : 0 ≤ i ∧ i < t.1 2) : (0 ≤ t.2 0 i 6 * t.2 1 d 0 ∧ t.2 0 i 6 * t.2 1 d 0 ≤ 81) ∧ 0 ≤ t.2 0 i 6 * t.2 1 d 0 / t.2 0 i 5 ∧ t.2 0 i 6 * t.2 1 d 0 / t.2 0 i 5 ≤ 81 := by
  have h1 := h.v hi
  have h2 := h.d hd
  have h3 := prod_b (x := t.2 0 i 6) (y := t.2 1 d 0) (m := 9) (n := 9) (by omega) (by omega)
  exact ⟨by omega, div_b (n := 81) (by omega) (by omega)⟩
theorem sRt_b {t : SS} (h : IT t) {d : Int} (hd : 0 ≤ d ∧ d < t.1 3) (x y : Int) {i : Int} (hi : 0 ≤ i ∧ i < t.1 2) : 0 ≤ sRt t d x y i ∧ sRt t d x y i ≤ 81 := by
  have h1 := sw_b h hd hi
  have h2 := vfar_b (t.2 0 i) x y
  unfold sRt
  split
  · exact div_b (n := 81) h1.2 (by omega)
  · omega
theorem sRm_b {t : SS} (h : IT t) {d : Int} (hd : 0 ≤ d ∧ d < t.1 3) (x y : Int) (n : Nat) (hn : (n : Int) ≤ t.1 2) : 0 ≤ sm (sRt t d x y) n ∧ sm (sRt t d x y) n ≤ 486 := by
  have hs := h.s
  have h1 := sm_b (f := sRt t d x y) (lo := 0) (hi := 81) n (fun j h0 h1 => sRt_b h hd x y ⟨h0, by omega⟩)
  omega
theorem sRs_b {t : SS} (h : IT t) {d : Int} (hd : 0 ≤ d ∧ d < t.1 3) (x y : Int) : -3 ≤ sRs t d x y ∧ sRs t d x y ≤ 489 := by
  have hs := h.s
  have h1 := sRm_b h hd x y (t.1 2).toNat (by omega)
  have h2 := h.d hd
  unfold sRs
  omega
-- pegs, pits
abbrev atP (t : SS) (k : Nat) (x y : Int) : Int → Prop := fun i => t.2 k i 0 = x ∧ t.2 k i 1 = y
def sPA (t : SS) (x y : Int) : Int := ff (atP t 2 x y) (t.1 4).toNat
def sQA (t : SS) (x y : Int) : Int := ff (atP t 3 x y) (t.1 5).toNat
theorem sPA_b {t : SS} (h : IT t) (x y : Int) : -1 ≤ sPA t x y ∧ sPA t x y < t.1 4 := by
  have hs := h.s
  have h1 := ff_b (atP t 2 x y) (t.1 4).toNat
  unfold sPA
  omega
theorem sQA_b {t : SS} (h : IT t) (x y : Int) : -1 ≤ sQA t x y ∧ sQA t x y < t.1 5 := by
  have hs := h.s
  have h1 := ff_b (atP t 3 x y) (t.1 5).toNat
  unfold sQA
  omega
abbrev sOv (t : SS) (k : Int) : Prop := t.2 3 k 3 = 20 ∨ (0 < t.2 3 k 2 ∧ t.2 3 k 3 = t.2 3 k 2)
def sBe (F : Int → Int) (f d : Int) : Int := if b01 (0 < F (4 + d)) = f then ab (F (4 + d)) else 0
def sBt (F : Int → Int) (f : Int) : Int := sm (sBe F f) 5
theorem sBe_b {F : Int → Int} (h : QB F) (f : Int) {d : Int} (hd : 0 ≤ d ∧ d < 5) : 0 ≤ sBe F f d ∧ sBe F f d ≤ 99 := by
  have h1 := h.b (d := 4 + d) (by omega)
  have h2 := ab_le (x := F (4 + d)) (n := 99) h1
  unfold sBe
  split <;> omega
theorem sBt_b {F : Int → Int} (h : QB F) (f : Int) : 0 ≤ sBt F f ∧ sBt F f ≤ 495 := by
  have h1 := sm_b (f := sBe F f) (lo := 0) (hi := 99) 5 (fun j h0 h1 => sBe_b h f ⟨h0, by omega⟩)
  unfold sBt
  omega
theorem sm_ge {f : Int → Int} : ∀ n : Nat, (∀ j : Int, 0 ≤ j → j < n → 0 ≤ f j) → ∀ k : Int, 0 ≤ k → k < n → f k ≤ sm f n
  | 0, _, k, h1, h2 => by omega
  | n + 1, h, k, h1, h2 => by
    have hn := sm_b (f := f) (lo := 0) (hi := f n) 0 (fun j a b => by omega)
    have h0 : 0 ≤ sm f n := by
      have : ∀ m : Nat, m ≤ n → 0 ≤ sm f m := by
        intro m
        induction m with
        | zero => intro _; simp [sm]
        | succ m ih =>
          intro hm
          have a1 := ih (by omega)
          have a2 := h (m : Int) (by omega) (by omega)
          rw [sm]; omega
      exact this n (Nat.le_refl _)
    rw [sm]
    by_cases e : k = (n : Int)
    · subst e; omega
    · have a1 := sm_ge (f := f) n (fun j a b => h j a (by omega)) k h1 (by omega)
      have a2 := h (n : Int) (by omega) (by omega)
      omega
theorem sBt_ge {F : Int → Int} (h : QB F) (f : Int) {d : Int} (hd : 0 ≤ d ∧ d < 5) : sBe F f d ≤ sBt F f := sm_ge 5 (fun j h0 h1 => (sBe_b h f ⟨h0, by omega⟩).1) d hd.1 (by omega)
def sGt (F : Int → Int) (d f : Int) : Int := if F (4 + d) = 0 ∨ ¬ b01 (0 < F (4 + d)) = f then 0 else ab (F (4 + d)) * (sBt F 1 + sBt F 0) / sBt F f
theorem sGm_b {F : Int → Int} (h : QB F) {d : Int} (hd : 0 ≤ d ∧ d < 5) : 0 ≤ ab (F (4 + d)) * (sBt F 1 + sBt F 0) ∧ ab (F (4 + d)) * (sBt F 1 + sBt F 0) ≤ 98010 := by
  have h1 := sBt_b h 1
  have h0 := sBt_b h 0
  have h2 := ab_le (x := F (4 + d)) (n := 99) (h.b (d := 4 + d) (by omega))
  have h3 := prod_b (x := ab (F (4 + d))) (y := sBt F 1 + sBt F 0) (m := 99) (n := 990) h2 (by omega)
  omega
theorem sGt_b {F : Int → Int} (h : QB F) {d : Int} (hd : 0 ≤ d ∧ d < 5) (f : Int) : 0 ≤ sGt F d f ∧ sGt F d f ≤ 98010 := by
  have h1 := sBt_b h f
  have h2 := sGm_b h hd
  unfold sGt
  split
  · omega
  · exact div_b (n := 98010) h2 h1.1
-- digging
/-- so deep is pit q after n strokes -/
def sDg (t : SS) (q : Int) : Nat → Int
  | 0 => t.2 3 q 3
  | n + 1 => if sDg t q n = 20 ∨ (0 < t.2 3 q 2 ∧ sDg t q n = t.2 3 q 2) then sDg t q n else sDg t q n + 1
abbrev sDk (t : SS) (q : Int) (n : Nat) : SS := tR t 3 (up2 (t.2 3) q 3 (sDg t q n))
theorem up2_r {F : Int → Int → Int} {i f v : Int} : up2 F i f v i = upZ (F i) f v := if_pos rfl
theorem up2_ne {F : Int → Int → Int} {i f v j : Int} (h : j ≠ i) : up2 F i f v j = F j := if_neg h
theorem sDg_end {t : SS} {q : Int} {n : Nat} (h : sDg t q n = 20 ∨ (0 < t.2 3 q 2 ∧ sDg t q n = t.2 3 q 2)) : ∀ m : Nat, n ≤ m → sDg t q m = sDg t q n
  | 0, hm => by rw [show n = 0 by omega]
  | m + 1, hm => by
    by_cases e : n = m + 1
    · rw [e]
    · have h1 := sDg_end h m (by omega)
      rw [sDg, if_pos (by rw [h1]; exact h), h1]
/-- one dowser is paid: what he gets, what the field loses, right or wrong -/
def sPy (t : SS) (q f d : Int) (g : Int) : SS := if t.2 3 q (4 + d) = 0 then tS (tR t 1 (up2 (t.2 1) d 2 (t.2 1 d 2 + g))) 1 (t.1 1 - g) else
  tR (tS (tR t 1 (up2 (t.2 1) d 2 (t.2 1 d 2 + g))) 1 (t.1 1 - g)) 1 (up2 (up2 (t.2 1) d 2 (t.2 1 d 2 + g)) d (if b01 (0 < t.2 3 q (4 + d)) = f then 3 else 4) ((up2 (t.2 1) d 2 (t.2 1 d 2 + g)) d (if b01 (0 < t.2 3 q (4 + d)) = f then 3 else 4) + 1))
def sPay (t : SS) (q f : Int) : Nat → SS
  | 0 => tS t 1 (t.1 1 + (sBt (t.2 3 q) 1 + sBt (t.2 3 q) 0))
  | n + 1 => sPy (sPay t q f n) q f (n : Int) (sGt ((sPay t q f n).2 3 q) (n : Int) f)
theorem up2_up2 {F : Int → Int → Int} {i f v w : Int} : up2 (up2 F i f v) i f w = up2 F i f w := by
  funext i' j
  unfold up2
  by_cases h : i' = i
  · subst h
    rw [if_pos rfl, if_pos rfl, if_pos rfl]
    unfold upZ
    by_cases q : j = f
    · rw [if_pos q, if_pos q]
    · rw [if_neg q, if_neg q, if_neg q]
  · rw [if_neg h, if_neg h, if_neg h]
theorem up2_at {F : Int → Int → Int} {i f v : Int} : up2 F i f v i f = v := by rw [up2_r]; exact upZ_same
theorem up2_at' {F : Int → Int → Int} {i f v j : Int} (h : j ≠ f) : up2 F i f v i j = F i j := by rw [up2_r]; exact upZ_ne h
theorem sDk_3 (t : SS) (q : Int) (n : Nat) : (sDk t q n).2 3 q 3 = sDg t q n := up2_at
theorem sDk_f (t : SS) (q : Int) (n : Nat) {j : Int} (h : j ≠ 3) : (sDk t q n).2 3 q j = t.2 3 q j := up2_at' h
theorem sDk_ov {t : SS} {q : Int} {n : Nat} : sOv (sDk t q n) q ↔ sDg t q n = 20 ∨ (0 < t.2 3 q 2 ∧ sDg t q n = t.2 3 q 2) := by
  unfold sOv
  rw [sDk_3, sDk_f t q n (by decide)]
theorem sDk_end {t : SS} {q : Int} {n m : Nat} (h : sOv (sDk t q n) q) (hm : n ≤ m) : sDk t q n = sDk t q m := by
  unfold sDk
  rw [sDg_end (sDk_ov.mp h) m hm]
theorem sDk_0 (t : SS) (q : Int) : sDk t q 0 = t := by
  have e : up2 (t.2 3) q 3 (t.2 3 q 3) = t.2 3 := by
    funext i
    by_cases h : i = q
    · subst h
      rw [up2_r]
      funext j
      unfold upZ
      by_cases q : j = 3
      · rw [if_pos q, q]
      · rw [if_neg q]
    · rw [up2_ne h]
  show tR t 3 (up2 (t.2 3) q 3 (t.2 3 q 3)) = t
  rw [e]
  refine Prod.ext rfl (funext fun j => ?_)
  show (bif Nat.beq j 3 then t.2 3 else t.2 j) = t.2 j
  by_cases h : j = 3
  · subst h; rfl
  · cases w : Nat.beq j 3 with
    | false => rfl
    | true => exact absurd (Nat.eq_of_beq_eq_true w) h
theorem sDk_step {t : SS} {q : Int} {n : Nat} (h : ¬ sOv (sDk t q n) q) : tR (sDk t q n) 3 (up2 ((sDk t q n).2 3) q 3 ((sDk t q n).2 3 q 3 + 1)) = sDk t q (n + 1) := by
  rw [sDk_3]
  have e : sDg t q (n + 1) = sDg t q n + 1 := by rw [sDg, if_neg (fun z => h (sDk_ov.mpr z))]
  have e2 : up2 ((sDk t q n).2 3) q 3 (sDg t q n + 1) = up2 (t.2 3) q 3 (sDg t q (n + 1)) := by
    rw [e]; exact up2_up2
  rw [e2]
  unfold tR
  refine Prod.ext rfl (funext fun j => ?_)
  show (bif Nat.beq j 3 then _ else (bif Nat.beq j 3 then _ else t.2 j)) = bif Nat.beq j 3 then _ else t.2 j
  cases Nat.beq j 3 <;> rfl
theorem sDg_b {t : SS} {q : Int} (h : QB (t.2 3 q)) : ∀ n : Nat, 0 ≤ sDg t q n ∧ sDg t q n ≤ 20
  | 0 => h.2.2.2.1
  | n + 1 => by
    have h1 := sDg_b h n
    rw [sDg]
    split <;> omega
theorem sDk_IT {t : SS} (h : IT t) {q : Int} (hq : 0 ≤ q ∧ q < t.1 5) (n : Nat) : IT (sDk t q n) := by
  refine ⟨h.1, h.2.1, h.2.2.1, h.2.2.2.1, fun i h0 h1 => ?_⟩
  have h1 : i < t.1 5 := h1
  have hi := h.q (i := i) ⟨h0, h1⟩
  by_cases e : i = q
  · subst e
    have hd := sDg_b hi n
    have f : ∀ j : Int, j ≠ 3 → (sDk t i n).2 3 i j = t.2 3 i j := fun j hj => sDk_f t i n hj
    unfold QB
    rw [f 0 (by decide), f 1 (by decide), f 2 (by decide), f 4 (by decide), f 5 (by decide), f 6 (by decide), f 7 (by decide), f 8 (by decide), sDk_3]
    exact ⟨hi.1, hi.2.1, hi.2.2.1, hd, hi.2.2.2.2⟩
  · have : (sDk t q n).2 3 i = t.2 3 i := up2_ne e
    rw [this]; exact hi
theorem sPy_3 (t : SS) (q f d g : Int) : (sPy t q f d g).2 3 = t.2 3 ∧ (sPy t q f d g).2 2 = t.2 2 ∧ (sPy t q f d g).2 0 = t.2 0 ∧ (∀ k : Nat, k ≠ 1 → (sPy t q f d g).1 k = t.1 k) := by
  have hb : ∀ k : Nat, k ≠ 1 → Nat.beq k 1 = false := fun k hk => by
    cases z : Nat.beq k 1 with
    | false => rfl
    | true => exact absurd (Nat.eq_of_beq_eq_true z) hk
  unfold sPy
  split
  · refine ⟨rfl, rfl, rfl, fun k hk => ?_⟩
    show (bif Nat.beq k 1 then _ else t.1 k) = _
    rw [hb k hk]; rfl
  · refine ⟨rfl, rfl, rfl, fun k hk => ?_⟩
    show (bif Nat.beq k 1 then _ else t.1 k) = _
    rw [hb k hk]; rfl
theorem sPay_3 (t : SS) (q f : Int) : ∀ n : Nat, (sPay t q f n).2 3 = t.2 3 ∧ (sPay t q f n).2 2 = t.2 2 ∧ (sPay t q f n).2 0 = t.2 0 ∧ (∀ k : Nat, k ≠ 1 → (sPay t q f n).1 k = t.1 k)
  | 0 => by
    refine ⟨rfl, rfl, rfl, fun k hk => ?_⟩
    show (bif Nat.beq k 1 then _ else t.1 k) = _
    cases z : Nat.beq k 1 with
    | false => rfl
    | true => exact absurd (Nat.eq_of_beq_eq_true z) hk
  | n + 1 => by
    have h1 := sPay_3 t q f n
    have h2 := sPy_3 (sPay t q f n) q f (n : Int) (sGt ((sPay t q f n).2 3 q) (n : Int) f)
    exact ⟨h2.1.trans h1.1, h2.2.1.trans h1.2.1, h2.2.2.1.trans h1.2.2.1, fun k hk => (h2.2.2.2 k hk).trans (h1.2.2.2 k hk)⟩
theorem sPy_d (t : SS) (q f d g : Int) {i j : Int} (hj : j = 0 ∨ j = 1) : (sPy t q f d g).2 1 i j = t.2 1 i j := by
  have up : ∀ (F : Int → Int → Int) (k v : Int), k ≠ 0 → k ≠ 1 → up2 F d k v i j = F i j := fun F k v h0 h1 => by
    by_cases e : i = d
    · subst e
      exact up2_at' (by omega)
    · rw [up2_ne e]
  unfold sPy
  split
  · exact up _ _ _ (by decide) (by decide)
  · show up2 (up2 (t.2 1) d 2 _) d (if _ then 3 else 4) _ i j = _
    split
    · rw [up _ 3 _ (by decide) (by decide), up _ 2 _ (by decide) (by decide)]
    · rw [up _ 4 _ (by decide) (by decide), up _ 2 _ (by decide) (by decide)]
theorem sPay_d (t : SS) (q f : Int) {i j : Int} (hj : j = 0 ∨ j = 1) : ∀ n : Nat, (sPay t q f n).2 1 i j = t.2 1 i j
  | 0 => rfl
  | n + 1 => (sPy_d _ q f _ _ hj).trans (sPay_d t q f hj n)
theorem sPay_IT {t : SS} (h : IT t) (q f : Int) (n : Nat) : IT (sPay t q f n) := by
  obtain ⟨h3, h2, h0, hk⟩ := sPay_3 t q f n
  have hd : ∀ i j : Int, (j = 0 ∨ j = 1) → (sPay t q f n).2 1 i j = t.2 1 i j := fun i j hj => sPay_d t q f hj n
  unfold IT ITs
  rw [hk 0 (by decide), hk 2 (by decide), hk 3 (by decide), hk 4 (by decide), hk 5 (by decide), h3, h2, h0]
  refine ⟨h.1, h.2.1, fun i a b => ?_, h.2.2.2.1, h.2.2.2.2⟩
  have := h.2.2.1 i a b
  unfold DB at this ⊢
  rw [hd i 0 (Or.inl rfl), hd i 1 (Or.inr rfl)]
  exact this
def sDig (t : SS) (q byy : Int) : SS := if sOv (sDk t q byy.toNat) q then sPay (sDk t q byy.toNat) q (b01 (0 < t.2 3 q 2)) (t.1 3).toNat else sDk t q byy.toNat
