/-! THE FULLEST LINE: both sides tell the same one -/
theorem bump_q (F : Int → Int) (i q : Int) : bump F i q = F q + b01 (q = i) := by
  unfold bump
  by_cases e : q = i
  · rw [e, upZ_same, b01_t rfl]
  · rw [upZ_ne e, b01_f e]; omega
theorem kn_cs {q : Int} (h : 0 ≤ q ∧ q < 118) : (q < 20 ∧ kindL q = 0 ∧ numL q = q) ∨ (20 ≤ q ∧ q < 40 ∧ kindL q = 1 ∧ numL q = q - 20) ∨ (40 ≤ q ∧ q < 79 ∧ kindL q = 2 ∧ numL q = q - 59) ∨ (79 ≤ q ∧ kindL q = 3 ∧ numL q = q - 79) := by
  unfold kindL numL
  by_cases a : q < 20
  · rw [if_pos a, if_pos a]; omega
  · rw [if_neg a, if_neg a]
    by_cases b : q < 40
    · rw [if_pos b, if_pos b]; omega
    · rw [if_neg b, if_neg b]
      by_cases d : q < 79
      · rw [if_pos d, if_pos d]; omega
      · rw [if_neg d, if_neg d]; omega
theorem lnOf_cs (k : Int) : lnOf 0 k = k / 20 ∧ lnOf 1 k = k % 20 ∧ lnOf 2 k = k % 20 - k / 20 ∧ lnOf 3 k = k % 20 + k / 20 := ⟨rfl, rfl, rfl, rfl⟩
theorem onL_sm (c : CS) {q : Int} (hq : 0 ≤ q ∧ q < 118) : ∀ n : Nat, n ≤ 400 → onL c n q = sm (fun k => b01 (c.2 8 k ≠ -1 ∧ lnOf (kindL q) k = numL q)) n
  | 0, _ => rfl
  | n + 1, hn => by
    have h1 := onL_sm c hq n (by omega)
    show (if c.2 8 (n : Int) ≠ -1 then bump (bump (bump (bump (onL c n) ((n : Int) / 20)) (20 + (n : Int) % 20)) ((59 + (n : Int) % 20) - (n : Int) / 20)) ((79 + (n : Int) % 20) + (n : Int) / 20) else onL c n : Int → Int) q = sm (fun k => b01 (c.2 8 k ≠ -1 ∧ lnOf (kindL q) k = numL q)) n + b01 (c.2 8 (n : Int) ≠ -1 ∧ lnOf (kindL q) (n : Int) = numL q)
    rw [← h1]
    by_cases e : c.2 8 (n : Int) ≠ -1
    · rw [if_pos e, bump_q, bump_q, bump_q, bump_q]
      have z1 := b01_cs (q = (n : Int) / 20)
      have z2 := b01_cs (q = 20 + (n : Int) % 20)
      have z3 := b01_cs (q = (59 + (n : Int) % 20) - (n : Int) / 20)
      have z4 := b01_cs (q = (79 + (n : Int) % 20) + (n : Int) / 20)
      have z5 := b01_cs (c.2 8 (n : Int) ≠ -1 ∧ lnOf (kindL q) (n : Int) = numL q)
      obtain ⟨l0, l1, l2, l3⟩ := lnOf_cs (n : Int)
      rcases kn_cs hq with ⟨a, b, d⟩ | ⟨a, a2, b, d⟩ | ⟨a, a2, b, d⟩ | ⟨a, b, d⟩ <;> rw [b, d] at z5 ⊢
      · rw [l0] at z5 ⊢; omega
      · rw [l1] at z5 ⊢; omega
      · rw [l2] at z5 ⊢; omega
      · rw [l3] at z5 ⊢; omega
    · rw [if_neg e, b01_f (fun z => e z.1), Int.add_zero]
theorem fm_max (F : Int → Int) : ∀ n : Nat, (∀ q : Int, 0 ≤ q → q < n → F q ≤ F (fm F n)) ∧ ∀ q : Int, 0 ≤ q → q < fm F n → F q < F (fm F n)
  | 0 => ⟨fun q h0 h1 => absurd h1 (by omega), fun q h0 h1 => absurd h1 (by show ¬ q < 0; omega)⟩
  | n + 1 => by
    obtain ⟨i1, i2⟩ := fm_max F n
    have hb := fm_b F n
    show (∀ q : Int, 0 ≤ q → q < ((n + 1 : Nat) : Int) → F q ≤ F (if F (fm F n) < F (n : Int) then (n : Int) else fm F n)) ∧ ∀ q : Int, 0 ≤ q → q < (if F (fm F n) < F (n : Int) then (n : Int) else fm F n) → F q < F (if F (fm F n) < F (n : Int) then (n : Int) else fm F n)
    by_cases e : F (fm F n) < F (n : Int)
    · rw [if_pos e]
      refine ⟨fun q h0 h1 => ?_, fun q h0 h1 => ?_⟩
      · by_cases e2 : q = n
        · rw [e2]; exact Int.le_refl _
        · have := i1 q h0 (by omega); omega
      · have := i1 q h0 h1; omega
    · rw [if_neg e]
      refine ⟨fun q h0 h1 => ?_, i2⟩
      by_cases e2 : q = n
      · rw [e2]; omega
      · exact i1 q h0 (by omega)
/-- the lines that the reference has been at -/
abbrev vis (K n kd k : Int) : Prop := (0 ≤ kd ∧ -19 ≤ k ∧ k ≤ 39) ∧ (kd < K ∨ kd = K ∧ k < n - 19)
def LI (m : CS) (K n : Int) (s : Int × Int × Int) : Prop := (∀ kd k : Int, vis K n kd k → mOn m kd k ≤ s.1) ∧ ((s.1 = 0 ∧ s.2.1 = -1 ∧ s.2.2 = -1) ∨ (0 < s.1 ∧ vis K n s.2.1 s.2.2 ∧ mOn m s.2.1 s.2.2 = s.1 ∧ ∀ kd k : Int, vis K n kd k → (kd < s.2.1 ∨ kd = s.2.1 ∧ k < s.2.2) → mOn m kd k < s.1))
theorem LI_step {m : CS} {K n : Int} {s : Int × Int × Int} (hK : 0 ≤ K) (hn : 0 ≤ n ∧ n < 59) (h : LI m K n s) : LI m K (n + 1) (if mOn m K (n - 19) ≤ s.1 then s else (mOn m K (n - 19), K, n - 19)) := by
  obtain ⟨h1, h2⟩ := h
  have hs0 : 0 ≤ s.1 := by rcases h2 with h2 | h2 <;> omega
  by_cases e : mOn m K (n - 19) ≤ s.1
  · rw [if_pos e]
    refine ⟨fun kd k hv => ?_, ?_⟩
    · by_cases e2 : kd = K ∧ k = n - 19
      · rw [e2.1, e2.2]; exact e
      · exact h1 kd k (by omega)
    · rcases h2 with h2 | ⟨a, b, d, f⟩
      · exact Or.inl h2
      · refine Or.inr ⟨a, by omega, d, fun kd k hv hl => f kd k (by omega) hl⟩
  · rw [if_neg e]
    refine ⟨fun kd k hv => ?_, Or.inr ⟨by show 0 < mOn m K (n - 19); omega, by show vis K (n + 1) K (n - 19); omega, rfl, fun kd k hv hl => ?_⟩⟩
    · show mOn m kd k ≤ mOn m K (n - 19)
      by_cases e2 : kd = K ∧ k = n - 19
      · rw [e2.1, e2.2]; exact Int.le_refl _
      · have := h1 kd k (by omega); omega
    · have hl2 : kd < K ∨ kd = K ∧ k < n - 19 := hl
      show mOn m kd k < mOn m K (n - 19)
      have := h1 kd k (by omega)
      omega
theorem LI_in {m : CS} {K : Nat} {s : Int × Int × Int} (h : LI m (K : Int) 0 s) : ∀ n : Nat, n ≤ 59 → LI m (K : Int) (n : Int) (mLi m (K : Int) s n)
  | 0, _ => h
  | n + 1, hn => LI_step (by omega) (by omega) (LI_in h n (by omega))
theorem LI_roll {m : CS} {K : Int} {s : Int × Int × Int} (h : LI m K 59 s) : LI m (K + 1) 0 s := by
  obtain ⟨h1, h2⟩ := h
  refine ⟨fun kd k hv => h1 kd k (by omega), ?_⟩
  rcases h2 with h2 | ⟨a, b, d, f⟩
  · exact Or.inl h2
  · exact Or.inr ⟨a, by omega, d, fun kd k hv hl => f kd k (by omega) hl⟩
theorem LI_all (m : CS) : ∀ K : Nat, LI m (K : Int) 0 (mLo m K)
  | 0 => ⟨fun kd k hv => absurd hv (by omega), Or.inl ⟨rfl, rfl, rfl⟩⟩
  | K + 1 => LI_roll (LI_in (LI_all m K) 59 (by omega))
theorem sm_pos {f : Int → Int} (hf : ∀ j : Int, 0 ≤ f j) : ∀ n : Nat, 0 < sm f n → ∃ k : Nat, k < n ∧ 0 < f (k : Int)
  | 0, h => absurd h (by show ¬ (0 : Int) < 0; omega)
  | n + 1, h => by
    have h1 : 0 < sm f n + f (n : Int) := h
    by_cases e : 0 < f (n : Int)
    · exact ⟨n, by omega, e⟩
    · obtain ⟨k, hk, hk2⟩ := sm_pos hf n (by omega)
      exact ⟨k, by omega, hk2⟩
theorem sm_nn {f : Int → Int} (hf : ∀ j : Int, 0 ≤ f j) : ∀ n : Nat, 0 ≤ sm f n
  | 0 => Int.le_refl _
  | n + 1 => by
    have h1 := sm_nn hf n
    have h2 := hf (n : Int)
    show 0 ≤ sm f n + f (n : Int)
    omega
theorem sm_ge {f : Int → Int} (hf : ∀ j : Int, 0 ≤ f j) : ∀ (n k : Nat), k < n → f (k : Int) ≤ sm f n
  | 0, k, h => absurd h (by omega)
  | n + 1, k, h => by
    have h0 := sm_nn hf n
    have h2 := hf (n : Int)
    show f (k : Int) ≤ sm f n + f (n : Int)
    by_cases e : k = n
    · subst e; omega
    · have := sm_ge hf n k (by omega)
      omega
section RCL
variable {B : Int} {c m : CS}
theorem RR.e_onL (h : RR c m) (hM : IM B m) {q : Int} (hq : 0 ≤ q ∧ q < 118) : onL c 400 q = mOn m (kindL q) (numL q) := by
  rw [onL_sm c hq 400 (Nat.le_refl _)]
  refine sm_congr 400 (fun k k0 k1 => ?_)
  have h1 := h.own k
  have h2 := hM.r8 k
  show b01 (c.2 8 k ≠ -1 ∧ lnOf (kindL q) k = numL q) = b01 (0 < m.2 8 k ∧ lnOf (kindL q) k = numL q)
  exact b01_congr ⟨fun z => ⟨by omega, z.2⟩, fun z => ⟨by omega, z.2⟩⟩
theorem mOn_at {m : CS} {kd k : Int} (hk : 0 ≤ kd ∧ kd < 4) (h : 0 < mOn m kd k) : ∃ q : Int, (0 ≤ q ∧ q < 118) ∧ kindL q = kd ∧ numL q = k := by
  obtain ⟨j, hj, hp⟩ := sm_pos (f := fun k2 => b01 (0 < m.2 8 k2 ∧ lnOf kd k2 = k)) (fun j => (b01_01 _).1) 400 h
  have z : 0 < b01 (0 < m.2 8 (j : Int) ∧ lnOf kd (j : Int) = k) := hp
  have z2 := b01_cs (0 < m.2 8 (j : Int) ∧ lnOf kd (j : Int) = k)
  have z3 : lnOf kd (j : Int) = k := by omega
  obtain ⟨l0, l1, l2, l3⟩ := lnOf_cs (j : Int)
  have hk4 : kd = 0 ∨ kd = 1 ∨ kd = 2 ∨ kd = 3 := by omega
  rcases hk4 with e | e | e | e <;> subst e
  · refine ⟨k, by omega, ?_⟩
    have := kn_cs (q := k) (by omega)
    omega
  · refine ⟨k + 20, by omega, ?_⟩
    have := kn_cs (q := k + 20) (by omega)
    omega
  · refine ⟨k + 59, by omega, ?_⟩
    have := kn_cs (q := k + 59) (by omega)
    omega
  · refine ⟨k + 79, by omega, ?_⟩
    have := kn_cs (q := k + 79) (by omega)
    omega
theorem RR.e_line (h : RR c m) (hM : IM B m) (w : Int) : lineT c w = mLnT m w := by
  obtain ⟨h1, h2⟩ := LI_all m 4
  obtain ⟨s, hs⟩ : ∃ s, s = mLo m 4 := ⟨_, rfl⟩
  rw [← hs] at h1 h2
  obtain ⟨F, hF⟩ : ∃ F, F = onL c 400 := ⟨_, rfl⟩
  obtain ⟨f1, f2⟩ := fm_max F 118
  have fb := fm_b F 118
  obtain ⟨t, ht⟩ : ∃ t, t = fm F 118 := ⟨_, rfl⟩
  have hon : ∀ q : Int, (0 ≤ q ∧ q < 118) → F q = mOn m (kindL q) (numL q) := fun q hq => by rw [hF]; exact h.e_onL hM hq
  rw [← ht] at f1 f2 fb
  have ht2 : 0 ≤ t ∧ t < 118 := by omega
  have hvis : ∀ q : Int, (0 ≤ q ∧ q < 118) → vis ((4 : Nat) : Int) 0 (kindL q) (numL q) := fun q hq => by have := kn_cs hq; omega
  unfold lineT mLnT
  rw [← hF, ← ht, ← hs]
  rcases h2 with ⟨a1, a2, a3⟩ | ⟨a1, a2, a3, a4⟩
  · have e0 : F t = 0 := by
      have g1 := h1 _ _ (hvis t ht2)
      have g2 := (mOn_b m (kindL t) (numL t)).1
      have g3 := hon t ht2
      omega
    have e1 : c.1 4 = 0 := by
      by_cases z : c.1 4 = 0
      · exact z
      · have hc := h.cnt
        have hb0 := (sm_b (f := fun j => b01 (0 < m.2 8 j)) (lo := 0) (hi := 1) 400 (fun j _ _ => b01_01 _)).1
        obtain ⟨j, hj, hp⟩ := sm_pos (f := fun k2 => b01 (0 < m.2 8 k2)) (fun j => (b01_01 _).1) 400 (by omega)
        have z2 : 0 < b01 (0 < m.2 8 (j : Int)) := hp
        have z3 := b01_cs (0 < m.2 8 (j : Int))
        have g := sm_ge (f := fun k2 => b01 (0 < m.2 8 k2 ∧ lnOf 0 k2 = (j : Int) / 20)) (fun j => (b01_01 _).1) 400 j hj
        have g2 : b01 (0 < m.2 8 (j : Int) ∧ lnOf 0 (j : Int) = (j : Int) / 20) ≤ mOn m 0 ((j : Int) / 20) := g
        rw [b01_t ⟨by omega, rfl⟩] at g2
        have g3 := h1 0 ((j : Int) / 20) (by omega)
        omega
    rw [e0, if_pos e1, a1, a2, a3]
    by_cases w0 : w = 0
    · rw [if_pos w0, if_pos w0]
    · rw [if_neg w0, if_neg w0]
      by_cases w1 : w = 1
      · rw [if_pos w1]
      · rw [if_neg w1]
  · obtain ⟨q, hq, q1, q2⟩ := mOn_at (m := m) (kd := s.2.1) (k := s.2.2) (by omega) (by omega)
    have hFq : F q = s.1 := by rw [hon q hq, q1, q2]; exact a3
    have hFt : F t = s.1 := by
      have g1 := h1 _ _ (hvis t ht2)
      have g3 := hon t ht2
      have g4 := f1 q hq.1 (by omega)
      omega
    have htq : t = q := by
      rcases Int.lt_trichotomy t q with z | z | z
      · have g1 := a4 _ _ (hvis t ht2) (by have := kn_cs ht2; have := kn_cs hq; omega)
        have g3 := hon t ht2
        omega
      · exact z
      · have := f2 q hq.1 z
        omega
    have e1 : ¬ c.1 4 = 0 := fun z => by
      have hc := h.cnt
      have g3 := hon q hq
      obtain ⟨j, hj, hp⟩ := sm_pos (f := fun k2 => b01 (0 < m.2 8 k2 ∧ lnOf s.2.1 k2 = s.2.2)) (fun j => (b01_01 _).1) 400 (by show 0 < mOn m s.2.1 s.2.2; omega)
      have z2 : 0 < b01 (0 < m.2 8 (j : Int) ∧ lnOf s.2.1 (j : Int) = s.2.2) := hp
      have z3 := b01_cs (0 < m.2 8 (j : Int) ∧ lnOf s.2.1 (j : Int) = s.2.2)
      have g := sm_ge (f := fun k2 => b01 (0 < m.2 8 k2)) (fun j => (b01_01 _).1) 400 j hj
      have g2 : b01 (0 < m.2 8 (j : Int)) ≤ sm (fun j => b01 (0 < m.2 8 j)) 400 := g
      rw [b01_t (by omega)] at g2
      omega
    rw [if_neg e1, htq, hFq, q1, q2]
end RCL
