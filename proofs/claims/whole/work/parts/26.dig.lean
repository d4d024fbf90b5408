/-! DIGGING A PIT: the relation is kept, also where bets are paid -/
theorem left_dp (c : CS) (q by9 q2 f : Int) : ∀ n : Nat, left (dpC c q by9) q2 f n = left c q2 f n
  | 0 => rfl
  | n + 1 => by
    rw [left, left, left_dp c q by9 q2 f n, payD_shr, payD_shr]
    rfl
theorem mLft_dp (m : CS) (q by9 q2 f : Int) : ∀ n : Nat, mLft (mDp m q by9) q2 f n = mLft m q2 f n
  | 0 => rfl
  | n + 1 => by
    rw [mLft, mLft, mLft_dp m q by9 q2 f n, mPyD_sh, mPyD_sh]
    rfl
/-- what an equal row of veins tells of the depth of the water -/
theorem mDep_3 {m m' : CS} (h0 : m'.2 0 = m.2 0) (h2 : m'.2 2 = m.2 2) (h3 : m'.1 3 = m.1 3) (sp : Int) : mDep m sp (m.1 3).toNat = mDep m' sp (m'.1 3).toNat := by rw [h3]; exact mDep_c h0.symm h2.symm sp _
theorem mWat_3 {m m' : CS} (h1 : m'.2 1 = m.2 1) (h2 : m'.2 2 = m.2 2) (h3 : m'.1 3 = m.1 3) (sp : Int) : mWat m sp (m.1 3).toNat = mWat m' sp (m'.1 3).toNat := by unfold mWat; rw [h1, h2, h3]
section RC9
variable {B : Int} {c m : CS}
theorem RR.e_dpn (h : RR c m) (q by9 : Int) : dpn c q by9 = mDpn m q by9 := by
  unfold dpn mDpn
  rw [h.wdp, h.dug]
  exact Int.min_comm _ _
/-- the counts of bets, as one pit q changes from not over to over or not -/
theorem pb_dig {q : Int} {x : CS} (hn : x.1 5 = c.1 5) (hno : ¬ over c q) (h12 : x.2 12 = c.2 12) (h13 : ∀ k : Int, k ≠ q → x.2 13 k = c.2 13 k) (h14 : x.2 14 = c.2 14) (h15 : x.2 15 = c.2 15) (d rt : Int) : pbets x d rt = pbets c d rt + b01 ((0 ≤ q ∧ q < (((c.1 5).toNat : Nat) : Int)) ∧ (over x q ∧ 0 < c.2 14 (q * 5 + d)) ∧ b01 (c.2 15 (q * 5 + d) = b01 (fnd x q)) = rt) := by
  unfold pbets
  rw [hn, ← sm_pick, ← sm_add]
  refine sm_congr _ (fun k k0 k1 => ?_)
  show b01 ((over x k ∧ 0 < x.2 14 (k * 5 + d)) ∧ b01 (x.2 15 (k * 5 + d) = b01 (fnd x k)) = rt) = b01 ((over c k ∧ 0 < c.2 14 (k * 5 + d)) ∧ b01 (c.2 15 (k * 5 + d) = b01 (fnd c k)) = rt) + b01 (k = q ∧ (over x q ∧ 0 < c.2 14 (q * 5 + d)) ∧ b01 (c.2 15 (q * 5 + d) = b01 (fnd x q)) = rt)
  rw [h14, h15]
  by_cases e : k = q
  · subst e
    rw [b01_f (P := (over c k ∧ 0 < c.2 14 (k * 5 + d)) ∧ b01 (c.2 15 (k * 5 + d) = b01 (fnd c k)) = rt) (fun z => hno z.1.1), Int.zero_add]
    exact b01_congr ⟨fun z => ⟨rfl, z⟩, fun z => z.2⟩
  · have ef : fnd x k ↔ fnd c k := by show (0 < x.2 12 k ∧ x.2 12 k ≤ x.2 13 k) ↔ (0 < c.2 12 k ∧ c.2 12 k ≤ c.2 13 k); rw [h12, h13 k e]
    have eo : over x k ↔ over c k := by show (fnd x k ∨ 20 ≤ x.2 13 k) ↔ (fnd c k ∨ 20 ≤ c.2 13 k); rw [ef, h13 k e]
    rw [b01_f (P := k = q ∧ (over x q ∧ 0 < c.2 14 (q * 5 + d)) ∧ b01 (c.2 15 (q * 5 + d) = b01 (fnd x q)) = rt) (fun z => e z.1), Int.add_zero, b01_congr ef]
    exact b01_congr ⟨fun z => ⟨⟨eo.mp z.1.1, z.1.2⟩, z.2⟩, fun z => ⟨⟨eo.mpr z.1.1, z.1.2⟩, z.2⟩⟩
theorem dpC_13 (c : CS) (q by9 : Int) : (dpC c q by9).2 13 = upZ (c.2 13) q (dpn c q by9) := rfl
/-- a dig that ends no pit -/
theorem RR.k_dig0 (h : RR c m) {q by9 : Int} (hq : mP m q) (hno : ¬ over c q) (hn : ¬ over (dpC c q by9) q) : RR (dpC c q by9) (mDp m q by9) := by
  have e := h.e_dpn q by9
  have hpb : ∀ d rt : Int, pbets (dpC c q by9) d rt = pbets c d rt := fun d rt => by
    rw [pb_dig (c := c) (q := q) (x := dpC c q by9) rfl hno rfl (fun k hk => by rw [dpC_13, upZ_ne hk]) rfl rfl d rt, b01_f (fun z => hn z.2.1.1), Int.add_zero]
  exact RR.mk h.n0 h.n1 h.n2 h.n3 h.n4 h.n5 h.dep h.flw h.rch h.rch0 h.wat (fun j h1 h2 => (h.shl j h1 h2).trans (mDep_3 (m := m) (m' := mDp m q by9) rfl rfl rfl j)) h.fel h.len h.coi h.own h.cnt h.pat h.plc h.wdp (by show upZ (c.2 13) q (dpn c q by9) = upZ (m.2 11) q (mDpn m q by9); rw [h.dug, e]) (fun k h1 => by
      have h2 : m.1 6 ≤ k := h1
      show upZ (m.2 11) q (mDpn m q by9) k = 0
      rw [upZ_ne (by omega)]
      exact h.dug0 k h2) h.sta h.bfp h.bfn h.bet0 (fun d h1 h2 => (h.rgt d h1 h2).trans (hpb d 1).symm) (fun d h1 h2 => (h.wrg d h1 h2).trans (hpb d 0).symm)
theorem sS_ne {x : CS} {j k : Nat} {v : Int} (h : k ≠ j) : (sS x j v).1 k = x.1 k := by
  show (bif Nat.beq k j then v else x.1 k) = x.1 k
  rw [show Nat.beq k j = false by (cases hb : Nat.beq k j with | false => rfl | true => exact absurd (Nat.eq_of_beq_eq_true hb) h)]
  rfl
theorem sA_ne {x : CS} {j k : Nat} {F : Int → Int} (h : k ≠ j) : (sA x j F).2 k = x.2 k := by
  show (bif Nat.beq k j then F else x.2 k) = x.2 k
  rw [show Nat.beq k j = false by (cases hb : Nat.beq k j with | false => rfl | true => exact absurd (Nat.eq_of_beq_eq_true hb) h)]
  rfl
theorem RR.dig_gen (h : RR c m) {X Y : CS} {q v : Int} (hq : mP m q) (a : ∀ k : Nat, k ≠ 1 → X.1 k = c.1 k) (a1 : X.1 1 = Y.1 2) (b : ∀ k : Nat, k ≠ 0 → k ≠ 2 → Y.1 k = m.1 k) (ra : ∀ k : Nat, k ≠ 7 → k ≠ 13 → X.2 k = c.2 k) (a7 : X.2 7 = Y.2 5) (a13 : X.2 13 = upZ (c.2 13) q v) (b11 : Y.2 11 = upZ (m.2 11) q v) (rb : ∀ k : Nat, k ≠ 5 → k ≠ 6 → k ≠ 7 → k ≠ 11 → Y.2 k = m.2 k) (b6 : ∀ d : Int, 0 ≤ d → d < 5 → Y.2 6 d = pbets X d 1) (b7 : ∀ d : Int, 0 ≤ d → d < 5 → Y.2 7 d = pbets X d 0) : RR X Y := by
  have y1 := b 1 (by decide) (by decide)
  have y3 := b 3 (by decide) (by decide)
  have y4 := b 4 (by decide) (by decide)
  have y5 := b 5 (by decide) (by decide)
  have y6 := b 6 (by decide) (by decide)
  have z0 := rb 0 (by decide) (by decide) (by decide) (by decide)
  have z1 := rb 1 (by decide) (by decide) (by decide) (by decide)
  have z2 := rb 2 (by decide) (by decide) (by decide) (by decide)
  have z3 := rb 3 (by decide) (by decide) (by decide) (by decide)
  have z4 := rb 4 (by decide) (by decide) (by decide) (by decide)
  have z8 := rb 8 (by decide) (by decide) (by decide) (by decide)
  have z9 := rb 9 (by decide) (by decide) (by decide) (by decide)
  have z10 := rb 10 (by decide) (by decide) (by decide) (by decide)
  have z12 := rb 12 (by decide) (by decide) (by decide) (by decide)
  refine RR.mk ?_ a1 ?_ ?_ ?_ ?_ ?_ ?_ ?_ ?_ ?_ ?_ ?_ ?_ a7 ?_ ?_ ?_ ?_ ?_ ?_ ?_ ?_ ?_ ?_ ?_ b6 b7
  · rw [a 0 (by decide), y1]; exact h.n0
  · rw [a 2 (by decide), y3]; exact h.n2
  · rw [a 3 (by decide), y4]; exact h.n3
  · rw [a 4 (by decide), y5]; exact h.n4
  · rw [a 5 (by decide), y6]; exact h.n5
  · rw [ra 0 (by decide) (by decide), z0]; exact h.dep
  · rw [ra 1 (by decide) (by decide), z1]; exact h.flw
  · rw [ra 2 (by decide) (by decide), z2]; exact h.rch
  · rw [y3, z2]; exact h.rch0
  · intro j h1 h2
    rw [ra 3 (by decide) (by decide)]
    exact (h.wat j h1 h2).trans (mWat_3 z1 z2 y3 j)
  · intro j h1 h2
    rw [ra 4 (by decide) (by decide)]
    exact (h.shl j h1 h2).trans (mDep_3 z0 z2 y3 j)
  · rw [ra 5 (by decide) (by decide), z3]; exact h.fel
  · rw [ra 6 (by decide) (by decide), z4]; exact h.len
  · rw [ra 8 (by decide) (by decide), z8]; exact h.own
  · rw [a 4 (by decide), z8]; exact h.cnt
  · intro j h1 h2
    have e : mPA Y j = mPA m j := by unfold mPA; rw [z9, y6]
    rw [ra 10 (by decide) (by decide), e]
    exact h.pat j h1 h2
  · rw [ra 11 (by decide) (by decide), z9]; exact h.plc
  · rw [ra 12 (by decide) (by decide), z10]; exact h.wdp
  · rw [a13, b11, h.dug]
  · intro k h1
    rw [y6] at h1
    rw [b11, upZ_ne (by omega)]
    exact h.dug0 k h1
  · rw [ra 14 (by decide) (by decide), z12]; exact h.sta
  · rw [ra 15 (by decide) (by decide), z12]; exact h.bfp
  · rw [ra 15 (by decide) (by decide), z12]; exact h.bfn
  · rw [y6, y4, z12]; exact h.bet0
theorem RR.k_dig (h : RR c m) (hM : IM B m) {q by9 : Int} (hq : mP m q) (hb : 1 ≤ by9 ∧ by9 ≤ 20) (hno : ¬ mO m q) : RR (digC1 c q by9) (mDig m q by9) := by
  have hm := hM.s
  have hno' : ¬ over c q := fun z => hno ((h.e_over hM q).mp z)
  have e := h.e_dpn q by9
  have eb := mDpn_b hM q hb
  have hf : fnd (dpC c q by9) q ↔ mF (mDp m q by9) q := by
    show (0 < c.2 12 q ∧ c.2 12 q ≤ upZ (c.2 13) q (dpn c q by9) q) ↔ (0 < m.2 10 q ∧ m.2 10 q ≤ upZ (m.2 11) q (mDpn m q by9) q)
    rw [upZ_same, upZ_same, h.wdp, e]
  have ho : over (dpC c q by9) q ↔ mO (mDp m q by9) q := by
    show (fnd (dpC c q by9) q ∨ 20 ≤ upZ (c.2 13) q (dpn c q by9) q) ↔ (mF (mDp m q by9) q ∨ upZ (m.2 11) q (mDpn m q by9) q = 20)
    rw [upZ_same, upZ_same, e, hf]
    omega
  unfold digC1 mDig
  by_cases w : over (dpC c q by9) q
  · rw [if_pos w, if_pos (ho.mp w)]
    obtain ⟨f, hfe⟩ : ∃ f : Int, f = b01 (mF (mDp m q by9) q) := ⟨_, rfl⟩
    have hfc : b01 (fnd (dpC c q by9) q) = f := by rw [hfe]; exact b01_congr hf
    have hf01 : 0 ≤ f ∧ f ≤ 1 := by rw [hfe]; exact b01_01 _
    obtain ⟨N, hN⟩ : ∃ N : Nat, N = (m.1 4).toNat := ⟨_, rfl⟩
    have hNc : (c.1 3).toNat = N := by rw [hN, h.n3]
    have hN5 : N ≤ 5 := by omega
    have hq10 : 0 ≤ q ∧ q < 10 := by omega
    have hX : payC (dpC c q by9) q = sS (payD (dpC c q by9) q f N) 1 ((payD (dpC c q by9) q f N).1 1 + left (dpC c q by9) q f N) := by
      unfold payC
      rw [hfc, show (dpC c q by9).1 3 = c.1 3 from rfl, hNc]
    have hY : mPay (mDp m q by9) q = sS (mPyD (mDp m q by9) q f N) 2 ((mPyD (mDp m q by9) q f N).1 2 + mLft (mDp m q by9) q f N) := by
      unfold mPay
      rw [← hfe, show (mDp m q by9).1 4 = m.1 4 from rfl, ← hN]
    have cX := payD_c (dpC c q by9) q f N
    have cY := mPyD_c (mDp m q by9) q f N
    rw [hX, hY]
    have x12 : (sS (payD (dpC c q by9) q f N) 1 ((payD (dpC c q by9) q f N).1 1 + left (dpC c q by9) q f N)).2 12 = c.2 12 := cX.2 12 (by decide)
    have x13 : (sS (payD (dpC c q by9) q f N) 1 ((payD (dpC c q by9) q f N).1 1 + left (dpC c q by9) q f N)).2 13 = upZ (c.2 13) q (dpn c q by9) := cX.2 13 (by decide)
    have x14 : (sS (payD (dpC c q by9) q f N) 1 ((payD (dpC c q by9) q f N).1 1 + left (dpC c q by9) q f N)).2 14 = c.2 14 := cX.2 14 (by decide)
    have x15 : (sS (payD (dpC c q by9) q f N) 1 ((payD (dpC c q by9) q f N).1 1 + left (dpC c q by9) q f N)).2 15 = c.2 15 := cX.2 15 (by decide)
    have x5 : (sS (payD (dpC c q by9) q f N) 1 ((payD (dpC c q by9) q f N).1 1 + left (dpC c q by9) q f N)).1 5 = c.1 5 := congrFun cX.1 5
    have xf : fnd (sS (payD (dpC c q by9) q f N) 1 ((payD (dpC c q by9) q f N).1 1 + left (dpC c q by9) q f N)) q ↔ fnd (dpC c q by9) q := by
      unfold fnd
      rw [x12, x13]
      exact Iff.rfl
    have xo : over (sS (payD (dpC c q by9) q f N) 1 ((payD (dpC c q by9) q f N).1 1 + left (dpC c q by9) q f N)) q := by
      show fnd _ q ∨ 20 ≤ (sS (payD (dpC c q by9) q f N) 1 ((payD (dpC c q by9) q f N).1 1 + left (dpC c q by9) q f N)).2 13 q
      rw [xf, x13]
      exact w
    have xb : b01 (fnd (sS (payD (dpC c q by9) q f N) 1 ((payD (dpC c q by9) q f N).1 1 + left (dpC c q by9) q f N)) q) = f := by rw [b01_congr xf, hfc]
    obtain ⟨X, eX⟩ : ∃ X, X = sS (payD (dpC c q by9) q f N) 1 ((payD (dpC c q by9) q f N).1 1 + left (dpC c q by9) q f N) := ⟨_, rfl⟩
    rw [← eX] at x12 x13 x14 x15 x5 xf xo xb ⊢
    have key : ∀ (d rt : Int), 0 ≤ d → d < 5 → 0 ≤ rt → rt ≤ 1 → pbets X d rt = pbets c d rt + b01 ((0 ≤ d ∧ d < N) ∧ m.2 12 (5 * q + d) ≠ 0 ∧ (b01 (0 < m.2 12 (5 * q + d)) = f ↔ rt = 1)) := fun d rt d0 d1 r0 r1 => by
      rw [pb_dig (c := c) (q := q) (x := X) x5 hno' x12 (fun k hk => by rw [x13, upZ_ne hk]) x14 x15 d rt, xb]
      congr 1
      have s1 := h.sta (5 * q + d) (by omega) (by omega)
      have s2 := h.bfp (5 * q + d) (by omega) (by omega)
      have s3 := h.bfn (5 * q + d) (by omega) (by omega)
      have s4 := h.bet0 q d (by omega) (by omega) d0 d1
      have s5 := ab_cs (m.2 12 (5 * q + d))
      have s6 := h.n5
      have s7 := b01_cs (0 < m.2 12 (5 * q + d))
      rw [show q * 5 + d = 5 * q + d by omega]
      have s8 := b01_cs (c.2 15 (5 * q + d) = f)
      refine b01_congr ⟨fun z => ⟨⟨d0, ?_⟩, ?_, ?_⟩, fun z => ⟨?_, ⟨xo, ?_⟩, ?_⟩⟩
      · have := z.2.1.2; omega
      · have := z.2.1.2; omega
      · have z1 := z.2.1.2; have z2 := z.2.2; omega
      · omega
      · have z1 := z.2.1; omega
      · have z1 := z.2.1; have z2 := z.2.2; omega
    have h67 := mPyD_67 (mDp m q by9) q f hf01 N
    refine h.dig_gen (X := X) (q := q) (v := dpn c q by9) hq ?_ ?_ ?_ ?_ ?_ x13 ?_ ?_ ?_ ?_
    · intro k hk
      rw [eX, sS_ne hk, cX.1]
      rfl
    · rw [eX]
      show (payD (dpC c q by9) q f N).1 1 + left (dpC c q by9) q f N = (mPyD (mDp m q by9) q f N).1 2 + mLft (mDp m q by9) q f N
      rw [cX.1, cY.1, left_dp, mLft_dp, h.e_left hq10 hf01 N hN5]
      show c.1 1 + _ = m.1 2 + _
      rw [h.n1]
    · intro k k0 k2
      rw [sS_ne k2, cY.1]
      exact sS_ne k0
    · intro k k7 k13
      rw [eX]
      show (payD (dpC c q by9) q f N).2 k = c.2 k
      rw [cX.2 k k7]
      exact sA_ne k13
    · rw [eX]
      show (payD (dpC c q by9) q f N).2 7 = (mPyD (mDp m q by9) q f N).2 5
      funext j
      rw [payD_row, mPyD_5]
      show (if 0 ≤ j ∧ j < (N : Int) then c.2 7 j + shr c q j f else c.2 7 j) = (if 0 ≤ j ∧ j < (N : Int) then m.2 5 j + mSh m q j f else m.2 5 j)
      rw [h.coi]
      by_cases e9 : 0 ≤ j ∧ j < (N : Int)
      · rw [if_pos e9, if_pos e9, h.e_shr hq10 (by omega) hf01]
      · rw [if_neg e9, if_neg e9]
    · show (mPyD (mDp m q by9) q f N).2 11 = _
      rw [cY.2 11 (by decide) (by decide) (by decide), e]
      rfl
    · intro k k5 k6 k7 k11
      show (mPyD (mDp m q by9) q f N).2 k = _
      rw [cY.2 k k5 k6 k7]
      exact sA_ne k11
    · intro d d0 d1
      show (mPyD (mDp m q by9) q f N).2 6 d = _
      rw [(h67 d).1, key d 1 d0 d1 (by omega) (by omega), ← h.rgt d d0 d1]
      show m.2 6 d + b01 ((0 ≤ d ∧ d < (N : Int)) ∧ m.2 12 (5 * q + d) ≠ 0 ∧ b01 (0 < m.2 12 (5 * q + d)) = f) = _
      congr 1
      exact b01_congr (by omega)
    · intro d d0 d1
      show (mPyD (mDp m q by9) q f N).2 7 d = _
      rw [(h67 d).2, key d 0 d0 d1 (by omega) (by omega), ← h.wrg d d0 d1]
      show m.2 7 d + b01 ((0 ≤ d ∧ d < (N : Int)) ∧ m.2 12 (5 * q + d) ≠ 0 ∧ ¬ b01 (0 < m.2 12 (5 * q + d)) = f) = _
      congr 1
      exact b01_congr (by omega)
  · rw [if_neg w, if_neg (fun z => w (ho.mpr z))]
    exact h.k_dig0 hq hno' w
end RC9
