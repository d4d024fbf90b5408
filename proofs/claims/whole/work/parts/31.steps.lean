/-! EVERY CALL, BOTH SIDES: one code, the relation and the bounds behind it, one answer -/
def OK2 (B : Int) (c m : CS) : Prop := RR c m ∧ IC B c ∧ IM B m
theorem mC_th {m x : CS} {k : Nat} (h : x.1 0 = 0) : (mC m k x).1 0 = (k : Int) := by
  unfold mC
  by_cases e : k = 0
  · rw [if_pos e, h, e]; rfl
  · rw [if_neg e]; rfl
theorem OK2.same {B B' : Int} {c m : CS} (h : OK2 B c m) (hB : B ≤ B' ∧ B' ≤ 1000000000) (k : Int) : OK2 B' c (sS m 0 k) := ⟨h.1.th k, h.2.1.mono hB, (h.2.2.n0 (v := k)).mono hB⟩
/-- a call whose code is k on both sides, and what it comes to -/
theorem OK2.fin {B B' : Int} {c m x y : CS} {k j : Nat} {r r' : Int} (h : OK2 B c m) (hB : B ≤ B' ∧ B' ≤ 1000000000) (e : k = j) (h0 : y.1 0 = 0) (hok : k = 0 → OK2 B' x y ∧ r = r') : k = j ∧ OK2 B' (if k = 0 then x else c) (mC m j y) ∧ (mC m j y).1 0 = (j : Int) ∧ (k = 0 → r = mA j r') := by
  refine ⟨e, ?_, mC_th h0, fun z => ?_⟩
  · subst e
    unfold mC
    by_cases z : k = 0
    · rw [if_pos z, if_pos z]; exact (hok z).1
    · rw [if_neg z, if_neg z]; exact ⟨(h.1.th 0).th _, h.2.1.mono hB, ((h.2.2.n0 (v := 0)).n0).mono hB⟩
  · subst e
    unfold mA
    rw [if_pos z]
    exact (hok z).2
section RST
variable {B : Int} {c m : CS}
theorem s_vein (h : OK2 B c m) (hB : 1000 ≤ B ∧ B ≤ 900000000) (x y tx ty dp fl : Int) : kVein c x y tx ty dp fl = jVein m x y tx ty dp fl ∧ OK2 (B + 100000) (if kVein c x y tx ty dp fl = 0 then veinC c x y tx ty dp fl else c) (mC m (jVein m x y tx ty dp fl) (mVein m x y tx ty dp fl)) ∧ (mC m (jVein m x y tx ty dp fl) (mVein m x y tx ty dp fl)).1 0 = (jVein m x y tx ty dp fl : Int) ∧ (kVein c x y tx ty dp fl = 0 → c.1 2 = mA (jVein m x y tx ty dp fl) ((mLay (mOpn m dp fl) (m.1 3) (20 * y + x) (20 * ty + tx)).1 3 + 1 - 1)) := by
  obtain ⟨hR, hI, hM⟩ := id h
  have hs := hM.s
  have n2 := hR.n2
  have hl := mLay_c (mOpn m dp fl) (m.1 3) (20 * y + x) (20 * ty + tx)
  have l3 : (mLay (mOpn m dp fl) (m.1 3) (20 * y + x) (20 * ty + tx)).1 3 = m.1 3 := by rw [hl.1]; rfl
  refine OK2.fin h (by omega) (hR.c_vein hM x y tx ty dp fl) ?_ (fun hk => ?_)
  · unfold mVein
    rw [sS_ne (by decide), hl.1]; rfl
  · have hk2 : (inF x y ∧ inF tx ty) ∧ (strt x y tx ty ∧ (1 ≤ dp ∧ dp ≤ 20) ∧ 1 ≤ fl ∧ fl ≤ 9) ∧ c.1 2 < 6 := by
      unfold kVein at hk
      by_cases a : inF x y ∧ inF tx ty
      · by_cases b : strt x y tx ty ∧ (1 ≤ dp ∧ dp ≤ 20) ∧ 1 ≤ fl ∧ fl ≤ 9
        · by_cases d : c.1 2 < 6
          · exact ⟨a, b, d⟩
          · rw [if_neg (fun z => z a), if_neg (fun z => z b), if_pos d] at hk; exact absurd hk (by decide)
        · rw [if_neg (fun z => z a), if_pos b] at hk; exact absurd hk (by decide)
      · rw [if_pos a] at hk; exact absurd hk (by decide)
    obtain ⟨⟨a1, a2⟩, ⟨b1, b2, b3⟩, d⟩ := hk2
    refine ⟨⟨hR.k_vein hM a1 a2 b1 b2 b3 (by omega), ?_, ?_⟩, by rw [l3]; omega⟩
    · have q1 := ab_cs (tx - x)
      have q2 := ab_cs (ty - y)
      have hN : layN x y tx ty ≤ 20 := by unfold layN; omega
      exact (lay_IC (opn_IC hI b2 b3 d) (c.1 2) x y (sgn (tx - x)) (sgn (ty - y)) (layN x y tx ty) (by omega)).mono (by omega)
    · refine IM.mono (B := B) ?_ (by omega)
      refine IM.n3 (mLay_IM (mOpn_IM hM dp fl b2 b3) (m.1 3) (20 * y + x) (20 * ty + tx)) (by rw [l3]; omega) (fun j hj => ?_)
      rw [l3] at hj
      rw [hl.2 0 (by decide)]
      show 1 ≤ upZ (m.2 0) (m.1 3) dp j
      have hv := hM.v j
      by_cases e : j = m.1 3
      · rw [e, upZ_same]; omega
      · rw [upZ_ne e]; exact hv (by omega)
theorem s_dow (h : OK2 B c m) (hB : 1000 ≤ B ∧ B ≤ 900000000) (fl ln : Int) : kDow c fl ln = jDow m fl ln ∧ OK2 (B + 100000) (if kDow c fl ln = 0 then dowC c fl ln else c) (mC m (jDow m fl ln) (mDow m fl ln)) ∧ (mC m (jDow m fl ln) (mDow m fl ln)).1 0 = (jDow m fl ln : Int) ∧ (kDow c fl ln = 0 → c.1 3 = mA (jDow m fl ln) (m.1 4)) := by
  obtain ⟨hR, hI, hM⟩ := id h
  have hs := hM.s
  have n3 := hR.n3
  refine OK2.fin h (by omega) (hR.c_dow hM fl ln) rfl (fun hk => ?_)
  have hk2 : ((0 ≤ fl ∧ fl ≤ 9) ∧ -3 ≤ ln ∧ ln ≤ 3) ∧ c.1 3 < 5 := by
    unfold kDow at hk
    by_cases a : (0 ≤ fl ∧ fl ≤ 9) ∧ -3 ≤ ln ∧ ln ≤ 3
    · by_cases d : c.1 3 < 5
      · exact ⟨a, d⟩
      · rw [if_neg (fun z => z a), if_pos d] at hk; exact absurd hk (by decide)
    · rw [if_pos a] at hk; exact absurd hk (by decide)
  refine ⟨⟨hR.k_dow fl ln, IC.mono (B := B) ?_ (by omega), IM.mono (B := B) ?_ (by omega)⟩, n3⟩
  · have i1 : IC B (sA c 5 (upZ (c.2 5) (c.1 3) fl)) := hI.u5 (by omega)
    have i2 : IC B (sA (sA c 5 (upZ (c.2 5) (c.1 3) fl)) 6 (upZ (c.2 6) (c.1 3) ln)) := i1.u6 (by omega)
    have i3 : IC B (sA (sA (sA c 5 (upZ (c.2 5) (c.1 3) fl)) 6 (upZ (c.2 6) (c.1 3) ln)) 7 (upZ (c.2 7) (c.1 3) 50)) := i2.u7 (by omega)
    exact i3.n3 (by omega)
  · have i0 : IM B (sS m 0 0) := hM.n0
    have i1 : IM B (sA (sS m 0 0) 3 (upZ (m.2 3) (m.1 4) fl)) := i0.u3 (by omega)
    have i2 : IM B (sA (sA (sS m 0 0) 3 (upZ (m.2 3) (m.1 4) fl)) 4 (upZ (m.2 4) (m.1 4) ln)) := i1.u4 (by omega)
    have i3 : IM B (sA (sA (sA (sS m 0 0) 3 (upZ (m.2 3) (m.1 4) fl)) 4 (upZ (m.2 4) (m.1 4) ln)) 5 (upZ (m.2 5) (m.1 4) 50)) := i2.u5 (by omega)
    exact i3.n4 (by omega)
theorem s_mark (h : OK2 B c m) (hB : 1000 ≤ B ∧ B ≤ 900000000) (mk : Int) : kMark mk = jMark mk ∧ OK2 (B + 100000) (if kMark mk = 0 then sS c 0 mk else c) (mC m (jMark mk) (sS (sS m 0 0) 1 mk)) ∧ (mC m (jMark mk) (sS (sS m 0 0) 1 mk)).1 0 = (jMark mk : Int) ∧ (kMark mk = 0 → c.1 0 = mA (jMark mk) (m.1 1)) := by
  obtain ⟨hR, hI, hM⟩ := id h
  refine OK2.fin h (by omega) rfl rfl (fun hk => ?_)
  have hk2 : 1 ≤ mk ∧ mk ≤ 30 := by
    unfold kMark at hk
    by_cases a : 1 ≤ mk ∧ mk ≤ 30
    · exact a
    · rw [if_pos a] at hk; exact absurd hk (by decide)
  exact ⟨⟨hR.k_mark mk, (hI.n0 hk2).mono (by omega), ((hM.n0 (v := 0)).n1 hk2).mono (by omega)⟩, hR.n0⟩
theorem s_walk (h : OK2 B c m) (hB : 1000 ≤ B ∧ B ≤ 900000000) (d x y tx ty : Int) : kWalk c d x y tx ty = jWalk m d x y tx ty ∧ OK2 (B + 100000) (if kWalk c d x y tx ty = 0 then walkC c d x y tx ty else c) (mC m (jWalk m d x y tx ty) (mWkC m d x y tx ty)) ∧ (mC m (jWalk m d x y tx ty) (mWkC m d x y tx ty)).1 0 = (jWalk m d x y tx ty : Int) ∧ (kWalk c d x y tx ty = 0 → walkR c d x y tx ty = mA (jWalk m d x y tx ty) (mWkR m d x y tx ty)) := by
  obtain ⟨hR, hI, hM⟩ := id h
  have hs := hM.s
  have n3 := hR.n3
  have th : ∀ (z : CS) (sp : Int), (mMkC z d sp).1 0 = z.1 0 := fun z sp => by
    unfold mMkC
    split
    · rfl
    · rfl
  have thn : ∀ (z : CS) (f : Nat → Int) (n : Nat), (mwC z d f n).1 0 = z.1 0 := fun z f n => by
    induction n with
    | zero => rfl
    | succ n ih => rw [mwC, th]; exact ih
  refine OK2.fin h (by omega) (hR.c_walk d x y tx ty) ?_ (fun hk => ?_)
  · unfold mWkC mWkB mWkA
    rw [th, thn, thn]
    rfl
  · have hk2 : isD c d ∧ inF x y ∧ inF tx ty := by
      unfold kWalk at hk
      by_cases a : isD c d ∧ inF x y ∧ inF tx ty
      · exact a
      · rw [if_pos a] at hk; exact absurd hk (by decide)
    obtain ⟨a, a1, a2⟩ := hk2
    have hd : 0 ≤ d ∧ d < 5 := by omega
    obtain ⟨w1, w2⟩ := hR.k_walk hM hd a1 a2
    have im : IM B (mWkC m d x y tx ty) := mMkC_IM (mwC_IM (mwC_IM (hM.n0 (v := 0)) hd _ _) hd _ _) hd
    have ic : IC B (walkC c d x y tx ty) := wkC_IC (wkC_IC hI hd _ _) hd _ _
    exact ⟨⟨w1, ic.mono (by omega), im.mono (by omega)⟩, w2⟩
theorem s_pull (h : OK2 B c m) (hB : 1000 ≤ B ∧ B ≤ 900000000) (x y : Int) : kPull c x y = jPull m x y ∧ OK2 (B + 100000) (if kPull c x y = 0 then pullC c x y else c) (mC m (jPull m x y) (mPull m x y)) ∧ (mC m (jPull m x y) (mPull m x y)).1 0 = (jPull m x y : Int) ∧ (kPull c x y = 0 → c.2 8 (y * 20 + x) = mA (jPull m x y) (m.2 8 (20 * y + x) - 1)) := by
  obtain ⟨hR, hI, hM⟩ := id h
  have hs := hM.s
  have hcs := hI.s
  refine OK2.fin h (by omega) (hR.c_pull x y) rfl (fun hk => ?_)
  have hk2 : inF x y ∧ c.2 8 (y * 20 + x) ≠ -1 := by
    unfold kPull at hk
    by_cases a : inF x y
    · by_cases b : c.2 8 (y * 20 + x) ≠ -1
      · exact ⟨a, b⟩
      · rw [if_neg (fun z => z a), if_pos b] at hk; exact absurd hk (by decide)
    · rw [if_pos a] at hk; exact absurd hk (by decide)
  obtain ⟨a, b⟩ := hk2
  have e := hR.own (20 * y + x)
  rw [show y * 20 + x = 20 * y + x by omega] at b ⊢
  have e2 : m.2 8 (20 * y + x) ≠ 0 := by omega
  have e3 := hM.r8 (20 * y + x)
  have n4 := hR.n4
  have hp : 1 ≤ c.1 4 := by
    have hc := hR.cnt
    have g := sm_ge (f := fun j => b01 (0 < m.2 8 j)) (fun j => (b01_01 _).1) 400 (20 * y + x).toNat (by omega)
    have g2 : b01 (0 < m.2 8 (((20 * y + x).toNat : Nat) : Int)) ≤ sm (fun j => b01 (0 < m.2 8 j)) 400 := g
    rw [show (((20 * y + x).toNat : Nat) : Int) = 20 * y + x by omega, b01_t (by omega)] at g2
    omega
  refine ⟨⟨hR.k_pull hM a e2, IC.mono (B := B) ?_ (by omega), IM.mono (B := B) ?_ (by omega)⟩, e⟩
  · have i1 : IC B (sA c 8 (upZ (c.2 8) (y * 20 + x) (-1))) := hI.u8 (by omega)
    exact i1.n4 (by omega)
  · have i0 : IM B (sS m 0 0) := hM.n0
    have i1 : IM B (sA (sS m 0 0) 8 (upZ (m.2 8) (20 * y + x) 0)) := i0.u8 (by omega)
    exact i1.n5 (by omega)
theorem s_pit (h : OK2 B c m) (hB : 1000 ≤ B ∧ B ≤ 900000000) (x y : Int) : kPit c x y = jPit m x y ∧ OK2 (B + 100000) (if kPit c x y = 0 then pitC c x y else c) (mC m (jPit m x y) (mPit m x y)) ∧ (mC m (jPit m x y) (mPit m x y)).1 0 = (jPit m x y : Int) ∧ (kPit c x y = 0 → c.1 5 = mA (jPit m x y) (m.1 6 + 1 - 1)) := by
  obtain ⟨hR, hI, hM⟩ := id h
  have hs := hM.s
  have n5 := hR.n5
  refine OK2.fin h (by omega) (hR.c_pit hM x y) rfl (fun hk => ?_)
  have hk2 : inF x y ∧ c.1 5 < 10 ∧ c.2 10 (y * 20 + x) < 0 := by
    unfold kPit at hk
    by_cases a : inF x y
    · by_cases b : c.1 5 < 10 ∧ c.2 10 (y * 20 + x) < 0
      · exact ⟨a, b⟩
      · rw [if_neg (fun z => z a), if_pos b] at hk; exact absurd hk (by decide)
    · rw [if_pos a] at hk; exact absurd hk (by decide)
  obtain ⟨a, b, d⟩ := hk2
  have e := hR.pat (20 * y + x) (by omega) (by omega)
  rw [show y * 20 + x = 20 * y + x by omega] at d
  have e1 := mPA_b hM (20 * y + x)
  refine ⟨⟨hR.k_pit hM a (by omega) (by omega), IC.mono (B := B) ?_ (by omega), IM.mono (B := B) ?_ (by omega)⟩, by omega⟩
  · have w4 := hI.r4 (y * 20 + x)
    have i1 : IC B (sA c 11 (upZ (c.2 11) (c.1 5) (y * 20 + x))) := hI.u11 (by omega)
    have i2 : IC B (sA (sA c 11 (upZ (c.2 11) (c.1 5) (y * 20 + x))) 12 (upZ (c.2 12) (c.1 5) (c.2 4 (y * 20 + x)))) := i1.u12 (by omega)
    have i3 : IC B (sA (sA (sA c 11 (upZ (c.2 11) (c.1 5) (y * 20 + x))) 12 (upZ (c.2 12) (c.1 5) (c.2 4 (y * 20 + x)))) 10 (upZ (c.2 10) (y * 20 + x) (c.1 5))) := i2.u10 (by omega)
    exact i3.n5 (by omega)
  · have i0 : IM B (sS m 0 0) := hM.n0
    have i1 : IM B (sA (sS m 0 0) 9 (upZ (m.2 9) (m.1 6) (20 * y + x))) := i0.u9 (by omega)
    have w4 := mDep_b i1 (20 * y + x) (m.1 3).toNat
    have i2 : IM B (sA (sA (sS m 0 0) 9 (upZ (m.2 9) (m.1 6) (20 * y + x))) 10 (upZ (m.2 10) (m.1 6) (mDep (sA (sS m 0 0) 9 (upZ (m.2 9) (m.1 6) (20 * y + x))) (20 * y + x) (m.1 3).toNat))) := i1.u10 w4
    exact i2.n6 (by omega)
theorem s_bet (h : OK2 B c m) (hB : 1000 ≤ B ∧ B ≤ 900000000) (d q co9 f : Int) (hf : 0 ≤ f ∧ f ≤ 1) : kBet c d q co9 = jBet m d q co9 ∧ OK2 (B + 100000) (if kBet c d q co9 = 0 then betC c d q co9 f else c) (mC m (jBet m d q co9) (mBet m d q co9 f)) ∧ (mC m (jBet m d q co9) (mBet m d q co9 f)).1 0 = (jBet m d q co9 : Int) ∧ (kBet c d q co9 = 0 → c.2 7 d - co9 = mA (jBet m d q co9) (m.2 5 d - co9)) := by
  obtain ⟨hR, hI, hM⟩ := id h
  have hs := hM.s
  have n3 := hR.n3
  have n5 := hR.n5
  refine OK2.fin h (by omega) (hR.c_bet hM d q co9) rfl (fun hk => ?_)
  have hk2 : (isD c d ∧ isP c q) ∧ (1 ≤ co9 ∧ co9 ≤ 99) ∧ (c.2 13 q ≤ 0 ∧ ¬ 0 < c.2 14 (q * 5 + d) ∧ co9 ≤ c.2 7 d) := by
    unfold kBet at hk
    by_cases a : isD c d ∧ isP c q
    · by_cases b : 1 ≤ co9 ∧ co9 ≤ 99
      · by_cases e : c.2 13 q ≤ 0 ∧ ¬ 0 < c.2 14 (q * 5 + d) ∧ co9 ≤ c.2 7 d
        · exact ⟨a, b, e⟩
        · rw [if_neg (fun z => z a), if_neg (fun z => z b), if_pos e] at hk; exact absurd hk (by decide)
      · rw [if_neg (fun z => z a), if_pos b] at hk; exact absurd hk (by decide)
    · rw [if_pos a] at hk; exact absurd hk (by decide)
  obtain ⟨⟨a1, a2⟩, b, e1, e2, e3⟩ := hk2
  have g1 := congrFun hR.dug q
  have g2 := congrFun hR.coi d
  have g3 := hI.r7 d
  refine ⟨⟨hR.k_bet hM (by omega) (by omega) b hf (by omega), IC.mono (B := B) ?_ (by omega), IM.mono (B := B) ?_ (by omega)⟩, by omega⟩
  · have i1 : IC B (sA c 14 (upZ (c.2 14) (q * 5 + d) co9)) := hI.u14 (by omega)
    have i2 : IC B (sA (sA c 14 (upZ (c.2 14) (q * 5 + d) co9)) 15 (upZ (c.2 15) (q * 5 + d) f)) := i1.u15 (by omega)
    exact i2.u7 (by omega)
  · have i0 : IM B (sS m 0 0) := hM.n0
    have i1 : IM B (sA (sS m 0 0) 5 (upZ (m.2 5) d (m.2 5 d - co9))) := i0.u5 (by omega)
    exact i1.u12 (by split <;> omega)
theorem s_dig (h : OK2 B c m) (hB : 1000 ≤ B ∧ B ≤ 900000000) (q by9 : Int) : kDig c q by9 = jDig m q by9 ∧ OK2 (B + 100000) (if kDig c q by9 = 0 then digC1 c q by9 else c) (mC m (jDig m q by9) (mDig m q by9)) ∧ (mC m (jDig m q by9) (mDig m q by9)).1 0 = (jDig m q by9 : Int) ∧ (kDig c q by9 = 0 → dpn c q by9 = mA (jDig m q by9) (mDpn m q by9)) := by
  obtain ⟨hR, hI, hM⟩ := id h
  have hs := hM.s
  have n5 := hR.n5
  refine OK2.fin h (by omega) (hR.c_dig hM q by9) ?_ (fun hk => ?_)
  · unfold mDig
    by_cases w : mO (mDp m q by9) q
    · rw [if_pos w]
      unfold mPay
      show (mPyD (mDp m q by9) q (b01 (mF (mDp m q by9) q)) ((mDp m q by9).1 4).toNat).1 0 = 0
      rw [(mPyD_c _ _ _ _).1]
      rfl
    · rw [if_neg w]; rfl
  have hk2 : isP c q ∧ (1 ≤ by9 ∧ by9 ≤ 20) ∧ ¬ over c q := by
    unfold kDig at hk
    by_cases a : isP c q
    · by_cases b : 1 ≤ by9 ∧ by9 ≤ 20
      · by_cases e : over c q
        · rw [if_neg (fun z => z a), if_neg (fun z => z b), if_pos e] at hk; exact absurd hk (by decide)
        · exact ⟨a, b, e⟩
      · rw [if_neg (fun z => z a), if_pos b] at hk; exact absurd hk (by decide)
    · rw [if_pos a] at hk; exact absurd hk (by decide)
  obtain ⟨a, b, e⟩ := hk2
  refine ⟨⟨hR.k_dig hM (by omega) b (fun z => e ((hR.e_over hM q).mpr z)), ?_, ?_⟩, hR.e_dpn q by9⟩
  · unfold digC1
    by_cases w : over (dpC c q by9) q
    · rw [if_pos w]; exact payC_IC (dpC_IC hI q b) hB.2 q
    · rw [if_neg w]; exact (dpC_IC hI q b).mono (by omega)
  · unfold mDig
    by_cases w : mO (mDp m q by9) q
    · rw [if_pos w]; exact mPay_IM (mDp_IM hM q b) hB.2 q
    · rw [if_neg w]; exact (mDp_IM hM q b).mono (by omega)
theorem s_read (h : OK2 B c m) (hB : 1000 ≤ B ∧ B ≤ 900000000) {k j : Nat} {r r' : Int} (e : k = j) (hr : k = 0 → r = r') : k = j ∧ OK2 (B + 100000) (if k = 0 then c else c) (mC m j (sS m 0 0)) ∧ (mC m j (sS m 0 0)).1 0 = (j : Int) ∧ (k = 0 → r = mA j r') :=
  OK2.fin h (by omega) e rfl (fun z => ⟨h.same (by omega) 0, hr z⟩)
theorem kR {P : Prop} [Decidable P] (h : (if ¬ P then 1 else 0) = 0) : P := by
  by_cases a : P
  · exact a
  · rw [if_pos a] at h; exact absurd h (by decide)
theorem s_spot (h : OK2 B c m) (hB : 1000 ≤ B ∧ B ≤ 900000000) (x y w : Int) : kSpot x y w = jSpot x y w ∧ OK2 (B + 100000) (if kSpot x y w = 0 then c else c) (mC m (jSpot x y w) (sS m 0 0)) ∧ (mC m (jSpot x y w) (sS m 0 0)).1 0 = (jSpot x y w : Int) ∧ (kSpot x y w = 0 → spotT c (y * 20 + x) w = mA (jSpot x y w) (mSpT (sS m 0 0) (20 * y + x) w)) :=
  s_read h hB rfl (fun hk => by
    have k2 : inF x y ∧ 0 ≤ w ∧ w ≤ 5 := kR hk
    rw [show y * 20 + x = 20 * y + x by omega]
    exact (h.1.th 0).e_spot (h.2.2.n0 (v := 0)) (by omega) w)
theorem s_rod (h : OK2 B c m) (hB : 1000 ≤ B ∧ B ≤ 900000000) (d x y : Int) : kRod c d x y = jRod m d x y ∧ OK2 (B + 100000) (if kRod c d x y = 0 then c else c) (mC m (jRod m d x y) (sS m 0 0)) ∧ (mC m (jRod m d x y) (sS m 0 0)).1 0 = (jRod m d x y : Int) ∧ (kRod c d x y = 0 → bendC c d (y * 20 + x) = mA (jRod m d x y) (mBnd (sS m 0 0) d (20 * y + x))) :=
  s_read h hB (h.1.c_rod d x y) (fun hk => by
    have k2 : isD c d ∧ inF x y := kR hk
    rw [show y * 20 + x = 20 * y + x by omega]
    exact (h.1.th 0).e_bend (h.2.2.n0 (v := 0)) d (by omega))
theorem s_told (h : OK2 B c m) (hB : 1000 ≤ B ∧ B ≤ 900000000) (d w : Int) : kTold c d w = jTold m d w ∧ OK2 (B + 100000) (if kTold c d w = 0 then c else c) (mC m (jTold m d w) (sS m 0 0)) ∧ (mC m (jTold m d w) (sS m 0 0)).1 0 = (jTold m d w : Int) ∧ (kTold c d w = 0 → dowT c d w = mA (jTold m d w) (mDoT (sS m 0 0) d w)) :=
  s_read h hB (h.1.c_told d w) (fun hk => by
    have k2 : isD c d ∧ 0 ≤ w ∧ w ≤ 7 := kR hk
    have hs := h.2.1.s
    exact (h.1.th 0).e_dow (h.2.2.n0 (v := 0)) (by omega) w)
theorem s_about (h : OK2 B c m) (hB : 1000 ≤ B ∧ B ≤ 900000000) (q w : Int) : kAbout c q w = jAbout m q w ∧ OK2 (B + 100000) (if kAbout c q w = 0 then c else c) (mC m (jAbout m q w) (sS m 0 0)) ∧ (mC m (jAbout m q w) (sS m 0 0)).1 0 = (jAbout m q w : Int) ∧ (kAbout c q w = 0 → pitT c q w = mA (jAbout m q w) (mPiT (sS m 0 0) q w)) :=
  s_read h hB (h.1.c_about q w) (fun hk => by
    have k2 : isP c q ∧ 0 ≤ w ∧ w ≤ 6 := kR hk
    have hs := h.2.1.s
    exact (h.1.th 0).e_pit (h.2.2.n0 (v := 0)) (by omega) w)
theorem s_count (h : OK2 B c m) (hB : 1000 ≤ B ∧ B ≤ 900000000) (w : Int) : kCount w = jCount w ∧ OK2 (B + 100000) (if kCount w = 0 then c else c) (mC m (jCount w) (sS m 0 0)) ∧ (mC m (jCount w) (sS m 0 0)).1 0 = (jCount w : Int) ∧ (kCount w = 0 → cntT c w = mA (jCount w) (mCnt (sS m 0 0) w)) :=
  s_read h hB rfl (fun _ => (h.1.th 0).e_cntT w)
theorem s_line (h : OK2 B c m) (hB : 1000 ≤ B ∧ B ≤ 900000000) (w : Int) : kLine w = jLine w ∧ OK2 (B + 100000) (if kLine w = 0 then sA c 9 (onL c 400) else c) (mC m (jLine w) (sS m 0 0)) ∧ (mC m (jLine w) (sS m 0 0)).1 0 = (jLine w : Int) ∧ (kLine w = 0 → lineT c w = mA (jLine w) (mLnT (sS m 0 0) w)) := by
  obtain ⟨hR, hI, hM⟩ := id h
  have t := hR.th 0
  exact OK2.fin h (by omega) rfl rfl (fun _ => ⟨⟨RR.mk t.n0 t.n1 t.n2 t.n3 t.n4 t.n5 t.dep t.flw t.rch t.rch0 t.wat t.shl t.fel t.len t.coi t.own t.cnt t.pat t.plc t.wdp t.dug t.dug0 t.sta t.bfp t.bfn t.bet0 t.rgt t.wrg, (hI.a9).mono (by omega), (hM.n0 (v := 0)).mono (by omega)⟩, t.e_line (hM.n0 (v := 0)) w⟩)
theorem s_would (h : OK2 B c m) (hB : 1000 ≤ B ∧ B ≤ 900000000) (q d f : Int) (hf : 0 ≤ f ∧ f ≤ 1) : kWould c q d = jWould m q d ∧ OK2 (B + 100000) (if kWould c q d = 0 then c else c) (mC m (jWould m q d) (sS m 0 0)) ∧ (mC m (jWould m q d) (sS m 0 0)).1 0 = (jWould m q d : Int) ∧ (kWould c q d = 0 → wouldT c q d f = mA (jWould m q d) (if mO m q then 0 else mSh (sS m 0 0) q d f)) :=
  s_read h hB (h.1.c_would q d) (fun hk => by
    have k2 : isP c q ∧ isD c d := kR hk
    have hs := h.2.1.s
    exact (h.1.th 0).e_would (h.2.2.n0 (v := 0)) (by omega) (by omega) hf)
theorem s_best (h : OK2 B c m) (hB : 1000 ≤ B ∧ B ≤ 900000000) (d w : Int) : kBest c d w = jBest m d w ∧ OK2 (B + 100000) (if kBest c d w = 0 then c else c) (mC m (jBest m d w) (sS m 0 0)) ∧ (mC m (jBest m d w) (sS m 0 0)).1 0 = (jBest m d w : Int) ∧ (kBest c d w = 0 → bestT c d w = mA (jBest m d w) (mBsT (sS m 0 0) d w)) :=
  s_read h hB (h.1.c_best d w) (fun _ => (h.1.th 0).e_bestT (h.2.2.n0 (v := 0)) d w)
end RST
