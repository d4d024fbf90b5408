/-! EVERY CALL KEEPS THEM TOGETHER -/
theorem sDp20 {t : SS} (h : IT t) (x y : Int) : ∀ n : Nat, (n : Int) ≤ t.1 2 → sDp t x y n = 99 ∨ (1 ≤ sDp t x y n ∧ sDp t x y n ≤ 20)
  | 0, _ => Or.inl rfl
  | n + 1, hn => by
    have h1 := sDp20 h x y n (by omega)
    have h2 := h.v (i := (n : Int)) (by omega)
    rw [sDp]
    split <;> omega
theorem sDep20 {t : SS} (h : IT t) (x y : Int) : 0 ≤ sDep t x y ∧ sDep t x y ≤ 20 := by
  have hs := h.s
  have h1 := sDp20 h x y (t.1 2).toNat (by omega)
  unfold sDep
  split <;> omega
section RSS
variable {c : CS} {t : SS} {B : Int}
theorem R_start : RS c00 s00 := by
  refine ⟨⟨rfl, rfl, rfl, rfl, rfl, rfl⟩, ?_, ?_, ?_, ?_, ?_, ?_, ?_, ?_, ?_, ?_, ?_, ?_, ?_⟩
  · exact fun i h0 h1 => absurd h1 (by show ¬ i < (0 : Int); omega)
  · exact fun _ _ _ _ _ _ => rfl
  · exact fun _ _ _ => ⟨rfl, rfl⟩
  · exact fun d h0 h1 => absurd h1 (by show ¬ d < (0 : Int); omega)
  · exact fun _ _ _ => rfl
  · exact fun i j h0 h1 h2 => absurd h2 (by show ¬ j < (0 : Int); omega)
  · exact fun i j h0 h1 h2 => absurd h2 (by show ¬ j < (0 : Int); omega)
  · exact fun d h0 h1 => absurd h1 (by show ¬ d < (0 : Int); omega)
  · exact fun q d h0 h1 => absurd h1 (by show ¬ q < (0 : Int); omega)
  · exact ⟨fun _ _ _ _ _ _ => rfl, fun _ _ _ => rfl⟩
  · exact fun _ _ _ => rfl
  · exact fun d h0 h1 => absurd h1 (by show ¬ d < (0 : Int); omega)
  · exact ⟨Int.le_refl _, rfl⟩
theorem IC_start : IC 100 c00 := by
  refine ⟨by show ICs _ _; unfold ICs; simp [c00, Nat.beq, cond], ?_, ?_, ?_, ?_, ?_, ?_, ?_, ?_, ?_, ?_, ?_, ?_, ?_, ?_, ?_⟩ <;> intro j <;> simp [c00, Nat.beq, cond]
theorem IT_start : IT s00 := by
  refine ⟨by show ITs _; unfold ITs; simp [s00, Nat.beq, cond], ?_, ?_, ?_, ?_⟩ <;> intro i h0 h1 <;> exact absurd h1 (by show ¬ i < (0 : Int); omega)
theorem IC_up {B' : Int} (hI : IC B c) (hB : B ≤ B' ∧ B' ≤ 1000000000) : IC B' c := hI.mono hB
theorem IC_mark (hI : IC B c) {mk : Int} (hm : 1 ≤ mk ∧ mk ≤ 30) : IC B (sS c 0 mk) := hI.n0 hm
theorem IT_mark (hT : IT t) {mk : Int} (hm : 1 ≤ mk ∧ mk ≤ 30) : IT (tS t 0 mk) := ⟨⟨hm, hT.1.2⟩, hT.2⟩
theorem IC_dow (hI : IC B c) (hB : 50 ≤ B) {fl ln : Int} (hf : 0 ≤ fl ∧ fl ≤ 9) (hl : -3 ≤ ln ∧ ln ≤ 3) (hn : c.1 3 < 5) : IC B (dowC c fl ln) := by
  have hs := hI.s
  have i1 : IC B (sA c 5 (upZ (c.2 5) (c.1 3) fl)) := hI.u5 (by omega)
  have i2 : IC B (sA (sA c 5 (upZ (c.2 5) (c.1 3) fl)) 6 (upZ (c.2 6) (c.1 3) ln)) := i1.u6 (by omega)
  have i3 : IC B (sA (sA (sA c 5 (upZ (c.2 5) (c.1 3) fl)) 6 (upZ (c.2 6) (c.1 3) ln)) 7 (upZ (c.2 7) (c.1 3) 50)) := i2.u7 (by omega)
  exact i3.n3 (by omega)
theorem IC_vein (hI : IC B c) (hB : B ≤ 900000000) {x y tx ty dp fl : Int} (hn : c.1 2 < 6) (hf : inF x y ∧ inF tx ty) (hd : 1 ≤ dp ∧ dp ≤ 20) (hl : 1 ≤ fl ∧ fl ≤ 9) : IC (B + 100000) (veinC c x y tx ty dp fl) := by
  have hs := hI.s
  have q1 := ab_cs (tx - x)
  have q2 := ab_cs (ty - y)
  have hN : layN x y tx ty ≤ 20 := by unfold layN; omega
  exact (lay_IC (opn_IC hI hd hl hn) (c.1 2) x y (sgn (tx - x)) (sgn (ty - y)) (layN x y tx ty) (by omega)).mono (by omega)
theorem kVein_3 {x y tx ty dp fl : Int} (hf : inF x y ∧ inF tx ty) (hs : strt x y tx ty) (hd : 1 ≤ dp ∧ dp ≤ 20) (hl : 1 ≤ fl ∧ fl ≤ 9) : kVein c x y tx ty dp fl = if c.1 2 < 6 then 0 else 3 := by
  unfold kVein
  rw [if_neg (fun z => z hf), if_neg (fun z => z ⟨hs, hd, hl⟩)]
  by_cases h : c.1 2 < 6
  · rw [if_neg (fun z => z h), if_pos h]
  · rw [if_pos h, if_neg h]
theorem IC_walk (hI : IC B c) {d x y tx ty : Int} (hd : 0 ≤ d ∧ d < 5) : IC B (walkC c d x y tx ty) := wkC_IC (wkC_IC hI hd _ _) hd _ _
theorem IC_pull (hI : IC B c) {x y : Int} (hn : 1 ≤ c.1 4) : IC B (pullC c x y) := by
  have hs := hI.s
  have i1 : IC B (sA c 8 (upZ (c.2 8) (y * 20 + x) (-1))) := hI.u8 (by omega)
  exact i1.n4 (by omega)
theorem IC_pit (hI : IC B c) {x y : Int} (hf : inF x y) (hn : c.1 5 < 10) : IC B (pitC c x y) := by
  have hs := hI.s
  have w4 := hI.r4 (y * 20 + x)
  have i1 : IC B (sA c 11 (upZ (c.2 11) (c.1 5) (y * 20 + x))) := hI.u11 (by omega)
  have i2 : IC B (sA (sA c 11 (upZ (c.2 11) (c.1 5) (y * 20 + x))) 12 (upZ (c.2 12) (c.1 5) (c.2 4 (y * 20 + x)))) := i1.u12 (by omega)
  have i3 : IC B (sA (sA (sA c 11 (upZ (c.2 11) (c.1 5) (y * 20 + x))) 12 (upZ (c.2 12) (c.1 5) (c.2 4 (y * 20 + x)))) 10 (upZ (c.2 10) (y * 20 + x) (c.1 5))) := i2.u10 (by omega)
  exact i3.n5 (by omega)
theorem IC_bet (hI : IC B c) {d q co9 f : Int} (hd : 0 ≤ d ∧ d < 5) (hq : 0 ≤ q ∧ q < 10) (hc : 1 ≤ co9 ∧ co9 ≤ 99) (hf : 0 ≤ f ∧ f ≤ 1) (hm : co9 ≤ c.2 7 d) : IC B (betC c d q co9 f) := by
  have hs := hI.s
  have g3 := hI.r7 d
  have i1 : IC B (sA c 14 (upZ (c.2 14) (q * 5 + d) co9)) := hI.u14 (by omega)
  have i2 : IC B (sA (sA c 14 (upZ (c.2 14) (q * 5 + d) co9)) 15 (upZ (c.2 15) (q * 5 + d) f)) := i1.u15 (by omega)
  exact i2.u7 (by omega)
theorem IC_dig (hI : IC B c) (hB : B ≤ 900000000) {q by9 : Int} (hb : 1 ≤ by9 ∧ by9 ≤ 20) : IC (B + 100000) (digC1 c q by9) := by
  have hs := hI.s
  unfold digC1
  by_cases w : over (dpC c q by9) q
  · rw [if_pos w]; exact payC_IC (dpC_IC hI q hb) hB q
  · rw [if_neg w]; exact (dpC_IC hI q hb).mono (by omega)
theorem IT_dow (hT : IT t) {fl ln : Int} (hf : 0 ≤ fl ∧ fl ≤ 9) (hl : -3 ≤ ln ∧ ln ≤ 3) (hn : t.1 3 < 5) : IT (sAdd t 1 (drow fl ln)) := by
  have hs := hT.s
  refine ⟨?_, hT.2.1, fun i h0 h1 => ?_, fun i h0 h1 => ?_, hT.2.2.2.2⟩
  · show ITs _
    unfold ITs
    show _ ∧ _ ∧ (0 ≤ t.1 3 + 1 ∧ t.1 3 + 1 ≤ 5) ∧ _
    exact ⟨hs.1, hs.2.1, by omega, hs.2.2.2⟩
  · have h1 : i < t.1 3 + 1 := h1
    show DB (if i = t.1 3 then drow fl ln else t.2 1 i)
    by_cases e : i = t.1 3
    · rw [if_pos e]; exact ⟨hf, hl⟩
    · rw [if_neg e]; exact hT.d (by omega)
  · have := hT.p (i := i) ⟨h0, h1⟩
    show PB (t.1 3 + 1) (t.2 2 i)
    omega
theorem IT_vein (hT : IT t) {x y tx ty dp fl : Int} (hn : t.1 2 < 6) (hf : inF x y ∧ inF tx ty) (hd : 1 ≤ dp ∧ dp ≤ 20) (hl : 1 ≤ fl ∧ fl ≤ 9) : IT (sAdd t 0 (vrow x y tx ty dp fl)) := by
  have hs := hT.s
  refine ⟨?_, fun i h0 h1 => ?_, hT.2.2⟩
  · show ITs _
    unfold ITs
    show _ ∧ (0 ≤ t.1 2 + 1 ∧ t.1 2 + 1 ≤ 6) ∧ _
    exact ⟨hs.1, by omega, hs.2.2⟩
  · have h1 : i < t.1 2 + 1 := h1
    show VB (if i = t.1 2 then vrow x y tx ty dp fl else t.2 0 i)
    by_cases e : i = t.1 2
    · rw [if_pos e]
      have q1 := ab_cs (x - tx)
      have q2 := ab_cs (y - ty)
      have s1 := sgn_cs (tx - x)
      have s2 := sgn_cs (ty - y)
      show (0 ≤ x ∧ x ≤ 19) ∧ (0 ≤ y ∧ y ≤ 19) ∧ (-1 ≤ sgn (tx - x) ∧ sgn (tx - x) ≤ 1) ∧ (-1 ≤ sgn (ty - y) ∧ sgn (ty - y) ≤ 1) ∧ (0 ≤ max (ab (x - tx)) (ab (y - ty)) ∧ max (ab (x - tx)) (ab (y - ty)) ≤ 19) ∧ (1 ≤ dp ∧ dp ≤ 20) ∧ 1 ≤ fl ∧ fl ≤ 9
      omega
    · rw [if_neg e]; exact hT.v (by omega)
theorem IT_walk (hT : IT t) {d x y tx ty : Int} (hd : 0 ≤ d ∧ d < t.1 3) (hf : inF x y ∧ inF tx ty) : IT (skW t d x y tx ty) := by
  have q1 := ab_nn (tx - x)
  have q2 := ab_nn (ty - y)
  exact skC_IT hT hd hf _ (by unfold skN; omega)
theorem IT_pull (hT : IT t) {j : Int} (hj : 0 ≤ j ∧ j < t.1 4) : IT (sDel t j) := by
  have hs := hT.s
  refine ⟨?_, hT.2.1, hT.2.2.1, fun i h0 h1 => ?_, hT.2.2.2.2⟩
  · show ITs _
    unfold ITs
    show _ ∧ _ ∧ _ ∧ (0 ≤ t.1 4 - 1 ∧ t.1 4 - 1 ≤ 60) ∧ _
    exact ⟨hs.1, hs.2.1, hs.2.2.1, by omega, hs.2.2.2.2⟩
  · have h1 : i < t.1 4 - 1 := h1
    show PB (t.1 3) (if i < j then t.2 2 i else t.2 2 (i + 1))
    split
    · exact hT.p (by omega)
    · exact hT.p (by omega)
theorem IT_pit (hT : IT t) {x y : Int} (hf : inF x y) (hn : t.1 5 < 10) : IT (sAdd t 3 (qrow x y (sDep t x y))) := by
  have hs := hT.s
  refine ⟨?_, hT.2.1, hT.2.2.1, hT.2.2.2.1, fun i h0 h1 => ?_⟩
  · show ITs _
    unfold ITs
    show _ ∧ _ ∧ _ ∧ _ ∧ 0 ≤ t.1 5 + 1 ∧ t.1 5 + 1 ≤ 10
    exact ⟨hs.1, hs.2.1, hs.2.2.1, hs.2.2.2.1, by omega⟩
  · have h1 : i < t.1 5 + 1 := h1
    show QB (if i = t.1 5 then qrow x y (sDep t x y) else t.2 3 i)
    by_cases e : i = t.1 5
    · rw [if_pos e]
      have hd := sDep20 hT x y
      show (0 ≤ x ∧ x ≤ 19) ∧ (0 ≤ y ∧ y ≤ 19) ∧ (0 ≤ sDep t x y ∧ sDep t x y ≤ 20) ∧ (0 ≤ (0 : Int) ∧ (0 : Int) ≤ 20) ∧ (-99 ≤ (0 : Int) ∧ (0 : Int) ≤ 99) ∧ (-99 ≤ (0 : Int) ∧ (0 : Int) ≤ 99) ∧ (-99 ≤ (0 : Int) ∧ (0 : Int) ≤ 99) ∧ (-99 ≤ (0 : Int) ∧ (0 : Int) ≤ 99) ∧ -99 ≤ (0 : Int) ∧ (0 : Int) ≤ 99
      omega
    · rw [if_neg e]; exact hT.q (by omega)
theorem IT_bet (hT : IT t) {d q co9 v : Int} (hd : 0 ≤ d ∧ d < t.1 3) (hq : 0 ≤ q ∧ q < t.1 5) (hc : 1 ≤ co9 ∧ co9 ≤ 99) (hv : v = co9 ∨ v = -co9) : IT (sBet t d q co9 v) := by
  have hs := hT.s
  refine ⟨hT.1, hT.2.1, fun i h0 h1 => ?_, hT.2.2.2.1, fun i h0 h1 => ?_⟩
  · have hi := hT.d (i := i) ⟨h0, h1⟩
    show DB (up2 (t.2 1) d 2 (t.2 1 d 2 - co9) i)
    by_cases e : i = d
    · subst e; rw [up2_r]; exact hi
    · rw [up2_ne e]; exact hi
  · have hi := hT.q (i := i) ⟨h0, h1⟩
    show QB (up2 (t.2 3) q (4 + d) v i)
    by_cases e : i = q
    · subst e
      rw [up2_r]
      have u : ∀ j : Int, -99 ≤ upZ (t.2 3 i) (4 + d) v j ∧ upZ (t.2 3 i) (4 + d) v j ≤ 99 ∨ j < 4 ∨ 8 < j := fun j => by
        by_cases z : j < 4 ∨ 8 < j
        · exact Or.inr z
        · refine Or.inl ?_
          by_cases w : j = 4 + d
          · rw [w, upZ_same]; omega
          · rw [upZ_ne w]; exact hi.b (by omega)
      have u4 := u 4
      have u5 := u 5
      have u6 := u 6
      have u7 := u 7
      have u8 := u 8
      unfold QB at hi ⊢
      rw [upZ_ne (j := 0) (by omega), upZ_ne (j := 1) (by omega), upZ_ne (j := 2) (by omega), upZ_ne (j := 3) (by omega)]
      omega
    · rw [up2_ne e]; exact hi
theorem IT_dig (hT : IT t) {q by9 : Int} (hq : 0 ≤ q ∧ q < t.1 5) : IT (sDig t q by9) := by
  unfold sDig
  split
  · exact sPay_IT (sDk_IT hT hq _) _ _ _
  · exact sDk_IT hT hq _
end RSS
section RSB
variable {c : CS} {t : SS} {B : Int}
theorem sDp_congr {t t' : SS} (h0 : t'.2 0 = t.2 0) (x y : Int) : ∀ n : Nat, sDp t' x y n = sDp t x y n
  | 0 => rfl
  | n + 1 => by rw [sDp, sDp, sDp_congr h0 x y n, h0]
theorem sDep_congr {t t' : SS} (h0 : t'.2 0 = t.2 0) (hn : t'.1 2 = t.1 2) (x y : Int) : sDep t' x y = sDep t x y := by
  unfold sDep
  rw [hn, sDp_congr h0]
theorem sWat_congr {t t' : SS} (h0 : t'.2 0 = t.2 0) (hn : t'.1 2 = t.1 2) (x y : Int) : sWat t' x y = sWat t x y := by
  unfold sWat
  rw [hn]
  exact sm_congr _ (fun j _ _ => by unfold sWt; rw [h0])
theorem RSw_congr {c' : CS} {t' : SS} (h : RSw c t) (h3 : c'.2 3 = c.2 3) (h4 : c'.2 4 = c.2 4) (h0 : t'.2 0 = t.2 0) (hn : t'.1 2 = t.1 2) : RSw c' t' := fun sp a b => by
  rw [h3, h4, sWat_congr h0 hn, sDep_congr h0 hn]
  exact h sp a b
theorem R_mark (h : RS c t) {mk : Int} : RS (sS c 0 mk) (tS t 0 mk) := ⟨⟨rfl, h.n.2⟩, h.v, h.v0, RSw_congr h.w rfl rfl rfl rfl, h.d, h.p, h.u2, h.u3, h.q, h.b, h.z, h.a, h.r, h.k⟩
theorem pb_0 (h : c.1 5 = 0) (d rt : Int) : pbets c d rt = 0 := by unfold pbets; rw [h]; rfl
theorem R_dow (h : RS c t) (hI : IC B c) (hT : IT t) {fl ln : Int} (hf : 0 ≤ fl ∧ fl ≤ 9) (hl : -3 ≤ ln ∧ ln ≤ 3) (hn : t.1 3 < 5) (h0 : t.1 5 = 0) : RS (dowC c fl ln) (sAdd t 1 (drow fl ln)) := by
  have hs := hT.s
  have n3 : c.1 3 = t.1 3 := h.n.2.2.2.1
  have n5 : c.1 5 = 0 := h.n.2.2.2.2.2.trans h0
  refine ⟨⟨h.n.1, h.n.2.1, h.n.2.2.1, by show c.1 3 + 1 = t.1 3 + 1; omega, h.n.2.2.2.2⟩, h.v, h.v0, RSw_congr h.w rfl rfl rfl rfl, fun d a b => ?_, h.p, h.u2, h.u3, h.q, fun q d q0 q1 d0 d1 => absurd q1 (by show ¬ q < t.1 5; omega), h.z, h.a, fun d a b => ?_, ?_⟩
  · have b : d < t.1 3 + 1 := b
    show upZ (c.2 5) (c.1 3) fl d = (if d = t.1 3 then drow fl ln else t.2 1 d) 0 ∧ upZ (c.2 6) (c.1 3) ln d = (if d = t.1 3 then drow fl ln else t.2 1 d) 1 ∧ upZ (c.2 7) (c.1 3) 50 d = (if d = t.1 3 then drow fl ln else t.2 1 d) 2 ∧ 0 ≤ (if d = t.1 3 then drow fl ln else t.2 1 d) 2
    rw [n3]
    by_cases e : d = t.1 3
    · rw [if_pos e, e, upZ_same, upZ_same, upZ_same]; exact ⟨rfl, rfl, rfl, by show (0 : Int) ≤ 50; omega⟩
    · rw [if_neg e, upZ_ne e, upZ_ne e, upZ_ne e]; exact h.d d a (by omega)
  · have b : d < t.1 3 + 1 := b
    rw [pb_0 (c := dowC c fl ln) n5, pb_0 (c := dowC c fl ln) n5]
    show (if d = t.1 3 then drow fl ln else t.2 1 d) 3 = 0 ∧ (if d = t.1 3 then drow fl ln else t.2 1 d) 4 = 0
    by_cases e : d = t.1 3
    · rw [if_pos e]; exact ⟨rfl, rfl⟩
    · rw [if_neg e]
      have := h.r d a (by omega)
      rw [pb_0 n5, pb_0 n5] at this
      exact this
  · have hk := h.k
    refine ⟨hk.1, ?_⟩
    show t.1 1 + sm (fun d => (if d = t.1 3 then drow fl ln else t.2 1 d) 2) (t.1 3 + 1).toNat + sOpen t = 50 * (t.1 3 + 1)
    have e1 : (t.1 3 + 1).toNat = (t.1 3).toNat + 1 := by omega
    have e2 := sm_congr (f := fun d => (if d = t.1 3 then drow fl ln else t.2 1 d) 2) (f' := fun d => t.2 1 d 2) (t.1 3).toNat (fun j a b => by show (if j = t.1 3 then drow fl ln else t.2 1 j) 2 = t.2 1 j 2; rw [if_neg (by omega)])
    rw [e1]
    show t.1 1 + (sm (fun d => (if d = t.1 3 then drow fl ln else t.2 1 d) 2) (t.1 3).toNat + (if (((t.1 3).toNat : Nat) : Int) = t.1 3 then drow fl ln else t.2 1 _) 2) + sOpen t = _
    rw [e2, if_pos (by omega)]
    show t.1 1 + (sm (fun d => t.2 1 d 2) (t.1 3).toNat + 50) + sOpen t = _
    have := hk.2
    omega
-- veins
theorem farS_nn (a b x y : Int) : 0 ≤ farS a b x y := by
  have h1 := ab_nn (a - x)
  have h2 := ab_nn (b - y)
  unfold farS; omega
theorem farS_0 {a b x y : Int} : farS a b x y = 0 ↔ a = x ∧ b = y := by
  have h1 := ab_cs (a - x)
  have h2 := ab_cs (b - y)
  unfold farS; omega
theorem vf_0 (F : Int → Int) (x y : Int) : ∀ n : Nat, vf F x y n = 0 ↔ ∃ k : Nat, k < n ∧ farS (F 0 + (k : Int) * F 2) (F 1 + (k : Int) * F 3) x y = 0
  | 0 => ⟨fun h => absurd h (by show ¬ (99 : Int) = 0; omega), fun ⟨k, h, _⟩ => absurd h (by omega)⟩
  | n + 1 => by
    rw [ex_succ, ← vf_0 F x y n, vf]
    have h1 := vf_b F x y n
    have h2 := farS_nn (F 0 + (n : Int) * F 2) (F 1 + (n : Int) * F 3) x y
    omega
theorem vf_1 (F : Int → Int) (x y : Int) : ∀ n : Nat, vf F x y n ≤ 1 ↔ ∃ k : Nat, k < n ∧ farS (F 0 + (k : Int) * F 2) (F 1 + (k : Int) * F 3) x y ≤ 1
  | 0 => ⟨fun h => absurd h (by show ¬ (99 : Int) ≤ 1; omega), fun ⟨k, h, _⟩ => absurd h (by omega)⟩
  | n + 1 => by
    rw [ex_succ, ← vf_1 F x y n, vf]
    omega
theorem dist_far {a b p : Int} (h : inF a b) : dist (b * 20 + a) p = farS a b (p % 20) (p / 20) := by
  unfold dist farS
  rw [show (b * 20 + a) % 20 = a by omega, show (b * 20 + a) / 20 = b by omega]
theorem vp_0 {a b p : Int} (h : inF a b) : b * 20 + a = p ↔ farS a b (p % 20) (p / 20) = 0 := by
  rw [farS_0]; omega
theorem shl_step {s d : Int} (hs : s = 99 ∨ (1 ≤ s ∧ s ≤ 20)) (hd : 1 ≤ d ∧ d ≤ 20) : (if (if s = 99 then 0 else s) = 0 ∨ d < (if s = 99 then 0 else s) then d else (if s = 99 then 0 else s)) = (if min s d = 99 then 0 else min s d) := by
  rcases hs with e | e
  · subst e
    rw [if_pos rfl, if_pos (Or.inl rfl), if_neg (by omega)]; omega
  · rw [if_neg (show ¬ s = 99 by omega), if_neg (show ¬ min s d = 99 by omega)]
    by_cases w : d < s
    · rw [if_pos (Or.inr w)]; omega
    · rw [if_neg (by omega)]; omega
/-- a vein laid out: what the class holds then is what the law's own field has with a row more -/
theorem R_vcore (h : RS c t) (hT : IT t) {X Y DX DY dp fl : Int} {N : Nat} {F : Int → Int} (hn : t.1 2 < 6) (hdp : 1 ≤ dp ∧ dp ≤ 20) (hin : ∀ k : Nat, k < N → inF (X + (k : Int) * DX) (Y + (k : Int) * DY)) (hinj : ∀ i j : Nat, i < j → j < N → vpt X Y DX DY i ≠ vpt X Y DX DY j)
    (hv : VL F) (h5 : F 5 = dp) (h6 : F 6 = fl) (hit : ∀ p : Int, 0 ≤ p → p < 400 → ((∃ k : Nat, k < N ∧ vpt X Y DX DY k = p) ↔ vfar F (p % 20) (p / 20) = 0)) (hit1 : ∀ p : Int, 0 ≤ p → p < 400 → ((∃ k : Nat, k < N ∧ (vpt X Y DX DY k = p ∨ dist (vpt X Y DX DY k) p = 1)) ↔ vfar F (p % 20) (p / 20) ≤ 1)) : RS (lay (opn c dp fl) (c.1 2) X Y DX DY N) (sAdd t 0 F) := by
  have hs := hT.s
  have n2 : c.1 2 = t.1 2 := h.n.2.2.1
  have lr := lay_row (opn c dp fl) (c.1 2) X Y DX DY N
  have hz : ∀ p : Int, 0 ≤ p → p < 400 → (opn c dp fl).2 2 (c.1 2 * 400 + p) = 0 := fun p a b => h.v0 (c.1 2) p (by omega) (by omega) a b
  have l2 := lay_2 (z := opn c dp fl) (v := c.1 2) hin hz N (Nat.le_refl _)
  have l34 := lay_34 (z := opn c dp fl) (v := c.1 2) hinj N (Nat.le_refl _)
  generalize lay (opn c dp fl) (c.1 2) X Y DX DY N = L at lr l2 l34 ⊢
  obtain ⟨lr1, lr2, lr3⟩ := lr
  have e0 : L.2 0 = upZ (c.2 0) (c.1 2) dp := lr2 0 (by decide) (by decide) (by decide)
  have e1 : L.2 1 = upZ (c.2 1) (c.1 2) fl := lr2 1 (by decide) (by decide) (by decide)
  have e5 : L.2 5 = c.2 5 := lr2 5 (by decide) (by decide) (by decide)
  have e6 : L.2 6 = c.2 6 := lr2 6 (by decide) (by decide) (by decide)
  have e7 : L.2 7 = c.2 7 := lr2 7 (by decide) (by decide) (by decide)
  have e8 : L.2 8 = c.2 8 := lr2 8 (by decide) (by decide) (by decide)
  have e10 : L.2 10 = c.2 10 := lr2 10 (by decide) (by decide) (by decide)
  have e11 : L.2 11 = c.2 11 := lr2 11 (by decide) (by decide) (by decide)
  have e12 : L.2 12 = c.2 12 := lr2 12 (by decide) (by decide) (by decide)
  have e13 : L.2 13 = c.2 13 := lr2 13 (by decide) (by decide) (by decide)
  have e14 : L.2 14 = c.2 14 := lr2 14 (by decide) (by decide) (by decide)
  have e15 : L.2 15 = c.2 15 := lr2 15 (by decide) (by decide) (by decide)
  have r0 : ∀ i, (sAdd t 0 F).2 0 i = if i = t.1 2 then F else t.2 0 i := fun i => rfl
  have m2 : (sAdd t 0 F).1 2 = t.1 2 + 1 := rfl
  have lN : (t.1 2 + 1).toNat = (t.1 2).toNat + 1 := by omega
  have cN : (((t.1 2).toNat : Nat) : Int) = t.1 2 := by omega
  refine ⟨?_, fun i a b => ?_, fun i sp a b s0 s1 => ?_, fun sp a b => ?_, ?_, ?_, h.u2, h.u3, ?_, ?_, ?_, ?_, ?_, h.k⟩
  · unfold RSn
    rw [lr1]
    exact ⟨h.n.1, h.n.2.1, by show c.1 2 + 1 = t.1 2 + 1; omega, h.n.2.2.2.1, h.n.2.2.2.2⟩
  · rw [m2] at b
    rw [r0, e0, e1, n2]
    by_cases e : i = t.1 2
    · rw [if_pos e, e, upZ_same, upZ_same]
      refine ⟨h5.symm, h6.symm, hv, fun sp s0 s1 => ?_⟩
      obtain ⟨q1, q2, q3⟩ := l2 sp s0 s1
      rw [hit sp s0 s1] at q2
      rw [hit1 sp s0 s1] at q3
      have qb := vfar_b F (sp % 20) (sp / 20)
      rw [n2] at q1 q2 q3
      unfold lvl
      split
      · omega
      · split <;> omega
    · rw [if_neg e, upZ_ne e, upZ_ne e]
      have := h.v i a (by omega)
      refine ⟨this.1, this.2.1, this.2.2.1, fun sp s0 s1 => ?_⟩
      rw [lr3 _ (Or.inl (by omega))]
      exact this.2.2.2 sp s0 s1
  · rw [m2] at a
    rw [lr3 _ (Or.inr (by omega))]
    exact h.v0 i sp (by omega) b s0 s1
  · have hw := h.w sp a b
    have eW : sWat (sAdd t 0 F) (sp % 20) (sp / 20) = sWat t (sp % 20) (sp / 20) + (if vfar F (sp % 20) (sp / 20) = 0 then fl else 0) := by
      unfold sWat
      rw [m2, lN]
      show sm _ _ + sWt (sAdd t 0 F) _ _ (((t.1 2).toNat : Nat) : Int) = _
      have ej : ∀ j : Int, 0 ≤ j → j < (((t.1 2).toNat : Nat) : Int) → sWt (sAdd t 0 F) (sp % 20) (sp / 20) j = sWt t (sp % 20) (sp / 20) j := fun j j0 j1 => by
        have : (sAdd t 0 F).2 0 j = t.2 0 j := by rw [r0, if_neg (by omega)]
        unfold sWt; rw [this]
      have en : (sAdd t 0 F).2 0 (((t.1 2).toNat : Nat) : Int) = F := by rw [r0, if_pos cN]
      rw [sm_congr (f := sWt (sAdd t 0 F) (sp % 20) (sp / 20)) (f' := sWt t (sp % 20) (sp / 20)) (t.1 2).toNat ej]
      unfold sWt
      rw [en, h6]
    have eD : ∀ n : Nat, (n : Int) ≤ t.1 2 → sDp (sAdd t 0 F) (sp % 20) (sp / 20) n = sDp t (sp % 20) (sp / 20) n := by
      intro n
      induction n with
      | zero => intro _; rfl
      | succ n ih =>
        intro hh
        have ek : (sAdd t 0 F).2 0 ((n : Nat) : Int) = t.2 0 ((n : Nat) : Int) := by rw [r0, if_neg (by omega)]
        rw [sDp, sDp, ih (by omega), ek]
    have eD1 : sDp (sAdd t 0 F) (sp % 20) (sp / 20) ((t.1 2).toNat + 1) = if vfar F (sp % 20) (sp / 20) = 0 then min (sDp t (sp % 20) (sp / 20) (t.1 2).toNat) dp else sDp t (sp % 20) (sp / 20) (t.1 2).toNat := by
      have en : (sAdd t 0 F).2 0 (((t.1 2).toNat : Nat) : Int) = F := by rw [r0, if_pos cN]
      rw [sDp, eD _ (by omega), en, h5]
    have d20 := sDp20 hT (sp % 20) (sp / 20) (t.1 2).toNat (by omega)
    have w1 : c.2 4 sp = sDep t (sp % 20) (sp / 20) := hw.2
    rw [eW]
    unfold sDep at w1 ⊢
    rw [m2, lN, eD1]
    obtain ⟨q1, q2⟩ := l34 sp
    by_cases z : vfar F (sp % 20) (sp / 20) = 0
    · obtain ⟨p1, p2⟩ := q1 ((hit sp a b).mpr z)
      rw [if_pos z, if_pos z, p1, p2]
      have ez : (opn c dp fl).2 1 (c.1 2) = fl := upZ_same
      have ez0 : (opn c dp fl).2 0 (c.1 2) = dp := upZ_same
      refine ⟨by rw [ez, ← hw.1]; rfl, ?_⟩
      unfold shlw
      rw [ez0, show (opn c dp fl).2 4 sp = c.2 4 sp from rfl, w1]
      exact shl_step d20 hdp
    · obtain ⟨p1, p2⟩ := q2 (fun y => z ((hit sp a b).mp y))
      rw [if_neg z, if_neg z, p1, p2, Int.add_zero]
      exact ⟨hw.1, w1⟩
  · intro d a b; rw [e5, e6, e7]; exact h.d d a b
  · intro d a b; rw [e8]; exact h.p d a b
  · intro d a b; rw [e11, e12, e13]; exact h.q d a b
  · intro q d q0 q1 d0 d1; rw [e14, e15]; exact h.b q d q0 q1 d0 d1
  · unfold RSz; rw [e14, e13]; exact h.z
  · intro d a b; rw [e10]; exact h.a d a b
  · intro d a b
    have p5 : L.1 5 = c.1 5 := by rw [lr1]; rfl
    rw [pb_same p5 e12 e13 e14 e15, pb_same p5 e12 e13 e14 e15]
    exact h.r d a b
end RSB
section RSC
variable {c : CS} {t : SS} {B : Int}
theorem vn_eq (x y tx ty dp fl : Int) : (vrow x y tx ty dp fl 4 + 1).toNat = layN x y tx ty := by
  show (max (ab (x - tx)) (ab (y - ty)) + 1).toNat = _
  unfold layN
  rw [ab_comm x tx, ab_comm y ty]
theorem vpt_in {x y tx ty : Int} (hf : inF x y ∧ inF tx ty) (hs : strt x y tx ty) {k : Nat} (hk : k < layN x y tx ty) : inF (x + (k : Int) * sgn (tx - x)) (y + (k : Int) * sgn (ty - y)) := by
  unfold layN at hk
  have a1 := ab_cs (tx - x)
  have a2 := ab_cs (ty - y)
  rcases sgn_cs (tx - x) with ⟨e1, _⟩ | ⟨e1, _⟩ | ⟨e1, _⟩ <;> rcases sgn_cs (ty - y) with ⟨e2, _⟩ | ⟨e2, _⟩ | ⟨e2, _⟩ <;> rw [e1, e2] <;> omega
theorem v_hit {x y tx ty dp fl : Int} (hf : inF x y ∧ inF tx ty) (hs : strt x y tx ty) (p : Int) : (∃ k : Nat, k < layN x y tx ty ∧ vpt x y (sgn (tx - x)) (sgn (ty - y)) k = p) ↔ vfar (vrow x y tx ty dp fl) (p % 20) (p / 20) = 0 := by
  unfold vfar
  rw [vn_eq, vf_0]
  constructor
  · rintro ⟨k, hk, e⟩
    exact ⟨k, hk, (vp_0 (vpt_in hf hs hk)).mp e⟩
  · rintro ⟨k, hk, e⟩
    exact ⟨k, hk, (vp_0 (vpt_in hf hs hk)).mpr e⟩
theorem v_hit1 {x y tx ty dp fl : Int} (hf : inF x y ∧ inF tx ty) (hs : strt x y tx ty) (p : Int) : (∃ k : Nat, k < layN x y tx ty ∧ (vpt x y (sgn (tx - x)) (sgn (ty - y)) k = p ∨ dist (vpt x y (sgn (tx - x)) (sgn (ty - y)) k) p = 1)) ↔ vfar (vrow x y tx ty dp fl) (p % 20) (p / 20) ≤ 1 := by
  unfold vfar
  rw [vn_eq, vf_1]
  constructor
  · rintro ⟨k, hk, e⟩
    refine ⟨k, hk, ?_⟩
    have hi := vpt_in hf hs hk
    have n0 := farS_nn (x + (k : Int) * sgn (tx - x)) (y + (k : Int) * sgn (ty - y)) (p % 20) (p / 20)
    rcases e with e | e
    · have := (vp_0 hi).mp e
      show farS (x + (k : Int) * sgn (tx - x)) (y + (k : Int) * sgn (ty - y)) (p % 20) (p / 20) ≤ 1
      omega
    · unfold vpt at e
      rw [dist_far hi] at e
      show farS (x + (k : Int) * sgn (tx - x)) (y + (k : Int) * sgn (ty - y)) (p % 20) (p / 20) ≤ 1
      omega
  · rintro ⟨k, hk, e⟩
    refine ⟨k, hk, ?_⟩
    have hi := vpt_in hf hs hk
    have n0 := farS_nn (x + (k : Int) * sgn (tx - x)) (y + (k : Int) * sgn (ty - y)) (p % 20) (p / 20)
    have e : farS (x + (k : Int) * sgn (tx - x)) (y + (k : Int) * sgn (ty - y)) (p % 20) (p / 20) ≤ 1 := e
    by_cases z : farS (x + (k : Int) * sgn (tx - x)) (y + (k : Int) * sgn (ty - y)) (p % 20) (p / 20) = 0
    · exact Or.inl ((vp_0 hi).mpr z)
    · refine Or.inr ?_
      unfold vpt
      rw [dist_far hi]; omega
theorem v_VL {x y tx ty dp fl : Int} (hf : inF x y ∧ inF tx ty) (hs : strt x y tx ty) : VL (vrow x y tx ty dp fl) := by
  have q1 := ab_cs (x - tx)
  have q2 := ab_cs (y - ty)
  have a1 := ab_comm x tx
  have a2 := ab_comm y ty
  refine ⟨fun k k0 k1 => ?_, ?_⟩
  · have k1 : k ≤ max (ab (x - tx)) (ab (y - ty)) := k1
    have hk : k.toNat < layN x y tx ty := by unfold layN; omega
    have := vpt_in hf hs hk
    rw [show ((k.toNat : Nat) : Int) = k by omega] at this
    exact this
  · show sgn (tx - x) ≠ 0 ∨ sgn (ty - y) ≠ 0 ∨ max (ab (x - tx)) (ab (y - ty)) = 0
    have s1 := sgn_cs (tx - x)
    have s2 := sgn_cs (ty - y)
    omega
theorem R_vein (h : RS c t) (hI : IC B c) (hT : IT t) {x y tx ty dp fl : Int} (hn : t.1 2 < 6) (hf : inF x y ∧ inF tx ty) (hs : strt x y tx ty) (hd : 1 ≤ dp ∧ dp ≤ 20) (hl : 1 ≤ fl ∧ fl ≤ 9) : RS (veinC c x y tx ty dp fl) (sAdd t 0 (vrow x y tx ty dp fl)) :=
  R_vcore h hT hn hd (fun k hk => vpt_in hf hs hk) (fun i j hij hj => vpt_inj rfl i j hij hj) (v_VL hf hs) rfl rfl (fun p _ _ => v_hit hf hs p) (fun p _ _ => v_hit1 hf hs p)
theorem layN_sym (x y tx ty : Int) : layN tx ty x y = layN x y tx ty := by unfold layN; rw [ab_comm x tx, ab_comm y ty]
theorem vpt_rev {x y tx ty : Int} (hs : strt x y tx ty) {k : Nat} (hk : k < layN x y tx ty) : vpt tx ty (sgn (x - tx)) (sgn (y - ty)) k = vpt x y (sgn (tx - x)) (sgn (ty - y)) (layN x y tx ty - 1 - k) := by
  obtain ⟨j, hj⟩ : ∃ j : Nat, j = layN x y tx ty - 1 - k := ⟨_, rfl⟩
  rw [← hj]
  unfold layN at hk hj
  have a1 := ab_cs (tx - x)
  have a2 := ab_cs (ty - y)
  unfold vpt
  have c1 : sgn (x - tx) = - sgn (tx - x) := by have := sgn_cs (x - tx); have := sgn_cs (tx - x); omega
  have c2 : sgn (y - ty) = - sgn (ty - y) := by have := sgn_cs (y - ty); have := sgn_cs (ty - y); omega
  rw [c1, c2]
  rcases sgn_cs (tx - x) with ⟨e1, _⟩ | ⟨e1, _⟩ | ⟨e1, _⟩ <;> rcases sgn_cs (ty - y) with ⟨e2, _⟩ | ⟨e2, _⟩ | ⟨e2, _⟩ <;> rw [e1, e2] <;> omega
theorem ex_rev {N : Nat} {P : Int → Prop} {f g : Nat → Int} (h : ∀ k, k < N → f k = g (N - 1 - k)) : (∃ k : Nat, k < N ∧ P (f k)) ↔ ∃ k : Nat, k < N ∧ P (g k) := by
  constructor
  · rintro ⟨k, hk, e⟩
    exact ⟨N - 1 - k, by omega, by rw [← h k hk]; exact e⟩
  · rintro ⟨k, hk, e⟩
    refine ⟨N - 1 - k, by omega, ?_⟩
    rw [h _ (by omega), show N - 1 - (N - 1 - k) = k by omega]
    exact e
theorem R_vein2 (h : RS c t) (hI : IC B c) (hT : IT t) {x y tx ty dp fl : Int} (hn : t.1 2 < 6) (hf : inF x y ∧ inF tx ty) (hs : strt x y tx ty) (hd : 1 ≤ dp ∧ dp ≤ 20) (hl : 1 ≤ fl ∧ fl ≤ 9) : RS (veinC c tx ty x y dp fl) (sAdd t 0 (vrow x y tx ty dp fl)) := by
  have hs2 : strt tx ty x y := by
    have q1 := ab_comm x tx
    have q2 := ab_comm y ty
    omega
  have hr : ∀ k, k < layN x y tx ty → vpt tx ty (sgn (x - tx)) (sgn (y - ty)) k = vpt x y (sgn (tx - x)) (sgn (ty - y)) (layN x y tx ty - 1 - k) := fun k hk => vpt_rev hs hk
  refine R_vcore h hT hn hd (fun k hk => vpt_in ⟨hf.2, hf.1⟩ hs2 hk) (fun i j hij hj => vpt_inj rfl i j hij hj) (v_VL hf hs) rfl rfl (fun p _ _ => ?_) (fun p _ _ => ?_)
  · rw [← v_hit hf hs p, layN_sym]
    exact ex_rev (P := fun z => z = p) hr
  · rw [← v_hit1 hf hs p, layN_sym]
    exact ex_rev (P := fun z => z = p ∨ dist z p = 1) hr
end RSC
section RSD
variable {c : CS} {t : SS} {B : Int}
theorem R_peg (h : RS c t) {x y : Int} (hf : inF x y) : c.2 8 (y * 20 + x) = if sPA t x y = -1 then -1 else t.2 2 (sPA t x y) 2 := by
  rw [h.p (y * 20 + x) (by omega) (by omega)]
  unfold pgS
  rw [show (y * 20 + x) % 20 = x by omega, show (y * 20 + x) / 20 = y by omega]
theorem R_at (h : RS c t) {x y : Int} (hf : inF x y) : c.2 10 (y * 20 + x) = sQA t x y := by
  rw [h.a (y * 20 + x) (by omega) (by omega), show (y * 20 + x) % 20 = x by omega, show (y * 20 + x) / 20 = y by omega]
theorem R_pegs (h : RS c t) (hT : IT t) {x y : Int} (hf : inF x y) : (c.2 8 (y * 20 + x) ≠ -1 ↔ 0 ≤ sPA t x y) ∧ -1 ≤ c.2 8 (y * 20 + x) ∧ c.2 8 (y * 20 + x) ≤ 4 := by
  have hs := hT.s
  have hb := sPA_b hT x y
  rw [R_peg h hf]
  by_cases e : sPA t x y = -1
  · rw [if_pos e]; omega
  · rw [if_neg e]
    have := hT.p (i := sPA t x y) (by omega)
    omega
theorem R_rod (h : RS c t) (hT : IT t) {d x y : Int} (hd : 0 ≤ d ∧ d < t.1 3) (hf : inF x y) : bendC c d (y * 20 + x) = sRod t d x y := by
  have n2 : c.1 2 = t.1 2 := h.n.2.2.1
  have hD := h.d d hd.1 hd.2
  have e1 : vbend c (y * 20 + x) (c.2 5 d) (c.1 2).toNat = sm (sRt t d x y) (t.1 2).toNat := by
    unfold vbend
    rw [n2]
    refine sm_congr _ (fun i i0 i1 => ?_)
    have hs := hT.s
    have hv := h.v i i0 (by omega)
    have hr := hv.2.2.2 (y * 20 + x) (by omega) (by omega)
    rw [show (y * 20 + x) % 20 = x by omega, show (y * 20 + x) / 20 = y by omega] at hr
    have hb := vfar_b (t.2 0 i) x y
    unfold vterm sRt
    rw [hr, hv.1, hv.2.1, hD.1]
    unfold lvl
    by_cases z : vfar (t.2 0 i) x y = 0
    · rw [if_pos z, if_pos rfl, if_pos (by omega), z]; simp
    · rw [if_neg z]
      by_cases z1 : vfar (t.2 0 i) x y = 1
      · rw [if_pos z1, if_neg (by decide), if_pos rfl, if_pos (by omega), z1]; rfl
      · rw [if_neg z1, if_neg (by decide), if_neg (by decide), if_neg (by omega)]
  unfold bendC sRod sRs
  rw [e1, hD.2.1]
  split <;> omega
theorem R_mrk (h : RS c t) (hT : IT t) {d x y : Int} (hd : 0 ≤ d ∧ d < t.1 3) (hf : inF x y) : mrk c d (y * 20 + x) ↔ (t.1 4 < 60 ∧ sPA t x y < 0 ∧ t.1 0 ≤ sRod t d x y) := by
  have n0 : c.1 0 = t.1 0 := h.n.1
  have n4 : c.1 4 = t.1 4 := h.n.2.2.2.2.1
  have hp := (R_pegs h hT hf).1
  have hr := R_rod h hT hd hf
  show ¬ (60 ≤ c.1 4 ∨ c.2 8 (y * 20 + x) ≠ -1 ∨ bendC c d (y * 20 + x) < c.1 0) ↔ _
  rw [hp, hr]
  omega
theorem sAdd_i {k : Nat} {G : Int → Int} (j : Int) : (sAdd t k G).2 k j = if j = t.1 (2 + k) then G else t.2 k j := by rw [sAdd_r]
theorem ff_add {k : Nat} {G : Int → Int} (h0 : 0 ≤ t.1 (2 + k)) (x y : Int) : ff (atP (sAdd t k G) k x y) (t.1 (2 + k) + 1).toNat = if ff (atP t k x y) (t.1 (2 + k)).toNat ≠ -1 then ff (atP t k x y) (t.1 (2 + k)).toNat else if G 0 = x ∧ G 1 = y then t.1 (2 + k) else -1 := by
  have cN : (((t.1 (2 + k)).toNat : Nat) : Int) = t.1 (2 + k) := by omega
  rw [show (t.1 (2 + k) + 1).toNat = (t.1 (2 + k)).toNat + 1 by omega, ff]
  have e : ff (atP (sAdd t k G) k x y) (t.1 (2 + k)).toNat = ff (atP t k x y) (t.1 (2 + k)).toNat := ff_congr _ (fun j j0 j1 => by
    show (sAdd t k G).2 k j 0 = x ∧ (sAdd t k G).2 k j 1 = y ↔ t.2 k j 0 = x ∧ t.2 k j 1 = y
    rw [sAdd_i, if_neg (by omega)])
  rw [e]
  by_cases z : ff (atP t k x y) (t.1 (2 + k)).toNat ≠ -1
  · rw [if_pos z, if_pos z]
  · rw [if_neg z, if_neg z]
    have e2 : atP (sAdd t k G) k x y (((t.1 (2 + k)).toNat : Nat) : Int) ↔ G 0 = x ∧ G 1 = y := by
      show (sAdd t k G).2 k (((t.1 (2 + k)).toNat : Nat) : Int) 0 = x ∧ (sAdd t k G).2 k (((t.1 (2 + k)).toNat : Nat) : Int) 1 = y ↔ _
      rw [sAdd_i, if_pos cN]
    by_cases w : G 0 = x ∧ G 1 = y
    · rw [if_pos (e2.mpr w), if_pos w, cN]
    · rw [if_neg (fun z => w (e2.mp z)), if_neg w]
theorem u_add {k : Nat} {G : Int → Int} (h0 : 0 ≤ t.1 (2 + k)) (hu : RSu t k) (hn : ff (atP t k (G 0) (G 1)) (t.1 (2 + k)).toNat = -1) : RSu (sAdd t k G) k := by
  intro i j i0 ij jn
  rw [sAdd_n] at jn
  rw [sAdd_r]
  show ¬ ((if i = t.1 (2 + k) then G else t.2 k i) 0 = (if j = t.1 (2 + k) then G else t.2 k j) 0 ∧ (if i = t.1 (2 + k) then G else t.2 k i) 1 = (if j = t.1 (2 + k) then G else t.2 k j) 1)
  rw [if_neg (show ¬ i = t.1 (2 + k) by omega)]
  by_cases e : j = t.1 (2 + k)
  · rw [if_pos e]
    have := ff_none _ hn i.toNat (by omega)
    rw [show ((i.toNat : Nat) : Int) = i by omega] at this
    exact this
  · rw [if_neg e]; exact hu i j i0 ij (by omega)
theorem sPA_add (hT : IT t) (G : Int → Int) (x y : Int) : sPA (sAdd t 2 G) x y = if sPA t x y ≠ -1 then sPA t x y else if G 0 = x ∧ G 1 = y then t.1 4 else -1 := ff_add (k := 2) hT.s.2.2.2.1.1 x y
theorem sQA_add (hT : IT t) (G : Int → Int) (x y : Int) : sQA (sAdd t 3 G) x y = if sQA t x y ≠ -1 then sQA t x y else if G 0 = x ∧ G 1 = y then t.1 5 else -1 := ff_add (k := 3) hT.s.2.2.2.2.1 x y
/-- a peg is marked, or not -/
theorem R_mrk1 (h : RS c t) (hT : IT t) {d x y : Int} (hd : 0 ≤ d ∧ d < t.1 3) (hf : inF x y) : RS (mrkC c d (y * 20 + x)) (skM t d x y) ∧ b01 (mrk c d (y * 20 + x)) = (skM t d x y).1 4 - t.1 4 := by
  have hm := R_mrk h hT hd hf
  have hs := hT.s
  unfold mrkC skM
  by_cases q : t.1 4 < 60 ∧ sPA t x y < 0 ∧ t.1 0 ≤ sRod t d x y
  · rw [if_pos (hm.mpr q), if_pos q, b01_t (hm.mpr q)]
    have hb := sPA_b hT x y
    have hm1 : sPA t x y = -1 := by omega
    refine ⟨⟨⟨h.n.1, h.n.2.1, h.n.2.2.1, h.n.2.2.2.1, by show c.1 4 + 1 = t.1 4 + 1; have := h.n.2.2.2.2.1; omega, h.n.2.2.2.2.2⟩, h.v, h.v0, RSw_congr h.w rfl rfl rfl rfl, h.d, fun sp a b => ?_, u_add (k := 2) hs.2.2.2.1.1 h.u2 hm1, h.u3, h.q, h.b, h.z, h.a, h.r, h.k⟩, by show 1 = t.1 4 + 1 - t.1 4; omega⟩
    have hp := h.p sp a b
    show upZ (c.2 8) (y * 20 + x) d sp = pgS (sAdd t 2 (prow x y d)) sp
    unfold pgS at hp ⊢
    have hb2 := sPA_b hT (sp % 20) (sp / 20)
    have r2 : ∀ i, (sAdd t 2 (prow x y d)).2 2 i = if i = t.1 4 then prow x y d else t.2 2 i := fun i => rfl
    by_cases e : sp = y * 20 + x
    · have ex : sp % 20 = x := by omega
      have ey : sp / 20 = y := by omega
      have ev : sPA (sAdd t 2 (prow x y d)) x y = t.1 4 := by rw [sPA_add hT, hm1, if_neg (fun z => z rfl), if_pos ⟨rfl, rfl⟩]
      rw [ex, ey, ev, if_neg (by omega), r2, if_pos rfl, ← e, upZ_same]
      rfl
    · rw [upZ_ne e, hp]
      have hne : ¬ (prow x y d 0 = sp % 20 ∧ prow x y d 1 = sp / 20) := by
        show ¬ (x = sp % 20 ∧ y = sp / 20)
        omega
      have ev : sPA (sAdd t 2 (prow x y d)) (sp % 20) (sp / 20) = sPA t (sp % 20) (sp / 20) := by
        rw [sPA_add hT, if_neg hne]
        split <;> omega
      rw [ev]
      by_cases z : sPA t (sp % 20) (sp / 20) = -1
      · rw [if_pos z, if_pos z]
      · rw [if_neg z, if_neg z, r2, if_neg (by omega)]
  · rw [if_neg (fun z => q (hm.mp z)), if_neg q, b01_f (fun z => q (hm.mp z))]
    exact ⟨h, by omega⟩
theorem wkC_go (h : RS c t) (hT : IT t) {d x y tx ty : Int} (hd : 0 ≤ d ∧ d < t.1 3) (hf : inF x y ∧ inF tx ty) : ∀ n : Nat, (n : Int) ≤ ab (tx - x) + 1 → RS (wkC c d (w1 x y tx) n) (skC t d x y tx ty n) ∧ wkR c d (w1 x y tx) n = (skC t d x y tx ty n).1 4 - t.1 4
  | 0, _ => ⟨h, by show (0 : Int) = t.1 4 - t.1 4; omega⟩
  | n + 1, hn => by
    obtain ⟨h1, h2⟩ := wkC_go h hT hd hf n (by omega)
    have q2 := ab_nn (ty - y)
    have hi := skC_IT hT hd hf n (by omega)
    have hc := skC_c t d x y tx ty n
    have hp := (pth hf (n : Int) (by omega)).1
    have ex : pX x tx (n : Int) = x + (n : Int) * sgn (tx - x) := if_pos (by omega)
    have ey : pY x tx y ty (n : Int) = y := if_pos (by omega)
    have hm := R_mrk1 h1 hi (d := d) (by rw [hc.2.2.2.1]; exact hd) hp
    have ep : pY x tx y ty (n : Int) * 20 + pX x tx (n : Int) = w1 x y tx n := by rw [ex, ey]; rfl
    rw [ep] at hm
    refine ⟨hm.1, ?_⟩
    show wkR c d (w1 x y tx) n + b01 (mrk (wkC c d (w1 x y tx) n) d (w1 x y tx n)) = _
    rw [hm.2, h2]
    show _ = (skM (skC t d x y tx ty n) d (pX x tx (n : Int)) (pY x tx y ty (n : Int))).1 4 - t.1 4
    omega
theorem wkC_go2 {c1 : CS} {d x y tx ty : Int} {N : Nat} (hN : (N : Int) = ab (tx - x) + 1) (h : RS c1 (skC t d x y tx ty N)) (hT : IT t) (hd : 0 ≤ d ∧ d < t.1 3) (hf : inF x y ∧ inF tx ty) : ∀ n : Nat, (n : Int) ≤ ab (ty - y) → RS (wkC c1 d (w2 y tx ty) n) (skC t d x y tx ty (N + n)) ∧ wkR c1 d (w2 y tx ty) n = (skC t d x y tx ty (N + n)).1 4 - (skC t d x y tx ty N).1 4
  | 0, _ => ⟨h, by show (0 : Int) = (skC t d x y tx ty N).1 4 - (skC t d x y tx ty N).1 4; omega⟩
  | n + 1, hn => by
    obtain ⟨h1, h2⟩ := wkC_go2 hN h hT hd hf n (by omega)
    have hi := skC_IT hT hd hf (N + n) (by omega)
    have hc := skC_c t d x y tx ty (N + n)
    have hp := (pth hf ((N + n : Nat) : Int) (by omega)).1
    have ex : pX x tx ((N + n : Nat) : Int) = tx := if_neg (by omega)
    have ey : pY x tx y ty ((N + n : Nat) : Int) = y + (((N + n : Nat) : Int) - ab (tx - x)) * sgn (ty - y) := if_neg (by omega)
    have hm := R_mrk1 h1 hi (d := d) (by rw [hc.2.2.2.1]; exact hd) hp
    have ep : pY x tx y ty ((N + n : Nat) : Int) * 20 + pX x tx ((N + n : Nat) : Int) = w2 y tx ty n := by
      rw [ex, ey, show ((N + n : Nat) : Int) - ab (tx - x) = (n : Int) + 1 by omega]; rfl
    rw [ep] at hm
    refine ⟨hm.1, ?_⟩
    show wkR c1 d (w2 y tx ty) n + b01 (mrk (wkC c1 d (w2 y tx ty) n) d (w2 y tx ty n)) = _
    rw [hm.2, h2]
    show _ = (skM (skC t d x y tx ty (N + n)) d (pX x tx ((N + n : Nat) : Int)) (pY x tx y ty ((N + n : Nat) : Int))).1 4 - (skC t d x y tx ty N).1 4
    omega
theorem R_walk (h : RS c t) (hI : IC B c) (hT : IT t) {d x y tx ty : Int} (hd : 0 ≤ d ∧ d < t.1 3) (hf : inF x y ∧ inF tx ty) : RS (walkC c d x y tx ty) (skW t d x y tx ty) ∧ walkR c d x y tx ty = (skW t d x y tx ty).1 4 - t.1 4 := by
  have q1 := ab_nn (tx - x)
  have q2 := ab_nn (ty - y)
  have hN : (((ab (tx - x) + 1).toNat : Nat) : Int) = ab (tx - x) + 1 := by omega
  obtain ⟨a1, a2⟩ := wkC_go h hT hd hf (ab (tx - x) + 1).toNat (by omega)
  obtain ⟨b1, b2⟩ := wkC_go2 hN a1 hT hd hf (ab (ty - y)).toNat (by omega)
  have e : (ab (tx - x) + 1).toNat + (ab (ty - y)).toNat = skN x y tx ty + 1 := by unfold skN; omega
  rw [e] at b1 b2
  refine ⟨b1, ?_⟩
  unfold walkR walkA
  rw [a2, b2]
  show _ = (skC t d x y tx ty (skN x y tx ty + 1)).1 4 - t.1 4
  omega
end RSD
section RSE
variable {c : CS} {t : SS} {B : Int}
/-- the peg of row k is the one found at its spot -/
theorem pg_at (hT : IT t) (hu : RSu t 2) {x y k : Int} (hk : 0 ≤ k ∧ k < t.1 4) (hx : t.2 2 k 0 = x ∧ t.2 2 k 1 = y) : sPA t x y = k := by
  have hs := hT.s
  have cK : ((k.toNat : Nat) : Int) = k := by omega
  unfold sPA
  rw [ff_hit (k := k.toNat) (ff_all _ (fun j hj z => hu (j : Int) k (by omega) (by omega) hk.2 ⟨z.1.trans hx.1.symm, z.2.trans hx.2.symm⟩)) (by rw [cK]; exact hx) _ (by omega), cK]
theorem pg_in {x y : Int} (h0 : 0 ≤ sPA t x y) : t.2 2 (sPA t x y) 0 = x ∧ t.2 2 (sPA t x y) 1 = y := ff_P _ (show ff (atP t 2 x y) _ ≠ -1 by have : 0 ≤ ff (atP t 2 x y) (t.1 4).toNat := h0; omega)
theorem pg_no (hT : IT t) {x y : Int} (h : ∀ k : Int, 0 ≤ k → k < t.1 4 → ¬ (t.2 2 k 0 = x ∧ t.2 2 k 1 = y)) : sPA t x y = -1 := ff_all _ (fun k hk z => h (k : Int) (by omega) (by have := hT.s; omega) z)
theorem pg_not (hT : IT t) {x y : Int} (h : sPA t x y = -1) {k : Int} (k0 : 0 ≤ k) (k1 : k < t.1 4) : ¬ (t.2 2 k 0 = x ∧ t.2 2 k 1 = y) := fun z => by
  have := ff_none _ h k.toNat (by have := hT.s; omega)
  rw [show ((k.toNat : Nat) : Int) = k by omega] at this
  exact this z
theorem sDel_i (j i : Int) : (sDel t j).2 2 i = if i < j then t.2 2 i else t.2 2 (i + 1) := rfl
theorem R_pull (h : RS c t) (hI : IC B c) (hT : IT t) {x y : Int} (hf : inF x y) (hk : 0 ≤ sPA t x y) : RS (pullC c x y) (sDel t (sPA t x y)) := by
  have hs := hT.s
  have hb := sPA_b hT x y
  have hj := pg_in hk
  obtain ⟨j, ej⟩ : ∃ j, j = sPA t x y := ⟨_, rfl⟩
  rw [← ej] at hk hb hj ⊢
  have hT' : IT (sDel t j) := IT_pull hT ⟨hk, hb.2⟩
  have m4 : (sDel t j).1 4 = t.1 4 - 1 := rfl
  have hu : RSu (sDel t j) 2 := by
    intro i k i0 ik kn
    have kn : k < t.1 4 - 1 := kn
    rw [sDel_i, sDel_i]
    by_cases e1 : i < j
    · rw [if_pos e1]
      by_cases e2 : k < j
      · rw [if_pos e2]; exact h.u2 i k i0 ik (show k < t.1 4 by omega)
      · rw [if_neg e2]; exact h.u2 i (k + 1) i0 (by omega) (show k + 1 < t.1 4 by omega)
    · rw [if_neg e1, if_neg (by omega)]; exact h.u2 (i + 1) (k + 1) (by omega) (by omega) (show k + 1 < t.1 4 by omega)
  refine ⟨⟨h.n.1, h.n.2.1, h.n.2.2.1, h.n.2.2.2.1, by show c.1 4 - 1 = t.1 4 - 1; have := h.n.2.2.2.2.1; omega, h.n.2.2.2.2.2⟩, h.v, h.v0, RSw_congr h.w rfl rfl rfl rfl, h.d, fun sp a b => ?_, hu, h.u3, h.q, h.b, h.z, h.a, h.r, h.k⟩
  have hp := h.p sp a b
  show upZ (c.2 8) (y * 20 + x) (-1) sp = pgS (sDel t j) sp
  unfold pgS at hp ⊢
  by_cases e : sp = y * 20 + x
  · have ex : sp % 20 = x := by omega
    have ey : sp / 20 = y := by omega
    have en : sPA (sDel t j) x y = -1 := pg_no hT' (fun k k0 k1 z => by
      have k1 : k < t.1 4 - 1 := k1
      rw [sDel_i] at z
      by_cases e1 : k < j
      · rw [if_pos e1] at z
        exact h.u2 k j k0 e1 hb.2 ⟨z.1.trans hj.1.symm, z.2.trans hj.2.symm⟩
      · rw [if_neg e1] at z
        exact h.u2 j (k + 1) hk (by omega) (show k + 1 < t.1 4 by omega) ⟨hj.1.trans z.1.symm, hj.2.trans z.2.symm⟩)
    rw [ex, ey, en, if_pos rfl, ← e, upZ_same]
  · rw [upZ_ne e, hp]
    have hb2 := sPA_b hT (sp % 20) (sp / 20)
    by_cases z : sPA t (sp % 20) (sp / 20) = -1
    · have en : sPA (sDel t j) (sp % 20) (sp / 20) = -1 := pg_no hT' (fun k k0 k1 w => by
        have k1 : k < t.1 4 - 1 := k1
        rw [sDel_i] at w
        by_cases e1 : k < j
        · rw [if_pos e1] at w
          exact pg_not hT z k0 (by omega) w
        · rw [if_neg e1] at w
          exact pg_not hT z (by omega) (by omega) w)
      rw [if_pos z, if_pos en]
    · have hi := pg_in (t := t) (x := sp % 20) (y := sp / 20) (by omega)
      have hne : sPA t (sp % 20) (sp / 20) ≠ j := fun w => by
        rw [w] at hi
        have h1 := hi.1.symm.trans hj.1
        have h2 := hi.2.symm.trans hj.2
        omega
      obtain ⟨i, ei⟩ : ∃ i, i = sPA t (sp % 20) (sp / 20) := ⟨_, rfl⟩
      rw [← ei] at hi hne z hb2 ⊢
      by_cases e1 : i < j
      · have ep : sPA (sDel t j) (sp % 20) (sp / 20) = i := pg_at hT' hu (k := i) ⟨by omega, by rw [m4]; omega⟩ (by rw [sDel_i, if_pos e1]; exact hi)
        rw [if_neg z, ep, if_neg z, sDel_i, if_pos e1]
      · have e3 : (sDel t j).2 2 (i - 1) = t.2 2 i := by rw [sDel_i, if_neg (by omega), show i - 1 + 1 = i by omega]
        have ep : sPA (sDel t j) (sp % 20) (sp / 20) = i - 1 := pg_at hT' hu (k := i - 1) ⟨by omega, by rw [m4]; omega⟩ (by rw [e3]; exact hi)
        rw [if_neg z, ep, if_neg (by omega), e3]
theorem sBt_0 {F : Int → Int} (h : ∀ j : Int, 4 ≤ j → j ≤ 8 → F j = 0) (f : Int) : sBt F f = 0 := by
  have := sm_congr (f := sBe F f) (f' := fun _ => 0) 5 (fun j a b => by
    unfold sBe
    rw [h (4 + j) (by omega) (by omega)]
    split <;> rfl)
  unfold sBt
  rw [this]
  rfl
/-- coins in bets on a pit that are not paid -/
def oB (t : SS) (q : Int) : Int := if sOv t q then 0 else sBt (t.2 3 q) 1 + sBt (t.2 3 q) 0
theorem sOpen_o (t : SS) : sOpen t = sm (oB t) (t.1 5).toNat := rfl
theorem sm_suc (f : Int → Int) (n : Nat) : sm f (n + 1) = sm f n + f (n : Int) := rfl
theorem R_pit (h : RS c t) (hI : IC B c) (hT : IT t) {x y : Int} (hf : inF x y) (hn : t.1 5 < 10) (ha : sQA t x y = -1) : RS (pitC c x y) (sAdd t 3 (qrow x y (sDep t x y))) := by
  have hs := hT.s
  have n5 : c.1 5 = t.1 5 := h.n.2.2.2.2.2
  have hw := h.w (y * 20 + x) (by omega) (by omega)
  rw [show (y * 20 + x) % 20 = x by omega, show (y * 20 + x) / 20 = y by omega] at hw
  have hd := sDep20 hT x y
  have r3 : ∀ i, (sAdd t 3 (qrow x y (sDep t x y))).2 3 i = if i = t.1 5 then qrow x y (sDep t x y) else t.2 3 i := fun i => rfl
  have z14 := h.z.1
  have z13 := h.z.2
  refine ⟨⟨h.n.1, h.n.2.1, h.n.2.2.1, h.n.2.2.2.1, h.n.2.2.2.2.1, by show c.1 5 + 1 = t.1 5 + 1; omega⟩, h.v, h.v0, RSw_congr h.w rfl rfl rfl rfl, h.d, h.p, h.u2, u_add (k := 3) hs.2.2.2.2.1 h.u3 ha, fun q q0 q1 => ?_, fun q d q0 q1 d0 d1 => ?_, ⟨fun q d q0 q1 d0 d1 => ?_, fun q q0 q1 => ?_⟩, fun sp a b => ?_, fun d a b => ?_, ?_⟩
  · have q1 : q < t.1 5 + 1 := q1
    rw [r3]
    show upZ (c.2 11) (c.1 5) (y * 20 + x) q = _ ∧ upZ (c.2 12) (c.1 5) (c.2 4 (y * 20 + x)) q = _ ∧ c.2 13 q = _ ∧ _
    rw [n5]
    by_cases e : q = t.1 5
    · rw [if_pos e, e, upZ_same, upZ_same, z13 (t.1 5) (Int.le_refl _) hn]
      exact ⟨rfl, hw.2, rfl, fun z => by show (0 : Int) ≤ sDep t x y; omega⟩
    · rw [if_neg e, upZ_ne e, upZ_ne e]; exact h.q q q0 (by omega)
  · have q1 : q < t.1 5 + 1 := q1
    rw [r3]
    show c.2 14 (q * 5 + d) = _ ∧ _
    by_cases e : q = t.1 5
    · rw [if_pos e, e]
      have e4 : qrow x y (sDep t x y) (4 + d) = 0 := by
        rcases (show d = 0 ∨ d = 1 ∨ d = 2 ∨ d = 3 ∨ d = 4 by omega) with w | w | w | w | w <;> subst w <;> rfl
      rw [e4, z14 (t.1 5) d (Int.le_refl _) hn d0 d1]
      exact ⟨rfl, fun z => absurd rfl z, fun _ => rfl⟩
    · rw [if_neg e]; exact h.b q d q0 (by omega) d0 d1
  · have q0 : t.1 5 + 1 ≤ q := q0
    exact z14 q d (by omega) q1 d0 d1
  · have q0 : t.1 5 + 1 ≤ q := q0
    exact z13 q (by omega) q1
  · have hq := h.a sp a b
    have hb2 := sQA_b hT (sp % 20) (sp / 20)
    show upZ (c.2 10) (y * 20 + x) (c.1 5) sp = _
    rw [sQA_add hT, n5]
    by_cases e : sp = y * 20 + x
    · have ex : sp % 20 = x := by omega
      have ey : sp / 20 = y := by omega
      rw [ex, ey, ha, if_neg (fun z => z rfl), if_pos ⟨rfl, rfl⟩, ← e, upZ_same]
    · have hne : ¬ (qrow x y (sDep t x y) 0 = sp % 20 ∧ qrow x y (sDep t x y) 1 = sp / 20) := by
        show ¬ (x = sp % 20 ∧ y = sp / 20)
        omega
      rw [upZ_ne e, if_neg hne, hq]
      split <;> omega
  · have := h.r d a b
    have b : d < t.1 3 := b
    have hz0 : c.2 14 ((((t.1 5).toNat : Nat) : Int) * 5 + d) = 0 := by
      rw [show (((t.1 5).toNat : Nat) : Int) = t.1 5 by omega]
      exact z14 (t.1 5) d (Int.le_refl _) hn a (by omega)
    have pb : ∀ rt, pbets (pitC c x y) d rt = pbets c d rt := fun rt => pb_new (n := (t.1 5).toNat) (by omega) (c.2 4 (y * 20 + x)) d rt hz0 (pitC c x y) rfl (by rw [show (((t.1 5).toNat : Nat) : Int) = c.1 5 by omega]; rfl) rfl rfl rfl
    rw [pb, pb]
    exact this
  · have hk := h.k
    refine ⟨hk.1, ?_⟩
    have eo : sOpen (sAdd t 3 (qrow x y (sDep t x y))) = sOpen t := by
      have cN : (((t.1 5).toNat : Nat) : Int) = t.1 5 := by omega
      rw [sOpen_o, sOpen_o]
      show sm _ (t.1 5 + 1).toNat = _
      rw [show (t.1 5 + 1).toNat = (t.1 5).toNat + 1 by omega, sm_suc]
      have e1 : oB (sAdd t 3 (qrow x y (sDep t x y))) (((t.1 5).toNat : Nat) : Int) = 0 := by
        unfold oB
        split
        · rfl
        · rw [r3, if_pos cN]
          have e4 : ∀ j : Int, 4 ≤ j → j ≤ 8 → qrow x y (sDep t x y) j = 0 := fun j a b => by
            rcases (show j = 4 ∨ j = 5 ∨ j = 6 ∨ j = 7 ∨ j = 8 by omega) with w | w | w | w | w <;> subst w <;> rfl
          rw [sBt_0 e4, sBt_0 e4]; rfl
      rw [e1, Int.add_zero]
      refine sm_congr _ (fun j j0 j1 => ?_)
      have ej : (sAdd t 3 (qrow x y (sDep t x y))).2 3 j = t.2 3 j := by rw [r3, if_neg (by omega)]
      unfold oB sOv
      rw [ej]
    show t.1 1 + sm (fun d => t.2 1 d 2) (t.1 3).toNat + _ = 50 * t.1 3
    rw [eo]
    exact hk.2
end RSE
section RSF
variable {c : CS} {t : SS} {B : Int}
theorem sm_upd {f : Int → Int} {d a : Int} (hd : 0 ≤ d) : ∀ n : Nat, sm (fun j => if j = d then a else f j) n = sm f n + (if d < (n : Int) then a - f d else 0)
  | 0 => by rw [if_neg (by omega)]; rfl
  | n + 1 => by
    rw [sm_suc, sm_suc, sm_upd hd n]
    by_cases e : (n : Int) = d
    · rw [if_pos e, if_neg (by omega), if_pos (by omega), e]; omega
    · rw [if_neg e]
      by_cases w : d < (n : Int)
      · rw [if_pos w, if_pos (by omega)]; omega
      · rw [if_neg w, if_neg (by omega)]; omega
theorem R_over (h : RS c t) (hT : IT t) {q : Int} (hq : 0 ≤ q ∧ q < t.1 5) : over c q ↔ sOv t q := by
  obtain ⟨-, h2, h3, h4⟩ := h.q q hq.1 hq.2
  have hb := hT.q hq
  show ((0 < c.2 12 q ∧ c.2 12 q ≤ c.2 13 q) ∨ 20 ≤ c.2 13 q) ↔ (t.2 3 q 3 = 20 ∨ (0 < t.2 3 q 2 ∧ t.2 3 q 3 = t.2 3 q 2))
  omega
theorem R_fnd (h : RS c t) (hT : IT t) {q : Int} (hq : 0 ≤ q ∧ q < t.1 5) : fnd c q ↔ (0 < t.2 3 q 2 ∧ t.2 3 q 2 ≤ t.2 3 q 3) := by
  obtain ⟨-, h2, h3, h4⟩ := h.q q hq.1 hq.2
  show (0 < c.2 12 q ∧ c.2 12 q ≤ c.2 13 q) ↔ _
  rw [h2, h3]
theorem ab_0 (x : Int) : ab x = 0 ↔ x = 0 := by have := ab_cs x; omega
theorem kBet_3 (h : RS c t) {d q co9 : Int} (hd : 0 ≤ d ∧ d < t.1 3) (hq : 0 ≤ q ∧ q < t.1 5) (hc : 1 ≤ co9 ∧ co9 ≤ 99) (hT : IT t) : kBet c d q co9 = if t.2 3 q 3 = 0 ∧ t.2 3 q (4 + d) = 0 ∧ co9 ≤ t.2 1 d 2 then 0 else 3 := by
  have hs := hT.s
  have n3 : c.1 3 = t.1 3 := h.n.2.2.2.1
  have n5 : c.1 5 = t.1 5 := h.n.2.2.2.2.2
  obtain ⟨-, h2, h3, h4⟩ := h.q q hq.1 hq.2
  have hb := hT.q hq
  have h14 := (h.b q d hq.1 hq.2 hd.1 (by omega)).1
  have h7 := (h.d d hd.1 hd.2).2.2.1
  have a0 := ab_0 (t.2 3 q (4 + d))
  have a1 := ab_nn (t.2 3 q (4 + d))
  unfold kBet
  rw [if_neg (fun z => z ⟨⟨hd.1, by omega⟩, hq.1, by omega⟩), if_neg (fun z => z hc), h3, h14, h7]
  by_cases w : t.2 3 q 3 = 0 ∧ t.2 3 q (4 + d) = 0 ∧ co9 ≤ t.2 1 d 2
  · rw [if_neg (by omega), if_pos w]
  · rw [if_pos (by omega), if_neg w]
theorem sQA_congr {t' : SS} (hn : t'.1 5 = t.1 5) (h : ∀ i, t'.2 3 i 0 = t.2 3 i 0 ∧ t'.2 3 i 1 = t.2 3 i 1) (x y : Int) : sQA t' x y = sQA t x y := by
  unfold sQA
  rw [hn]
  refine ff_congr _ (fun j _ _ => ?_)
  show t'.2 3 j 0 = x ∧ t'.2 3 j 1 = y ↔ t.2 3 j 0 = x ∧ t.2 3 j 1 = y
  rw [(h j).1, (h j).2]
theorem u3_congr {t' : SS} (hu : RSu t 3) (hn : t'.1 5 = t.1 5) (h : ∀ i, t'.2 3 i 0 = t.2 3 i 0 ∧ t'.2 3 i 1 = t.2 3 i 1) : RSu t' 3 := fun i j i0 ij jn => by
  rw [(h i).1, (h i).2, (h j).1, (h j).2]
  exact hu i j i0 ij (by show j < t.1 5; rw [← hn]; exact jn)
theorem up2_o {F : Int → Int → Int} {i f v : Int} (j k : Int) (h : k ≠ f) : up2 F i f v j k = F j k := by
  by_cases e : j = i
  · subst e; exact up2_at' h
  · rw [up2_ne e]
theorem sBe_c (F : Int → Int) {d : Int} : sBe F 1 d + sBe F 0 d = ab (F (4 + d)) := by
  unfold sBe
  by_cases w : 0 < F (4 + d)
  · rw [b01_t w, if_pos rfl, if_neg (by decide)]; omega
  · rw [b01_f w, if_neg (by decide), if_pos rfl]; omega
theorem sBt_up {F : Int → Int} {d v : Int} (hd : 0 ≤ d ∧ d < 5) (f : Int) : sBt (upZ F (4 + d) v) f = sBt F f + (sBe (upZ F (4 + d) v) f d - sBe F f d) := by
  unfold sBt
  have e := sm_congr (f := sBe (upZ F (4 + d) v) f) (f' := fun j => if j = d then sBe (upZ F (4 + d) v) f d else sBe F f j) 5 (fun j j0 j1 => by
    show sBe (upZ F (4 + d) v) f j = if j = d then sBe (upZ F (4 + d) v) f d else sBe F f j
    by_cases w : j = d
    · rw [if_pos w, w]
    · rw [if_neg w]
      unfold sBe
      rw [upZ_ne (by omega)])
  rw [e, sm_upd hd.1, if_pos (by omega)]
theorem R_bet (h : RS c t) (hI : IC B c) (hT : IT t) {d q co9 f v : Int} (hd : 0 ≤ d ∧ d < t.1 3) (hq : 0 ≤ q ∧ q < t.1 5) (hc : 1 ≤ co9 ∧ co9 ≤ 99) (hv : (f = 1 ∧ v = co9) ∨ (f = 0 ∧ v = -co9)) (hg : t.2 3 q 3 = 0) (hb : t.2 3 q (4 + d) = 0) (hm : co9 ≤ t.2 1 d 2) : RS (betC c d q co9 f) (sBet t d q co9 v) := by
  have hs := hT.s
  have hQ := hT.q hq
  have n5 : c.1 5 = t.1 5 := h.n.2.2.2.2.2
  have r3 : (sBet t d q co9 v).2 3 = up2 (t.2 3) q (4 + d) v := rfl
  have r1 : (sBet t d q co9 v).2 1 = up2 (t.2 1) d 2 (t.2 1 d 2 - co9) := rfl
  have pos : ∀ i, (sBet t d q co9 v).2 3 i 0 = t.2 3 i 0 ∧ (sBet t d q co9 v).2 3 i 1 = t.2 3 i 1 := fun i => by
    rw [r3]; exact ⟨up2_o i 0 (by omega), up2_o i 1 (by omega)⟩
  have c23 : ∀ i, (sBet t d q co9 v).2 3 i 2 = t.2 3 i 2 ∧ (sBet t d q co9 v).2 3 i 3 = t.2 3 i 3 := fun i => by
    rw [r3]; exact ⟨up2_o i 2 (by omega), up2_o i 3 (by omega)⟩
  have hno : ¬ over c q := fun z => by
    have := (R_over h hT hq).mp z
    omega
  have av : ab v = co9 := by have := ab_cs v; omega
  have bv : b01 (0 < v) = f := by
    rcases hv with ⟨e1, e2⟩ | ⟨e1, e2⟩
    · rw [b01_t (by omega), e1]
    · rw [b01_f (by omega), e1]
  refine ⟨h.n, h.v, h.v0, RSw_congr h.w rfl rfl rfl rfl, fun i a b => ?_, h.p, h.u2, u3_congr h.u3 rfl pos, fun i a b => ?_, fun i j a b e0 e1 => ?_, ⟨fun i j a b e0 e1 => ?_, h.z.2⟩, fun sp a b => ?_, fun i a b => ?_, ?_⟩
  · have hi := h.d i a b
    rw [r1, up2_o i 0 (by omega), up2_o i 1 (by omega)]
    show c.2 5 i = _ ∧ c.2 6 i = _ ∧ upZ (c.2 7) d (c.2 7 d - co9) i = _ ∧ _
    have h7 := (h.d d hd.1 hd.2).2.2.1
    by_cases e : i = d
    · rw [e, upZ_same, up2_at, ← h7]
      rw [e] at hi
      exact ⟨hi.1, hi.2.1, rfl, by omega⟩
    · rw [upZ_ne e, up2_ne e]; exact hi
  · have hi := h.q i a b
    rw [(pos i).1, (pos i).2, (c23 i).1, (c23 i).2]
    exact hi
  · have hi := h.b i j a b e0 e1
    rw [r3]
    show upZ (c.2 14) (q * 5 + d) co9 (i * 5 + j) = _ ∧ (_ → upZ (c.2 15) (q * 5 + d) f (i * 5 + j) = _) ∧ (t.1 3 ≤ j → _)
    by_cases e : i = q ∧ j = d
    · obtain ⟨rfl, rfl⟩ := e
      rw [up2_at, upZ_same, upZ_same, av, bv]
      exact ⟨rfl, fun _ => rfl, fun z => absurd z (by omega)⟩
    · have ne : i * 5 + j ≠ q * 5 + d := by omega
      have ev : up2 (t.2 3) q (4 + d) v i (4 + j) = t.2 3 i (4 + j) := by
        by_cases w : i = q
        · subst w; exact up2_at' (by omega)
        · rw [up2_ne w]
      rw [upZ_ne ne, upZ_ne ne, ev]; exact hi
  · have a : t.1 5 ≤ i := a
    have ne : i * 5 + j ≠ q * 5 + d := by omega
    show upZ (c.2 14) (q * 5 + d) co9 (i * 5 + j) = 0
    rw [upZ_ne ne]; exact h.z.1 i j a b e0 e1
  · rw [sQA_congr (t := t) (t' := sBet t d q co9 v) rfl pos]; exact h.a sp a b
  · have hi := h.r i a b
    have b : i < t.1 3 := b
    have pb : ∀ rt, pbets (betC c d q co9 f) i rt = pbets c i rt := fun rt => by
      unfold pbets
      refine sm_congr _ (fun k k0 k1 => ?_)
      have k1 : k < (((c.1 5).toNat : Nat) : Int) := k1
      show b01 ((over c k ∧ 0 < upZ (c.2 14) (q * 5 + d) co9 (k * 5 + i)) ∧ b01 (upZ (c.2 15) (q * 5 + d) f (k * 5 + i) = b01 (fnd c k)) = rt) = _
      by_cases e : k = q
      · subst e
        rw [b01_f (fun z => hno z.1.1), b01_f (fun z => hno z.1.1)]
      · rw [upZ_ne (by omega), upZ_ne (by omega)]
    rw [pb, pb, r1, up2_o i 3 (by omega), up2_o i 4 (by omega)]
    exact hi
  · have hk := h.k
    refine ⟨hk.1, ?_⟩
    have e1 : sm (fun i => (sBet t d q co9 v).2 1 i 2) (t.1 3).toNat = sm (fun i => t.2 1 i 2) (t.1 3).toNat - co9 := by
      have e := sm_congr (f := fun i => (sBet t d q co9 v).2 1 i 2) (f' := fun j => if j = d then t.2 1 d 2 - co9 else t.2 1 j 2) (t.1 3).toNat (fun j j0 j1 => by
        show up2 (t.2 1) d 2 (t.2 1 d 2 - co9) j 2 = if j = d then t.2 1 d 2 - co9 else t.2 1 j 2
        by_cases w : j = d
        · rw [if_pos w, w, up2_at]
        · rw [if_neg w, up2_ne w])
      rw [e, sm_upd (f := fun i => t.2 1 i 2) hd.1, if_pos (by omega)]; omega
    have e2 : sOpen (sBet t d q co9 v) = sOpen t + co9 := by
      rw [sOpen_o, sOpen_o]
      show sm _ (t.1 5).toNat = _
      have so : ∀ j, sOv (sBet t d q co9 v) j ↔ sOv t j := fun j => by
        unfold sOv
        rw [(c23 j).1, (c23 j).2]
      have hn : ¬ sOv t q := fun z => hno ((R_over h hT hq).mpr z)
      have e := sm_congr (f := oB (sBet t d q co9 v)) (f' := fun j => if j = q then oB t q + co9 else oB t j) (t.1 5).toNat (fun j j0 j1 => by
        show oB (sBet t d q co9 v) j = if j = q then oB t q + co9 else oB t j
        by_cases w : j = q
        · rw [if_pos w, w]
          unfold oB
          rw [if_neg (fun z => hn ((so q).mp z)), if_neg hn, r3, up2_r, sBt_up ⟨hd.1, by omega⟩, sBt_up ⟨hd.1, by omega⟩]
          have s1 := sBe_c (upZ (t.2 3 q) (4 + d) v) (d := d)
          have s2 := sBe_c (t.2 3 q) (d := d)
          rw [upZ_same, av] at s1
          rw [hb] at s2
          have a0 := (ab_0 0).mpr rfl
          omega
        · rw [if_neg w]
          unfold oB
          have ej : (sBet t d q co9 v).2 3 j = t.2 3 j := by rw [r3, up2_ne w]
          by_cases z : sOv t j
          · rw [if_pos z, if_pos ((so j).mpr z)]
          · rw [if_neg z, if_neg (fun y => z ((so j).mp y)), ej])
      rw [e, sm_upd hq.1, if_pos (by omega)]; omega
    show t.1 1 + sm (fun i => (sBet t d q co9 v).2 1 i 2) (t.1 3).toNat + _ = 50 * t.1 3
    rw [e1, e2]
    have := hk.2
    omega
end RSF
section RSG
variable {c : CS} {t : SS} {B : Int}
theorem sGt_e {F : Int → Int} (d f : Int) : sGt F d f = sBe F f d * (sBt F 1 + sBt F 0) / sBt F f := by
  unfold sGt sBe
  by_cases w : b01 (0 < F (4 + d)) = f
  · rw [if_pos w]
    by_cases z : F (4 + d) = 0
    · rw [if_pos (Or.inl z), z, (ab_0 0).mpr rfl, Int.zero_mul, Int.zero_ediv]
    · rw [if_neg (by rintro (y | y); exact z y; exact y w)]
  · rw [if_neg w, if_pos (Or.inr w), Int.zero_mul, Int.zero_ediv]
theorem R_stk (h : RS c t) {q d f : Int} (hq : 0 ≤ q ∧ q < t.1 5) (hd : 0 ≤ d ∧ d < 5) : stk c q d f = sBe (t.2 3 q) f d := by
  obtain ⟨h1, h2, -⟩ := h.b q d hq.1 hq.2 hd.1 hd.2
  unfold stk sBe
  rw [h1]
  by_cases z : t.2 3 q (4 + d) = 0
  · rw [z, (ab_0 0).mpr rfl]
    split <;> split <;> rfl
  · rw [h2 z]
theorem R_stOn (h : RS c t) {q f : Int} (hq : 0 ≤ q ∧ q < t.1 5) : stOn c q f = sBt (t.2 3 q) f := sm_congr 5 (fun j a b => R_stk h hq ⟨a, by omega⟩)
theorem R_shr (h : RS c t) {q d f : Int} (hq : 0 ≤ q ∧ q < t.1 5) (hd : 0 ≤ d ∧ d < 5) : shr c q d f = sGt (t.2 3 q) d f := by
  unfold shr allS
  rw [sGt_e, R_stk h hq hd, R_stOn h hq, R_stOn h hq, R_stOn h hq, Int.mul_comm]
/-- shares rounded down come to no more than all -/
theorem shares_le {s : Int → Int} {a S : Int} (hs : ∀ j : Int, 0 ≤ s j) (ha : 0 ≤ a) : ∀ n : Nat, sm s n ≤ S → sm (fun d => s d * a / S) n ≤ a ∧ 0 ≤ sm (fun d => s d * a / S) n := by
  have nn : ∀ n, 0 ≤ sm s n := fun n => sm_nn hs n
  intro n hn
  have hS0 : 0 ≤ S := Int.le_trans (nn n) hn
  refine ⟨?_, sm_nn (fun j => Int.ediv_nonneg (Int.mul_nonneg (hs j) ha) hS0) n⟩
  by_cases z : S = 0
  · have e := sm_congr (f := fun d => s d * a / S) (f' := fun _ => 0) n (fun j _ _ => by show s j * a / S = 0; rw [z, Int.ediv_zero])
    have e0 : ∀ n : Nat, sm (fun _ => (0 : Int)) n = 0 := fun n => by induction n with
      | zero => rfl
      | succ n ih => rw [sm_suc, ih]; rfl
    rw [e, e0]; exact ha
  · have hS : 0 < S := by omega
    have key : ∀ n : Nat, S * sm (fun d => s d * a / S) n ≤ sm s n * a := by
      intro n
      induction n with
      | zero => show S * 0 ≤ 0 * a; rw [Int.mul_zero, Int.zero_mul]; exact Int.le_refl _
      | succ n ih =>
        rw [sm_suc, sm_suc, Int.mul_add, Int.add_mul]
        have := Int.mul_ediv_self_le (x := s (n : Int) * a) (k := S) (by omega)
        omega
    have h1 := key n
    have h2 : sm s n * a ≤ S * a := Int.mul_le_mul_of_nonneg_right hn ha
    exact Int.le_of_mul_le_mul_left (Int.le_trans h1 h2) hS
theorem sBe_nn (F : Int → Int) (f d : Int) : 0 ≤ sBe F f d := by
  have := ab_nn (F (4 + d))
  unfold sBe
  split <;> omega
theorem sBt_nn (F : Int → Int) (f : Int) : 0 ≤ sBt F f := sm_nn (sBe_nn F f) 5
theorem sm_mono {f : Int → Int} (hf : ∀ j : Int, 0 ≤ f j) {n m : Nat} (h : n ≤ m) : sm f n ≤ sm f m := by
  induction m with
  | zero => rw [show n = 0 by omega]; exact Int.le_refl _
  | succ m ih =>
    by_cases e : n = m + 1
    · rw [e]; exact Int.le_refl _
    · have := ih (by omega)
      have := hf (m : Int)
      rw [sm_suc]; omega
theorem gets_le (F : Int → Int) (f : Int) {n : Nat} (hn : n ≤ 5) : sm (fun d => sGt F d f) n ≤ sBt F 1 + sBt F 0 ∧ 0 ≤ sm (fun d => sGt F d f) n := by
  have e := sm_congr (f := fun d => sGt F d f) (f' := fun d => sBe F f d * (sBt F 1 + sBt F 0) / sBt F f) n (fun j _ _ => sGt_e j f)
  rw [e]
  have h1 := sBt_nn F 1
  have h0 := sBt_nn F 0
  exact shares_le (sBe_nn F f) (by omega) n (sm_mono (sBe_nn F f) hn)
-- digging
theorem sDg_min {q : Int} (hQ : QB (t.2 3 q)) (hl : 0 < t.2 3 q 2 → t.2 3 q 3 ≤ t.2 3 q 2) : ∀ n : Nat, sDg t q n = min (if 0 < t.2 3 q 2 then t.2 3 q 2 else 20) (t.2 3 q 3 + n)
  | 0 => by
    show t.2 3 q 3 = _
    have h3 := hQ.2.2.2.1
    split
    · have := hl (by assumption); omega
    · omega
  | n + 1 => by
    rw [sDg, sDg_min hQ hl n]
    have h3 := hQ.2.2.2.1
    have h2 := hQ.2.2.1
    by_cases w : 0 < t.2 3 q 2
    · have := hl w
      rw [if_pos w]
      split <;> omega
    · rw [if_neg w]
      split <;> omega
theorem R_dpn (h : RS c t) (hT : IT t) {q by9 : Int} (hq : 0 ≤ q ∧ q < t.1 5) (hb : 1 ≤ by9 ∧ by9 ≤ 20) : dpn c q by9 = sDg t q by9.toNat := by
  obtain ⟨-, h2, h3, h4⟩ := h.q q hq.1 hq.2
  rw [sDg_min (hT.q hq) h4]
  unfold dpn
  rw [h2, h3, show ((by9.toNat : Nat) : Int) = by9 by omega]
theorem sPy_1 (t : SS) (q f d g : Int) : (sPy t q f d g).1 1 = t.1 1 - g := by
  unfold sPy
  split <;> rfl
theorem sPy_2 (t : SS) (q f d g j : Int) : (sPy t q f d g).2 1 j 2 = if j = d then t.2 1 j 2 + g else t.2 1 j 2 := by
  have e : up2 (t.2 1) d 2 (t.2 1 d 2 + g) j 2 = if j = d then t.2 1 j 2 + g else t.2 1 j 2 := by
    by_cases w : j = d
    · rw [if_pos w, w, up2_at]
    · rw [if_neg w, up2_ne w]
  unfold sPy
  split
  · exact e
  · show up2 (up2 (t.2 1) d 2 (t.2 1 d 2 + g)) d (if _ then 3 else 4) _ j 2 = _
    rw [up2_o j 2 (by split <;> decide)]
    exact e
theorem sPy_34 (t : SS) (q f d g j : Int) {w : Int} (hw : w = 3 ∨ w = 4) : (sPy t q f d g).2 1 j w = t.2 1 j w + b01 (j = d ∧ t.2 3 q (4 + d) ≠ 0 ∧ (if b01 (0 < t.2 3 q (4 + d)) = f then (3 : Int) else 4) = w) := by
  have e : up2 (t.2 1) d 2 (t.2 1 d 2 + g) j w = t.2 1 j w := up2_o j w (by omega)
  unfold sPy
  by_cases z : t.2 3 q (4 + d) = 0
  · rw [if_pos z, b01_f (fun y => y.2.1 z), Int.add_zero]
    exact e
  · rw [if_neg z]
    obtain ⟨k, hk⟩ : ∃ k : Int, k = if b01 (0 < t.2 3 q (4 + d)) = f then 3 else 4 := ⟨_, rfl⟩
    rw [← hk]
    show up2 (up2 (t.2 1) d 2 (t.2 1 d 2 + g)) d k (up2 (t.2 1) d 2 (t.2 1 d 2 + g) d k + 1) j w = _
    by_cases y : j = d ∧ k = w
    · obtain ⟨rfl, rfl⟩ := y
      rw [up2_at, b01_t ⟨rfl, z, rfl⟩, e]
    · rw [b01_f (fun x => y ⟨x.1, x.2.2⟩), Int.add_zero]
      by_cases v : j = d
      · rw [up2_o j w (fun x => y ⟨v, x.symm⟩)]; exact e
      · rw [up2_ne v]; exact e
/-- what paying n dowsers comes to -/
theorem sPay_v (t : SS) (q f : Int) : ∀ n : Nat, (sPay t q f n).1 1 = t.1 1 + (sBt (t.2 3 q) 1 + sBt (t.2 3 q) 0) - sm (fun d => sGt (t.2 3 q) d f) n ∧ (∀ j : Int, (sPay t q f n).2 1 j 2 = if 0 ≤ j ∧ j < (n : Int) then t.2 1 j 2 + sGt (t.2 3 q) j f else t.2 1 j 2) ∧ ∀ j w : Int, (w = 3 ∨ w = 4) → (sPay t q f n).2 1 j w = t.2 1 j w + b01 ((0 ≤ j ∧ j < (n : Int)) ∧ t.2 3 q (4 + j) ≠ 0 ∧ (if b01 (0 < t.2 3 q (4 + j)) = f then (3 : Int) else 4) = w)
  | 0 => ⟨by show t.1 1 + _ = t.1 1 + _ - 0; rw [Int.sub_zero], fun j => by rw [if_neg (by omega)]; rfl, fun j w hw => by rw [b01_f (by omega), Int.add_zero]; rfl⟩
  | n + 1 => by
    obtain ⟨h1, h2, h3⟩ := sPay_v t q f n
    have e3 := (sPay_3 t q f n).1
    refine ⟨?_, fun j => ?_, fun j w hw => ?_⟩
    · rw [sPay, sPy_1, h1, e3, sm_suc]; omega
    · rw [sPay, sPy_2, h2, e3]
      by_cases e : j = (n : Int)
      · rw [if_pos e, if_neg (by omega), if_pos (by omega), e]
      · rw [if_neg e]
        by_cases z : 0 ≤ j ∧ j < (n : Int)
        · rw [if_pos z, if_pos (by omega)]
        · rw [if_neg z, if_neg (by omega)]
    · rw [sPay, sPy_34 _ q f _ _ j hw, h3 j w hw, e3]
      by_cases e : j = (n : Int)
      · rw [b01_f (fun z => by omega), Int.add_zero, ← e]
        congr 1
        exact b01_congr ⟨fun z => ⟨by omega, z.2⟩, fun z => ⟨rfl, z.2⟩⟩
      · rw [b01_f (P := j = (n : Int) ∧ t.2 3 q (4 + (n : Int)) ≠ 0 ∧ (if b01 (0 < t.2 3 q (4 + (n : Int))) = f then (3 : Int) else 4) = w) (fun z => e z.1), Int.add_zero]
        congr 1
        exact b01_congr ⟨fun z => ⟨by omega, z.2⟩, fun z => ⟨by omega, z.2⟩⟩
end RSG
section RSH
variable {c : CS} {t : SS} {B : Int}
theorem sBe_3 (F : Int → Int) (v f : Int) {d : Int} (hd : 0 ≤ d) : sBe (upZ F 3 v) f d = sBe F f d := by
  unfold sBe
  rw [upZ_ne (by omega)]
theorem sBt_3 (F : Int → Int) (v f : Int) : sBt (upZ F 3 v) f = sBt F f := sm_congr 5 (fun j a _ => sBe_3 F v f a)
theorem sGt_3 (F : Int → Int) (v f : Int) {d : Int} (hd : 0 ≤ d) : sGt (upZ F 3 v) d f = sGt F d f := by
  rw [sGt_e, sGt_e, sBe_3 F v f hd, sBt_3, sBt_3, sBt_3]
theorem left_v (c : CS) (q f : Int) : ∀ n : Nat, left c q f n = allS c q - sm (fun d => shr c q d f) n
  | 0 => by show allS c q = allS c q - 0; rw [Int.sub_zero]
  | n + 1 => by
    show left c q f n - shr (payD c q f n) q (n : Int) f = _
    rw [left_v c q f n, payD_shr, sm_suc]; omega
theorem R_dgen (h : RS c t) {X : CS} {Y : SS} {q v : Int} (hq : 0 ≤ q ∧ q < t.1 5) (a : ∀ k : Nat, k ≠ 1 → X.1 k = c.1 k) (a1 : X.1 1 = Y.1 1) (ra : ∀ k : Nat, k ≠ 7 → k ≠ 13 → X.2 k = c.2 k) (a13 : X.2 13 = upZ (c.2 13) q v) (b : ∀ k : Nat, k ≠ 1 → Y.1 k = t.1 k) (b0 : Y.2 0 = t.2 0) (b2 : Y.2 2 = t.2 2) (b3 : Y.2 3 = up2 (t.2 3) q 3 v) (d01 : ∀ i j : Int, (j = 0 ∨ j = 1) → Y.2 1 i j = t.2 1 i j) (a7 : ∀ d : Int, 0 ≤ d → d < t.1 3 → X.2 7 d = Y.2 1 d 2 ∧ 0 ≤ Y.2 1 d 2) (hv : 0 < t.2 3 q 2 → v ≤ t.2 3 q 2) (r : ∀ d : Int, 0 ≤ d → d < t.1 3 → Y.2 1 d 3 = pbets X d 1 ∧ Y.2 1 d 4 = pbets X d 0) (k : RSk Y) : RS X Y := by
  have x5 := a 5 (by decide)
  have y2 := b 2 (by decide)
  have y3 := b 3 (by decide)
  have y4 := b 4 (by decide)
  have y5 := b 5 (by decide)
  have pos : ∀ i, Y.2 3 i 0 = t.2 3 i 0 ∧ Y.2 3 i 1 = t.2 3 i 1 := fun i => by rw [b3]; exact ⟨up2_o i 0 (by decide), up2_o i 1 (by decide)⟩
  refine ⟨⟨?_, a1, ?_, ?_, ?_, ?_⟩, ?_, ?_, RSw_congr h.w (ra 3 (by decide) (by decide)) (ra 4 (by decide) (by decide)) b0 y2, fun d d0 d1 => ?_, ?_, ?_, u3_congr h.u3 y5 pos, fun i i0 i1 => ?_, fun i d i0 i1 d0 d1 => ?_, ⟨fun i d i0 i1 d0 d1 => ?_, fun i i0 i1 => ?_⟩, fun sp s0 s1 => ?_, fun d d0 d1 => r d d0 (by rw [← y3]; exact d1), k⟩
  · rw [a 0 (by decide), b 0 (by decide)]; exact h.n.1
  · rw [a 2 (by decide), y2]; exact h.n.2.2.1
  · rw [a 3 (by decide), y3]; exact h.n.2.2.2.1
  · rw [a 4 (by decide), y4]; exact h.n.2.2.2.2.1
  · rw [x5, y5]; exact h.n.2.2.2.2.2
  · unfold RSv; rw [y2, b0, ra 0 (by decide) (by decide), ra 1 (by decide) (by decide), ra 2 (by decide) (by decide)]; exact h.v
  · unfold RSv0; rw [y2, ra 2 (by decide) (by decide)]; exact h.v0
  · have d1 : d < t.1 3 := by rw [← y3]; exact d1
    have hd := h.d d d0 d1
    rw [ra 5 (by decide) (by decide), ra 6 (by decide) (by decide), d01 d 0 (Or.inl rfl), d01 d 1 (Or.inr rfl)]
    exact ⟨hd.1, hd.2.1, (a7 d d0 d1).1, (a7 d d0 d1).2⟩
  · intro sp s0 s1
    have eA : sPA Y (sp % 20) (sp / 20) = sPA t (sp % 20) (sp / 20) := by
      unfold sPA
      rw [y4]
      refine ff_congr _ (fun j _ _ => ?_)
      show Y.2 2 j 0 = sp % 20 ∧ Y.2 2 j 1 = sp / 20 ↔ t.2 2 j 0 = sp % 20 ∧ t.2 2 j 1 = sp / 20
      rw [b2]
    have e : pgS Y sp = pgS t sp := by unfold pgS; rw [eA, b2]
    rw [ra 8 (by decide) (by decide), e]; exact h.p sp s0 s1
  · intro i j i0 ij jn
    rw [b2]
    exact h.u2 i j i0 ij (by show j < t.1 4; rw [← y4]; exact jn)
  · rw [y5] at i1
    have hi := h.q i i0 i1
    rw [(pos i).1, (pos i).2, ra 11 (by decide) (by decide), ra 12 (by decide) (by decide), a13, b3, up2_o i 2 (by decide)]
    by_cases e : i = q
    · rw [e, upZ_same, up2_at]
      rw [e] at hi
      exact ⟨hi.1, hi.2.1, rfl, hv⟩
    · rw [upZ_ne e, up2_ne e]; exact hi
  · rw [y5] at i1
    rw [ra 14 (by decide) (by decide), ra 15 (by decide) (by decide), b3, up2_o i (4 + d) (by omega), y3]
    exact h.b i d i0 i1 d0 d1
  · rw [y5] at i0
    rw [ra 14 (by decide) (by decide)]; exact h.z.1 i d i0 i1 d0 d1
  · rw [y5] at i0
    rw [a13, upZ_ne (by omega)]; exact h.z.2 i i0 i1
  · rw [ra 10 (by decide) (by decide), sQA_congr (t := t) (t' := Y) y5 pos]; exact h.a sp s0 s1
theorem sOpen_dig {Y : SS} {q v : Int} (hq : 0 ≤ q ∧ q < t.1 5) (y5 : Y.1 5 = t.1 5) (b3 : Y.2 3 = up2 (t.2 3) q 3 v) (hn : ¬ sOv t q) : sOpen Y = sOpen t - (if sOv Y q then sBt (t.2 3 q) 1 + sBt (t.2 3 q) 0 else 0) := by
  have eF : Y.2 3 q = upZ (t.2 3 q) 3 v := by rw [b3, up2_r]
  rw [sOpen_o, sOpen_o, y5]
  have e := sm_congr (f := oB Y) (f' := fun j => if j = q then oB Y q else oB t j) (t.1 5).toNat (fun j j0 j1 => by
    show oB Y j = if j = q then oB Y q else oB t j
    by_cases w : j = q
    · rw [if_pos w, w]
    · rw [if_neg w]
      have ej : Y.2 3 j = t.2 3 j := by rw [b3, up2_ne w]
      unfold oB sOv
      rw [ej])
  rw [e, sm_upd hq.1, if_pos (by omega)]
  have e1 : oB t q = sBt (t.2 3 q) 1 + sBt (t.2 3 q) 0 := by unfold oB; rw [if_neg hn]
  have e2 : oB Y q = if sOv Y q then 0 else sBt (t.2 3 q) 1 + sBt (t.2 3 q) 0 := by
    show (if sOv Y q then 0 else sBt (Y.2 3 q) 1 + sBt (Y.2 3 q) 0) = _
    have eB : sBt (Y.2 3 q) 1 + sBt (Y.2 3 q) 0 = sBt (t.2 3 q) 1 + sBt (t.2 3 q) 0 := by rw [eF, sBt_3, sBt_3]
    split
    · rfl
    · exact eB
  rw [e1, e2]
  split <;> omega
theorem R_dig (h : RS c t) (hI : IC B c) (hT : IT t) {q by9 : Int} (hq : 0 ≤ q ∧ q < t.1 5) (hb : 1 ≤ by9 ∧ by9 ≤ 20) (ho : ¬ sOv t q) : RS (digC1 c q by9) (sDig t q by9) ∧ dpn c q by9 = sDg t q by9.toNat := by
  have hs := hT.s
  have hQ := hT.q hq
  have n3 : c.1 3 = t.1 3 := h.n.2.2.2.1
  have n5 : c.1 5 = t.1 5 := h.n.2.2.2.2.2
  have n1 : c.1 1 = t.1 1 := h.n.2.1
  obtain ⟨-, q12, q13, q4⟩ := h.q q hq.1 hq.2
  have hno : ¬ over c q := fun z => ho ((R_over h hT hq).mp z)
  have ed := R_dpn h hT hq hb
  refine ⟨?_, ed⟩
  obtain ⟨v, hv⟩ : ∃ v, v = dpn c q by9 := ⟨_, rfl⟩
  have hvb := dpn_b hI q hb
  have hvl : 0 < t.2 3 q 2 → v ≤ t.2 3 q 2 := fun z => by rw [hv]; unfold dpn; rw [q12, if_pos z]; omega
  have d13 : (dpC c q by9).2 13 = upZ (c.2 13) q v := by rw [hv]; rfl
  have d13q : (dpC c q by9).2 13 q = v := by rw [d13, upZ_same]
  have T3 : (sDk t q by9.toNat).2 3 = up2 (t.2 3) q 3 v := by rw [hv, ed]; rfl
  have hov : over (dpC c q by9) q ↔ sOv (sDk t q by9.toNat) q := by
    rw [sDk_ov, ← ed, ← hv]
    show ((0 < c.2 12 q ∧ c.2 12 q ≤ (dpC c q by9).2 13 q) ∨ 20 ≤ (dpC c q by9).2 13 q) ↔ _
    rw [d13q, q12]
    omega
  have hk := h.k
  unfold digC1 sDig
  by_cases w : over (dpC c q by9) q
  · rw [if_pos w, if_pos (hov.mp w)]
    have hw2 : (0 < c.2 12 q ∧ c.2 12 q ≤ (dpC c q by9).2 13 q) ∨ 20 ≤ (dpC c q by9).2 13 q := w
    rw [d13q, q12] at hw2
    have hfn : fnd (dpC c q by9) q ↔ 0 < t.2 3 q 2 := by
      show (0 < c.2 12 q ∧ c.2 12 q ≤ (dpC c q by9).2 13 q) ↔ _
      rw [d13q, q12]
      omega
    have ef : b01 (fnd (dpC c q by9) q) = b01 (0 < t.2 3 q 2) := b01_congr hfn
    obtain ⟨f, hf⟩ : ∃ f, f = b01 (0 < t.2 3 q 2) := ⟨_, rfl⟩
    unfold payC
    rw [ef, ← hf]
    rw [show ((dpC c q by9).1 3).toNat = (t.1 3).toNat by show (c.1 3).toNat = _; rw [n3]]
    obtain ⟨p1, p2⟩ := payD_c (dpC c q by9) q f (t.1 3).toNat
    have p7 := payD_row (dpC c q by9) q f (t.1 3).toNat
    obtain ⟨v1, v2, v3⟩ := sPay_v (sDk t q by9.toNat) q f (t.1 3).toNat
    obtain ⟨s3, s2, s0, sk⟩ := sPay_3 (sDk t q by9.toNat) q f (t.1 3).toNat
    have TF : (sDk t q by9.toNat).2 3 q = upZ (t.2 3 q) 3 v := by rw [T3, up2_r]
    have cN : (((t.1 3).toNat : Nat) : Int) = t.1 3 := by omega
    rw [TF, sBt_3, sBt_3] at v1
    have eS : sm (fun d => sGt (upZ (t.2 3 q) 3 v) d f) (t.1 3).toNat = sm (fun d => sGt (t.2 3 q) d f) (t.1 3).toNat := sm_congr _ (fun j j0 _ => sGt_3 _ v f j0)
    rw [eS] at v1
    have eL : left (dpC c q by9) q f (t.1 3).toNat = (sBt (t.2 3 q) 1 + sBt (t.2 3 q) 0) - sm (fun d => sGt (t.2 3 q) d f) (t.1 3).toNat := by
      rw [left_v]
      have e1 : allS (dpC c q by9) q = sBt (t.2 3 q) 1 + sBt (t.2 3 q) 0 := by
        show stOn c q 1 + stOn c q 0 = _
        rw [R_stOn h hq, R_stOn h hq]
      rw [e1]
      congr 1
      exact sm_congr _ (fun j j0 j1 => R_shr h hq ⟨j0, by omega⟩)
    have gl := gets_le (t.2 3 q) f (n := (t.1 3).toNat) (by omega)
    have y3 : (sPay (sDk t q by9.toNat) q f (t.1 3).toNat).1 3 = t.1 3 := sk 3 (by decide)
    have y5 : (sPay (sDk t q by9.toNat) q f (t.1 3).toNat).1 5 = t.1 5 := sk 5 (by decide)
    have Y3 : (sPay (sDk t q by9.toNat) q f (t.1 3).toNat).2 3 = up2 (t.2 3) q 3 v := s3.trans T3
    have gn : ∀ j : Int, 0 ≤ sGt (t.2 3 q) j f := fun j => by
      rw [sGt_e]
      have a1 := sBt_nn (t.2 3 q) 1
      have a0 := sBt_nn (t.2 3 q) 0
      exact Int.ediv_nonneg (Int.mul_nonneg (sBe_nn _ _ _) (by omega)) (sBt_nn _ _)
    refine R_dgen h hq (v := v) (fun k hk => ?_) ?_ (fun k k7 k13 => ?_) ?_ (fun k hk => sk k hk) s0 s2 Y3 (fun i j hj => sPay_d _ q f hj _) (fun d d0 d1 => ?_) hvl (fun d d0 d1 => ?_) ⟨?_, ?_⟩
    · rw [sS_ne hk, p1]; rfl
    · rw [v1]
      show (payD (dpC c q by9) q f (t.1 3).toNat).1 1 + left (dpC c q by9) q f (t.1 3).toNat = t.1 1 + _ - _
      rw [p1, eL]
      show c.1 1 + _ = _
      omega
    · show (payD (dpC c q by9) q f (t.1 3).toNat).2 k = _
      rw [p2 k k7]
      exact sA_ne k13
    · show (payD (dpC c q by9) q f (t.1 3).toNat).2 13 = _
      rw [p2 13 (by decide), d13]
    · show (payD (dpC c q by9) q f (t.1 3).toNat).2 7 d = _ ∧ _
      have h7 := (h.d d d0 d1).2.2
      rw [p7, v2, if_pos ⟨d0, by omega⟩, if_pos ⟨d0, by omega⟩, TF, sGt_3 _ v f d0]
      have e7 : (dpC c q by9).2 7 d = t.2 1 d 2 := h7.1
      have es : shr (dpC c q by9) q d f = sGt (t.2 3 q) d f := R_shr h hq ⟨d0, by omega⟩
      rw [e7, es]
      have := gn d
      exact ⟨rfl, by show 0 ≤ t.2 1 d 2 + _; omega⟩
    · have hr := h.r d d0 d1
      obtain ⟨b1, b2, -⟩ := h.b q d hq.1 hq.2 d0 (by omega)
      have key : ∀ rt w : Int, ((rt = 1 ∧ w = 3) ∨ (rt = 0 ∧ w = 4)) → pbets (sS (payD (dpC c q by9) q f (t.1 3).toNat) 1 ((payD (dpC c q by9) q f (t.1 3).toNat).1 1 + left (dpC c q by9) q f (t.1 3).toNat)) d rt = pbets c d rt + b01 ((0 ≤ d ∧ d < (((t.1 3).toNat : Nat) : Int)) ∧ t.2 3 q (4 + d) ≠ 0 ∧ (if b01 (0 < t.2 3 q (4 + d)) = f then (3 : Int) else 4) = w) := fun rt w hw => by
        have x12 : (payD (dpC c q by9) q f (t.1 3).toNat).2 12 = c.2 12 := p2 12 (by decide)
        have x13 : (payD (dpC c q by9) q f (t.1 3).toNat).2 13 = upZ (c.2 13) q v := (p2 13 (by decide)).trans d13
        rw [pb_dig (c := c) (x := sS (payD (dpC c q by9) q f (t.1 3).toNat) 1 _) (q := q) (by rw [sS_ne (by decide), p1]; rfl) hno x12 (fun k hk => by show (payD (dpC c q by9) q f (t.1 3).toNat).2 13 k = _; rw [x13, upZ_ne hk]) (p2 14 (by decide)) (p2 15 (by decide)) d rt]
        congr 1
        refine b01_congr ?_
        have fX : fnd (sS (payD (dpC c q by9) q f (t.1 3).toNat) 1 ((payD (dpC c q by9) q f (t.1 3).toNat).1 1 + left (dpC c q by9) q f (t.1 3).toNat)) q ↔ 0 < t.2 3 q 2 := by
          show (0 < (payD (dpC c q by9) q f (t.1 3).toNat).2 12 q ∧ (payD (dpC c q by9) q f (t.1 3).toNat).2 12 q ≤ (payD (dpC c q by9) q f (t.1 3).toNat).2 13 q) ↔ _
          rw [x12, x13, upZ_same, q12]
          omega
        have oX : over (sS (payD (dpC c q by9) q f (t.1 3).toNat) 1 ((payD (dpC c q by9) q f (t.1 3).toNat).1 1 + left (dpC c q by9) q f (t.1 3).toNat)) q := by
          show (0 < (payD (dpC c q by9) q f (t.1 3).toNat).2 12 q ∧ (payD (dpC c q by9) q f (t.1 3).toNat).2 12 q ≤ (payD (dpC c q by9) q f (t.1 3).toNat).2 13 q) ∨ 20 ≤ (payD (dpC c q by9) q f (t.1 3).toNat).2 13 q
          rw [x12, x13, upZ_same, q12]
          exact hw2
        rw [b01_congr fX, ← hf, b1]
        have a0 := ab_0 (t.2 3 q (4 + d))
        have an := ab_nn (t.2 3 q (4 + d))
        constructor
        · rintro ⟨-, ⟨-, z1⟩, z2⟩
          have z : t.2 3 q (4 + d) ≠ 0 := by omega
          refine ⟨⟨d0, by omega⟩, z, ?_⟩
          rw [b2 z] at z2
          by_cases y : b01 (0 < t.2 3 q (4 + d)) = f
          · rw [b01_t y] at z2; rw [if_pos y]; omega
          · rw [b01_f y] at z2; rw [if_neg y]; omega
        · rintro ⟨-, z, z2⟩
          refine ⟨⟨hq.1, by omega⟩, ⟨oX, by omega⟩, ?_⟩
          rw [b2 z]
          by_cases y : b01 (0 < t.2 3 q (4 + d)) = f
          · rw [if_pos y] at z2; rw [b01_t y]; omega
          · rw [if_neg y] at z2; rw [b01_f y]; omega
      have e4 : (sDk t q by9.toNat).2 3 q (4 + d) = t.2 3 q (4 + d) := by rw [TF, upZ_ne (by omega)]
      rw [key 1 3 (Or.inl ⟨rfl, rfl⟩), key 0 4 (Or.inr ⟨rfl, rfl⟩), v3 d 3 (Or.inl rfl), v3 d 4 (Or.inr rfl), e4, ← hr.1, ← hr.2]
      exact ⟨rfl, rfl⟩
    · rw [v1]
      show 0 ≤ t.1 1 + _ - _
      have := hk.1
      omega
    · rw [y3, sOpen_dig hq y5 Y3 ho, if_pos (by
        show (sPay (sDk t q by9.toNat) q f (t.1 3).toNat).2 3 q 3 = 20 ∨ _
        rw [s3]; exact hov.mp w), v1]
      have eC : sm (fun d => (sPay (sDk t q by9.toNat) q f (t.1 3).toNat).2 1 d 2) (t.1 3).toNat = sm (fun d => t.2 1 d 2) (t.1 3).toNat + sm (fun d => sGt (t.2 3 q) d f) (t.1 3).toNat := by
        rw [← sm_add]
        refine sm_congr _ (fun j j0 j1 => ?_)
        rw [v2, if_pos ⟨j0, j1⟩, TF, sGt_3 _ v f j0]; rfl
      rw [eC]
      show t.1 1 + _ - _ + _ + _ = _
      have := hk.2
      omega
  · rw [if_neg w, if_neg (fun z => w (hov.mpr z))]
    refine R_dgen h hq (v := v) (fun k _ => rfl) n1 (fun k _ k13 => sA_ne k13) d13 (fun k _ => rfl) rfl rfl T3 (fun _ _ _ => rfl) (fun d d0 d1 => (h.d d d0 d1).2.2) hvl (fun d d0 d1 => ?_) ⟨hk.1, ?_⟩
    · have hr := h.r d d0 d1
      have key : ∀ rt, pbets (dpC c q by9) d rt = pbets c d rt := fun rt => by
        rw [pb_dig (c := c) (x := dpC c q by9) (q := q) rfl hno rfl (fun k hk => by rw [d13, upZ_ne hk]) rfl rfl d rt, b01_f (fun z => w z.2.1.1), Int.add_zero]
      rw [key, key]
      exact hr
    · rw [sOpen_dig hq (Y := sDk t q by9.toNat) rfl T3 ho, if_neg (fun z => w (hov.mpr z)), Int.sub_zero]
      exact hk.2
end RSH
