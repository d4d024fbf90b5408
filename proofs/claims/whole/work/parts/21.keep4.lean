/-! A BET: the relation is kept -/
section RC5
variable {B : Int} {c m : CS}
theorem RR.k_bet (h : RR c m) (hM : IM B m) {d q co9 f : Int} (hd : mD m d) (hq : mP m q) (hc : 1 ≤ co9 ∧ co9 ≤ 99) (hf : 0 ≤ f ∧ f ≤ 1) (hg : m.2 11 q ≤ 0) : RR (betC c d q co9 f) (mBet m d q co9 f) := by
  have hm := hM.s
  obtain ⟨w, hw⟩ : ∃ w : Int, w = if f = 1 then co9 else -co9 := ⟨_, rfl⟩
  have hw2 : (f = 1 ∧ w = co9) ∨ (f = 0 ∧ w = -co9) := by
    by_cases e : f = 1
    · rw [if_pos e] at hw; omega
    · rw [if_neg e] at hw; omega
  have hab := ab_cs w
  have hpb : ∀ d2 rt : Int, 0 ≤ d2 → d2 < 5 → pbets (betC c d q co9 f) d2 rt = pbets c d2 rt := fun d2 rt h0 h1 => by
    unfold pbets
    show sm _ (c.1 5).toNat = _
    refine sm_congr _ (fun k k0 k1 => ?_)
    show b01 ((over c k ∧ 0 < upZ (c.2 14) (q * 5 + d) co9 (k * 5 + d2)) ∧ b01 (upZ (c.2 15) (q * 5 + d) f (k * 5 + d2) = b01 (fnd c k)) = rt) = b01 ((over c k ∧ 0 < c.2 14 (k * 5 + d2)) ∧ b01 (c.2 15 (k * 5 + d2) = b01 (fnd c k)) = rt)
    by_cases e : k = q
    · have ho : ¬ over c k := fun z => by
        have g1 := congrFun h.dug k
        have z2 : (0 < c.2 12 k ∧ c.2 12 k ≤ c.2 13 k) ∨ 20 ≤ c.2 13 k := z
        rw [e] at g1 z2
        omega
      rw [b01_f (fun z => ho z.1.1), b01_f (fun z => ho z.1.1)]
    · rw [upZ_ne (by omega), upZ_ne (by omega)]
  unfold mBet
  rw [← hw]
  exact RR.mk h.n0 h.n1 h.n2 h.n3 h.n4 h.n5 h.dep h.flw h.rch h.rch0 h.wat (fun j h1 h2 => (h.shl j h1 h2).trans (mDep_c (m := m) (m' := sA (sA (sS m 0 0) 5 (upZ (m.2 5) d (m.2 5 d - co9))) 12 (upZ (m.2 12) (5 * q + d) w)) rfl rfl j _)) h.fel h.len (by show upZ (c.2 7) d (c.2 7 d - co9) = upZ (m.2 5) d (m.2 5 d - co9); rw [h.coi]) h.own h.cnt h.pat h.plc h.wdp h.dug h.dug0 (fun j h0 h1 => by
      have e0 := h.sta j h0 h1
      show upZ (c.2 14) (q * 5 + d) co9 j = ab (upZ (m.2 12) (5 * q + d) w j)
      rw [show q * 5 + d = 5 * q + d by omega]
      by_cases e : j = 5 * q + d
      · rw [e, upZ_same, upZ_same]; omega
      · rw [upZ_ne e, upZ_ne e]; exact e0) (fun j h0 h1 h2 => by
      have e0 := h.bfp j h0 h1
      have h3 : 0 < upZ (m.2 12) (5 * q + d) w j := h2
      show upZ (c.2 15) (q * 5 + d) f j = 1
      rw [show q * 5 + d = 5 * q + d by omega]
      by_cases e : j = 5 * q + d
      · rw [e, upZ_same] at h3; rw [e, upZ_same]; omega
      · rw [upZ_ne e] at h3; rw [upZ_ne e]; exact e0 h3) (fun j h0 h1 h2 => by
      have e0 := h.bfn j h0 h1
      have h3 : upZ (m.2 12) (5 * q + d) w j < 0 := h2
      show upZ (c.2 15) (q * 5 + d) f j = 0
      rw [show q * 5 + d = 5 * q + d by omega]
      by_cases e : j = 5 * q + d
      · rw [e, upZ_same] at h3; rw [e, upZ_same]; omega
      · rw [upZ_ne e] at h3; rw [upZ_ne e]; exact e0 h3) (fun q2 d2 h1 h2 h3 h4 h5 => by
      have h6 : m.1 6 ≤ q2 ∨ m.1 4 ≤ d2 := h5
      have e0 := h.bet0 q2 d2 h1 h2 h3 h4 h6
      show upZ (m.2 12) (5 * q + d) w (5 * q2 + d2) = 0
      rw [upZ_ne (by omega)]
      exact e0) (fun d2 h1 h2 => (h.rgt d2 h1 h2).trans (hpb d2 1 h1 h2).symm) (fun d2 h1 h2 => (h.wrg d2 h1 h2).trans (hpb d2 0 h1 h2).symm)
end RC5
