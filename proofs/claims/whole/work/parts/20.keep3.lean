/-! BEGINNING A PIT: the relation is kept -/
section RC4
variable {B : Int} {c m : CS}
theorem RR.k_pit (h : RR c m) (hM : IM B m) {x y : Int} (hs : inF x y) (hp : m.1 6 < 10) (ha : mPA m (20 * y + x) = -1) : RR (pitC c x y) (mPit m x y) := by
  have hm := hM.s
  have n5 := h.n5
  obtain ⟨n, hn⟩ : ∃ n : Nat, m.1 6 = n := ⟨(m.1 6).toNat, by omega⟩
  have hw : upZ (c.2 12) (c.1 5) (c.2 4 (20 * y + x)) = upZ (m.2 10) (m.1 6) (mDep (sA (sS m 0 0) 9 (upZ (m.2 9) (m.1 6) (20 * y + x))) (20 * y + x) (m.1 3).toNat) := by
    rw [h.wdp, h.n5, h.shl (20 * y + x) (by omega) (by omega), mDep_c (m := m) (m' := sA (sS m 0 0) 9 (upZ (m.2 9) (m.1 6) (20 * y + x))) rfl rfl]
  have hbz : ∀ d : Int, 0 ≤ d → d < 5 → c.2 14 ((n : Int) * 5 + d) = 0 := fun d h0 h1 => by
    have e1 := h.bet0 (n : Int) d (by omega) (by omega) h0 h1 (Or.inl (by omega))
    have e2 := h.sta (5 * (n : Int) + d) (by omega) (by omega)
    rw [show (n : Int) * 5 + d = 5 * (n : Int) + d by omega, e2, e1]
    rfl
  unfold pitC
  rw [show y * 20 + x = 20 * y + x by omega]
  have hpb : ∀ d rt : Int, 0 ≤ d → d < 5 → pbets (sS (sA (sA (sA c 11 (upZ (c.2 11) (c.1 5) (20 * y + x))) 12 (upZ (c.2 12) (c.1 5) (c.2 4 (20 * y + x)))) 10 (upZ (c.2 10) (20 * y + x) (c.1 5))) 5 (c.1 5 + 1)) d rt = pbets c d rt := fun d rt h0 h1 =>
    pb_new (n := n) (n5.trans hn) (c.2 4 (20 * y + x)) d rt (hbz d h0 h1) _ rfl (by rw [← n5.trans hn]; rfl) rfl rfl rfl
  exact RR.mk h.n0 h.n1 h.n2 h.n3 h.n4 (by show c.1 5 + 1 = m.1 6 + 1; rw [n5]) h.dep h.flw h.rch h.rch0 h.wat (fun j h1 h2 => (h.shl j h1 h2).trans (mDep_c (m := m) (m' := mPit m x y) rfl rfl j _)) h.fel h.len h.coi h.own h.cnt (fun j h1 h2 => by
      have e0 := h.pat j h1 h2
      show upZ (c.2 10) (20 * y + x) (c.1 5) j = ff (fun k => upZ (m.2 9) (m.1 6) (20 * y + x) k = j) (m.1 6 + 1).toNat
      rw [hn, show ((n : Int) + 1).toNat = n + 1 by omega, ff, ff_congr (P' := fun k => m.2 9 k = j) n (fun k q0 q1 => by rw [upZ_ne (by omega)])]
      have e1 : ff (fun k => m.2 9 k = j) n = mPA m j := by unfold mPA; rw [hn]; rfl
      rw [e1, upZ_same]
      by_cases e : j = 20 * y + x
      · rw [e, upZ_same, if_neg (by omega), if_pos rfl, n5, hn]
      · rw [upZ_ne e, e0]
        by_cases z : mPA m j = -1
        · rw [if_neg (fun w => w z), if_neg (fun w => e w.symm), z]
        · rw [if_pos z]) (by show upZ (c.2 11) (c.1 5) (20 * y + x) = upZ (m.2 9) (m.1 6) (20 * y + x); rw [h.plc, n5]) hw h.dug (fun q h1 => h.dug0 q (by have h2 : m.1 6 + 1 ≤ q := h1; omega)) h.sta h.bfp h.bfn (fun q d h1 h2 h3 h4 h5 => h.bet0 q d h1 h2 h3 h4 (by have h6 : m.1 6 + 1 ≤ q ∨ m.1 4 ≤ d := h5; omega)) (fun d h1 h2 => (h.rgt d h1 h2).trans (hpb d 1 h1 h2).symm) (fun d h1 h2 => (h.wrg d h1 h2).trans (hpb d 0 h1 h2).symm)
end RC4
