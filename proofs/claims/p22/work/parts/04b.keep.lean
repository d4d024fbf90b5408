/-! STATES KEEP THEIR BOUNDS -/
theorem upZ_b {F : Int → Int} {lo hi i v : Int} (h : ∀ j : Int, lo ≤ F j ∧ F j ≤ hi) (hv : lo ≤ v ∧ v ≤ hi) : ∀ j : Int, lo ≤ upZ F i v j ∧ upZ F i v j ≤ hi := fun j => by
  unfold upZ
  by_cases q : j = i
  · rw [if_pos q]; exact hv
  · rw [if_neg q]; exact h j
theorem IC.a0 {B : Int} {c : CS} (h : IC B c) {F : Int → Int} (hF : ∀ j : Int, 0 ≤ F j ∧ F j ≤ 20) : IC B (sA c 0 F) := ⟨h.1, hF, h.2.2.1, h.2.2.2.1, h.2.2.2.2.1, h.2.2.2.2.2.1, h.2.2.2.2.2.2.1, h.2.2.2.2.2.2.2.1, h.2.2.2.2.2.2.2.2.1, h.2.2.2.2.2.2.2.2.2.1, h.2.2.2.2.2.2.2.2.2.2.1, h.2.2.2.2.2.2.2.2.2.2.2.1, h.2.2.2.2.2.2.2.2.2.2.2.2.1, h.2.2.2.2.2.2.2.2.2.2.2.2.2.1, h.2.2.2.2.2.2.2.2.2.2.2.2.2.2.1, h.2.2.2.2.2.2.2.2.2.2.2.2.2.2.2⟩
theorem IC.u0 {B : Int} {c : CS} (h : IC B c) {i v : Int} (hv : 0 ≤ v ∧ v ≤ 20) : IC B (sA c 0 (upZ (c.2 0) i v)) := h.a0 (upZ_b (h.r0) hv)
theorem IC.a1 {B : Int} {c : CS} (h : IC B c) {F : Int → Int} (hF : ∀ j : Int, 0 ≤ F j ∧ F j ≤ 9) : IC B (sA c 1 F) := ⟨h.1, h.2.1, hF, h.2.2.2.1, h.2.2.2.2.1, h.2.2.2.2.2.1, h.2.2.2.2.2.2.1, h.2.2.2.2.2.2.2.1, h.2.2.2.2.2.2.2.2.1, h.2.2.2.2.2.2.2.2.2.1, h.2.2.2.2.2.2.2.2.2.2.1, h.2.2.2.2.2.2.2.2.2.2.2.1, h.2.2.2.2.2.2.2.2.2.2.2.2.1, h.2.2.2.2.2.2.2.2.2.2.2.2.2.1, h.2.2.2.2.2.2.2.2.2.2.2.2.2.2.1, h.2.2.2.2.2.2.2.2.2.2.2.2.2.2.2⟩
theorem IC.u1 {B : Int} {c : CS} (h : IC B c) {i v : Int} (hv : 0 ≤ v ∧ v ≤ 9) : IC B (sA c 1 (upZ (c.2 1) i v)) := h.a1 (upZ_b (h.r1) hv)
theorem IC.a2 {B : Int} {c : CS} (h : IC B c) {F : Int → Int} (hF : ∀ j : Int, 0 ≤ F j ∧ F j ≤ 2) : IC B (sA c 2 F) := ⟨h.1, h.2.1, h.2.2.1, hF, h.2.2.2.2.1, h.2.2.2.2.2.1, h.2.2.2.2.2.2.1, h.2.2.2.2.2.2.2.1, h.2.2.2.2.2.2.2.2.1, h.2.2.2.2.2.2.2.2.2.1, h.2.2.2.2.2.2.2.2.2.2.1, h.2.2.2.2.2.2.2.2.2.2.2.1, h.2.2.2.2.2.2.2.2.2.2.2.2.1, h.2.2.2.2.2.2.2.2.2.2.2.2.2.1, h.2.2.2.2.2.2.2.2.2.2.2.2.2.2.1, h.2.2.2.2.2.2.2.2.2.2.2.2.2.2.2⟩
theorem IC.u2 {B : Int} {c : CS} (h : IC B c) {i v : Int} (hv : 0 ≤ v ∧ v ≤ 2) : IC B (sA c 2 (upZ (c.2 2) i v)) := h.a2 (upZ_b (h.r2) hv)
theorem IC.a3 {B : Int} {c : CS} (h : IC B c) {F : Int → Int} (hF : ∀ j : Int, 0 ≤ F j ∧ F j ≤ B) : IC B (sA c 3 F) := ⟨h.1, h.2.1, h.2.2.1, h.2.2.2.1, hF, h.2.2.2.2.2.1, h.2.2.2.2.2.2.1, h.2.2.2.2.2.2.2.1, h.2.2.2.2.2.2.2.2.1, h.2.2.2.2.2.2.2.2.2.1, h.2.2.2.2.2.2.2.2.2.2.1, h.2.2.2.2.2.2.2.2.2.2.2.1, h.2.2.2.2.2.2.2.2.2.2.2.2.1, h.2.2.2.2.2.2.2.2.2.2.2.2.2.1, h.2.2.2.2.2.2.2.2.2.2.2.2.2.2.1, h.2.2.2.2.2.2.2.2.2.2.2.2.2.2.2⟩
theorem IC.u3 {B : Int} {c : CS} (h : IC B c) {i v : Int} (hv : 0 ≤ v ∧ v ≤ B) : IC B (sA c 3 (upZ (c.2 3) i v)) := h.a3 (upZ_b (h.r3) hv)
theorem IC.a4 {B : Int} {c : CS} (h : IC B c) {F : Int → Int} (hF : ∀ j : Int, 0 ≤ F j ∧ F j ≤ 20) : IC B (sA c 4 F) := ⟨h.1, h.2.1, h.2.2.1, h.2.2.2.1, h.2.2.2.2.1, hF, h.2.2.2.2.2.2.1, h.2.2.2.2.2.2.2.1, h.2.2.2.2.2.2.2.2.1, h.2.2.2.2.2.2.2.2.2.1, h.2.2.2.2.2.2.2.2.2.2.1, h.2.2.2.2.2.2.2.2.2.2.2.1, h.2.2.2.2.2.2.2.2.2.2.2.2.1, h.2.2.2.2.2.2.2.2.2.2.2.2.2.1, h.2.2.2.2.2.2.2.2.2.2.2.2.2.2.1, h.2.2.2.2.2.2.2.2.2.2.2.2.2.2.2⟩
theorem IC.u4 {B : Int} {c : CS} (h : IC B c) {i v : Int} (hv : 0 ≤ v ∧ v ≤ 20) : IC B (sA c 4 (upZ (c.2 4) i v)) := h.a4 (upZ_b (h.r4) hv)
theorem IC.a5 {B : Int} {c : CS} (h : IC B c) {F : Int → Int} (hF : ∀ j : Int, 0 ≤ F j ∧ F j ≤ 9) : IC B (sA c 5 F) := ⟨h.1, h.2.1, h.2.2.1, h.2.2.2.1, h.2.2.2.2.1, h.2.2.2.2.2.1, hF, h.2.2.2.2.2.2.2.1, h.2.2.2.2.2.2.2.2.1, h.2.2.2.2.2.2.2.2.2.1, h.2.2.2.2.2.2.2.2.2.2.1, h.2.2.2.2.2.2.2.2.2.2.2.1, h.2.2.2.2.2.2.2.2.2.2.2.2.1, h.2.2.2.2.2.2.2.2.2.2.2.2.2.1, h.2.2.2.2.2.2.2.2.2.2.2.2.2.2.1, h.2.2.2.2.2.2.2.2.2.2.2.2.2.2.2⟩
theorem IC.u5 {B : Int} {c : CS} (h : IC B c) {i v : Int} (hv : 0 ≤ v ∧ v ≤ 9) : IC B (sA c 5 (upZ (c.2 5) i v)) := h.a5 (upZ_b (h.r5) hv)
theorem IC.a6 {B : Int} {c : CS} (h : IC B c) {F : Int → Int} (hF : ∀ j : Int, (-3) ≤ F j ∧ F j ≤ 3) : IC B (sA c 6 F) := ⟨h.1, h.2.1, h.2.2.1, h.2.2.2.1, h.2.2.2.2.1, h.2.2.2.2.2.1, h.2.2.2.2.2.2.1, hF, h.2.2.2.2.2.2.2.2.1, h.2.2.2.2.2.2.2.2.2.1, h.2.2.2.2.2.2.2.2.2.2.1, h.2.2.2.2.2.2.2.2.2.2.2.1, h.2.2.2.2.2.2.2.2.2.2.2.2.1, h.2.2.2.2.2.2.2.2.2.2.2.2.2.1, h.2.2.2.2.2.2.2.2.2.2.2.2.2.2.1, h.2.2.2.2.2.2.2.2.2.2.2.2.2.2.2⟩
theorem IC.u6 {B : Int} {c : CS} (h : IC B c) {i v : Int} (hv : (-3) ≤ v ∧ v ≤ 3) : IC B (sA c 6 (upZ (c.2 6) i v)) := h.a6 (upZ_b (h.r6) hv)
theorem IC.a7 {B : Int} {c : CS} (h : IC B c) {F : Int → Int} (hF : ∀ j : Int, (-B) ≤ F j ∧ F j ≤ B) : IC B (sA c 7 F) := ⟨h.1, h.2.1, h.2.2.1, h.2.2.2.1, h.2.2.2.2.1, h.2.2.2.2.2.1, h.2.2.2.2.2.2.1, h.2.2.2.2.2.2.2.1, hF, h.2.2.2.2.2.2.2.2.2.1, h.2.2.2.2.2.2.2.2.2.2.1, h.2.2.2.2.2.2.2.2.2.2.2.1, h.2.2.2.2.2.2.2.2.2.2.2.2.1, h.2.2.2.2.2.2.2.2.2.2.2.2.2.1, h.2.2.2.2.2.2.2.2.2.2.2.2.2.2.1, h.2.2.2.2.2.2.2.2.2.2.2.2.2.2.2⟩
theorem IC.u7 {B : Int} {c : CS} (h : IC B c) {i v : Int} (hv : (-B) ≤ v ∧ v ≤ B) : IC B (sA c 7 (upZ (c.2 7) i v)) := h.a7 (upZ_b (h.r7) hv)
theorem IC.a8 {B : Int} {c : CS} (h : IC B c) {F : Int → Int} (hF : ∀ j : Int, (-1) ≤ F j ∧ F j ≤ 4) : IC B (sA c 8 F) := ⟨h.1, h.2.1, h.2.2.1, h.2.2.2.1, h.2.2.2.2.1, h.2.2.2.2.2.1, h.2.2.2.2.2.2.1, h.2.2.2.2.2.2.2.1, h.2.2.2.2.2.2.2.2.1, hF, h.2.2.2.2.2.2.2.2.2.2.1, h.2.2.2.2.2.2.2.2.2.2.2.1, h.2.2.2.2.2.2.2.2.2.2.2.2.1, h.2.2.2.2.2.2.2.2.2.2.2.2.2.1, h.2.2.2.2.2.2.2.2.2.2.2.2.2.2.1, h.2.2.2.2.2.2.2.2.2.2.2.2.2.2.2⟩
theorem IC.u8 {B : Int} {c : CS} (h : IC B c) {i v : Int} (hv : (-1) ≤ v ∧ v ≤ 4) : IC B (sA c 8 (upZ (c.2 8) i v)) := h.a8 (upZ_b (h.r8) hv)
theorem IC.a9 {B : Int} {c : CS} (h : IC B c) {F : Int → Int} : IC B (sA c 9 F) := ⟨h.1, h.2.1, h.2.2.1, h.2.2.2.1, h.2.2.2.2.1, h.2.2.2.2.2.1, h.2.2.2.2.2.2.1, h.2.2.2.2.2.2.2.1, h.2.2.2.2.2.2.2.2.1, h.2.2.2.2.2.2.2.2.2.1, h.2.2.2.2.2.2.2.2.2.2.1, h.2.2.2.2.2.2.2.2.2.2.2.1, h.2.2.2.2.2.2.2.2.2.2.2.2.1, h.2.2.2.2.2.2.2.2.2.2.2.2.2.1, h.2.2.2.2.2.2.2.2.2.2.2.2.2.2.1, h.2.2.2.2.2.2.2.2.2.2.2.2.2.2.2⟩
theorem IC.a10 {B : Int} {c : CS} (h : IC B c) {F : Int → Int} (hF : ∀ j : Int, (-1) ≤ F j ∧ F j ≤ 9) : IC B (sA c 10 F) := ⟨h.1, h.2.1, h.2.2.1, h.2.2.2.1, h.2.2.2.2.1, h.2.2.2.2.2.1, h.2.2.2.2.2.2.1, h.2.2.2.2.2.2.2.1, h.2.2.2.2.2.2.2.2.1, h.2.2.2.2.2.2.2.2.2.1, hF, h.2.2.2.2.2.2.2.2.2.2.2.1, h.2.2.2.2.2.2.2.2.2.2.2.2.1, h.2.2.2.2.2.2.2.2.2.2.2.2.2.1, h.2.2.2.2.2.2.2.2.2.2.2.2.2.2.1, h.2.2.2.2.2.2.2.2.2.2.2.2.2.2.2⟩
theorem IC.u10 {B : Int} {c : CS} (h : IC B c) {i v : Int} (hv : (-1) ≤ v ∧ v ≤ 9) : IC B (sA c 10 (upZ (c.2 10) i v)) := h.a10 (upZ_b (h.r10) hv)
theorem IC.a11 {B : Int} {c : CS} (h : IC B c) {F : Int → Int} (hF : ∀ j : Int, 0 ≤ F j ∧ F j ≤ 399) : IC B (sA c 11 F) := ⟨h.1, h.2.1, h.2.2.1, h.2.2.2.1, h.2.2.2.2.1, h.2.2.2.2.2.1, h.2.2.2.2.2.2.1, h.2.2.2.2.2.2.2.1, h.2.2.2.2.2.2.2.2.1, h.2.2.2.2.2.2.2.2.2.1, h.2.2.2.2.2.2.2.2.2.2.1, hF, h.2.2.2.2.2.2.2.2.2.2.2.2.1, h.2.2.2.2.2.2.2.2.2.2.2.2.2.1, h.2.2.2.2.2.2.2.2.2.2.2.2.2.2.1, h.2.2.2.2.2.2.2.2.2.2.2.2.2.2.2⟩
theorem IC.u11 {B : Int} {c : CS} (h : IC B c) {i v : Int} (hv : 0 ≤ v ∧ v ≤ 399) : IC B (sA c 11 (upZ (c.2 11) i v)) := h.a11 (upZ_b (h.r11) hv)
theorem IC.a12 {B : Int} {c : CS} (h : IC B c) {F : Int → Int} (hF : ∀ j : Int, 0 ≤ F j ∧ F j ≤ 20) : IC B (sA c 12 F) := ⟨h.1, h.2.1, h.2.2.1, h.2.2.2.1, h.2.2.2.2.1, h.2.2.2.2.2.1, h.2.2.2.2.2.2.1, h.2.2.2.2.2.2.2.1, h.2.2.2.2.2.2.2.2.1, h.2.2.2.2.2.2.2.2.2.1, h.2.2.2.2.2.2.2.2.2.2.1, h.2.2.2.2.2.2.2.2.2.2.2.1, hF, h.2.2.2.2.2.2.2.2.2.2.2.2.2.1, h.2.2.2.2.2.2.2.2.2.2.2.2.2.2.1, h.2.2.2.2.2.2.2.2.2.2.2.2.2.2.2⟩
theorem IC.u12 {B : Int} {c : CS} (h : IC B c) {i v : Int} (hv : 0 ≤ v ∧ v ≤ 20) : IC B (sA c 12 (upZ (c.2 12) i v)) := h.a12 (upZ_b (h.r12) hv)
theorem IC.a13 {B : Int} {c : CS} (h : IC B c) {F : Int → Int} (hF : ∀ j : Int, 0 ≤ F j ∧ F j ≤ 20) : IC B (sA c 13 F) := ⟨h.1, h.2.1, h.2.2.1, h.2.2.2.1, h.2.2.2.2.1, h.2.2.2.2.2.1, h.2.2.2.2.2.2.1, h.2.2.2.2.2.2.2.1, h.2.2.2.2.2.2.2.2.1, h.2.2.2.2.2.2.2.2.2.1, h.2.2.2.2.2.2.2.2.2.2.1, h.2.2.2.2.2.2.2.2.2.2.2.1, h.2.2.2.2.2.2.2.2.2.2.2.2.1, hF, h.2.2.2.2.2.2.2.2.2.2.2.2.2.2.1, h.2.2.2.2.2.2.2.2.2.2.2.2.2.2.2⟩
theorem IC.u13 {B : Int} {c : CS} (h : IC B c) {i v : Int} (hv : 0 ≤ v ∧ v ≤ 20) : IC B (sA c 13 (upZ (c.2 13) i v)) := h.a13 (upZ_b (h.r13) hv)
theorem IC.a14 {B : Int} {c : CS} (h : IC B c) {F : Int → Int} (hF : ∀ j : Int, 0 ≤ F j ∧ F j ≤ 99) : IC B (sA c 14 F) := ⟨h.1, h.2.1, h.2.2.1, h.2.2.2.1, h.2.2.2.2.1, h.2.2.2.2.2.1, h.2.2.2.2.2.2.1, h.2.2.2.2.2.2.2.1, h.2.2.2.2.2.2.2.2.1, h.2.2.2.2.2.2.2.2.2.1, h.2.2.2.2.2.2.2.2.2.2.1, h.2.2.2.2.2.2.2.2.2.2.2.1, h.2.2.2.2.2.2.2.2.2.2.2.2.1, h.2.2.2.2.2.2.2.2.2.2.2.2.2.1, hF, h.2.2.2.2.2.2.2.2.2.2.2.2.2.2.2⟩
theorem IC.u14 {B : Int} {c : CS} (h : IC B c) {i v : Int} (hv : 0 ≤ v ∧ v ≤ 99) : IC B (sA c 14 (upZ (c.2 14) i v)) := h.a14 (upZ_b (h.r14) hv)
theorem IC.a15 {B : Int} {c : CS} (h : IC B c) {F : Int → Int} (hF : ∀ j : Int, 0 ≤ F j ∧ F j ≤ 1) : IC B (sA c 15 F) := ⟨h.1, h.2.1, h.2.2.1, h.2.2.2.1, h.2.2.2.2.1, h.2.2.2.2.2.1, h.2.2.2.2.2.2.1, h.2.2.2.2.2.2.2.1, h.2.2.2.2.2.2.2.2.1, h.2.2.2.2.2.2.2.2.2.1, h.2.2.2.2.2.2.2.2.2.2.1, h.2.2.2.2.2.2.2.2.2.2.2.1, h.2.2.2.2.2.2.2.2.2.2.2.2.1, h.2.2.2.2.2.2.2.2.2.2.2.2.2.1, h.2.2.2.2.2.2.2.2.2.2.2.2.2.2.1, hF⟩
theorem IC.u15 {B : Int} {c : CS} (h : IC B c) {i v : Int} (hv : 0 ≤ v ∧ v ≤ 1) : IC B (sA c 15 (upZ (c.2 15) i v)) := h.a15 (upZ_b (h.r15) hv)
theorem IC.n0 {B : Int} {c : CS} (h : IC B c) {v : Int} (hv : 1 ≤ v ∧ v ≤ 30) : IC B (sS c 0 v) := ⟨by have hs := h.1; show ICs B (sS c 0 v); unfold ICs at hs ⊢; simp only [sS, Nat.beq, cond]; omega, h.2.1, h.2.2.1, h.2.2.2.1, h.2.2.2.2.1, h.2.2.2.2.2.1, h.2.2.2.2.2.2.1, h.2.2.2.2.2.2.2.1, h.2.2.2.2.2.2.2.2.1, h.2.2.2.2.2.2.2.2.2.1, h.2.2.2.2.2.2.2.2.2.2.1, h.2.2.2.2.2.2.2.2.2.2.2.1, h.2.2.2.2.2.2.2.2.2.2.2.2.1, h.2.2.2.2.2.2.2.2.2.2.2.2.2.1, h.2.2.2.2.2.2.2.2.2.2.2.2.2.2.1, h.2.2.2.2.2.2.2.2.2.2.2.2.2.2.2⟩
theorem IC.n1 {B : Int} {c : CS} (h : IC B c) {v : Int} : IC B (sS c 1 v) := ⟨by have hs := h.1; show ICs B (sS c 1 v); unfold ICs at hs ⊢; simp only [sS, Nat.beq, cond]; omega, h.2.1, h.2.2.1, h.2.2.2.1, h.2.2.2.2.1, h.2.2.2.2.2.1, h.2.2.2.2.2.2.1, h.2.2.2.2.2.2.2.1, h.2.2.2.2.2.2.2.2.1, h.2.2.2.2.2.2.2.2.2.1, h.2.2.2.2.2.2.2.2.2.2.1, h.2.2.2.2.2.2.2.2.2.2.2.1, h.2.2.2.2.2.2.2.2.2.2.2.2.1, h.2.2.2.2.2.2.2.2.2.2.2.2.2.1, h.2.2.2.2.2.2.2.2.2.2.2.2.2.2.1, h.2.2.2.2.2.2.2.2.2.2.2.2.2.2.2⟩
theorem IC.n2 {B : Int} {c : CS} (h : IC B c) {v : Int} (hv : 0 ≤ v ∧ v ≤ 6) : IC B (sS c 2 v) := ⟨by have hs := h.1; show ICs B (sS c 2 v); unfold ICs at hs ⊢; simp only [sS, Nat.beq, cond]; omega, h.2.1, h.2.2.1, h.2.2.2.1, h.2.2.2.2.1, h.2.2.2.2.2.1, h.2.2.2.2.2.2.1, h.2.2.2.2.2.2.2.1, h.2.2.2.2.2.2.2.2.1, h.2.2.2.2.2.2.2.2.2.1, h.2.2.2.2.2.2.2.2.2.2.1, h.2.2.2.2.2.2.2.2.2.2.2.1, h.2.2.2.2.2.2.2.2.2.2.2.2.1, h.2.2.2.2.2.2.2.2.2.2.2.2.2.1, h.2.2.2.2.2.2.2.2.2.2.2.2.2.2.1, h.2.2.2.2.2.2.2.2.2.2.2.2.2.2.2⟩
theorem IC.n3 {B : Int} {c : CS} (h : IC B c) {v : Int} (hv : 0 ≤ v ∧ v ≤ 5) : IC B (sS c 3 v) := ⟨by have hs := h.1; show ICs B (sS c 3 v); unfold ICs at hs ⊢; simp only [sS, Nat.beq, cond]; omega, h.2.1, h.2.2.1, h.2.2.2.1, h.2.2.2.2.1, h.2.2.2.2.2.1, h.2.2.2.2.2.2.1, h.2.2.2.2.2.2.2.1, h.2.2.2.2.2.2.2.2.1, h.2.2.2.2.2.2.2.2.2.1, h.2.2.2.2.2.2.2.2.2.2.1, h.2.2.2.2.2.2.2.2.2.2.2.1, h.2.2.2.2.2.2.2.2.2.2.2.2.1, h.2.2.2.2.2.2.2.2.2.2.2.2.2.1, h.2.2.2.2.2.2.2.2.2.2.2.2.2.2.1, h.2.2.2.2.2.2.2.2.2.2.2.2.2.2.2⟩
theorem IC.n4 {B : Int} {c : CS} (h : IC B c) {v : Int} (hv : 0 ≤ v ∧ v ≤ 60) : IC B (sS c 4 v) := ⟨by have hs := h.1; show ICs B (sS c 4 v); unfold ICs at hs ⊢; simp only [sS, Nat.beq, cond]; omega, h.2.1, h.2.2.1, h.2.2.2.1, h.2.2.2.2.1, h.2.2.2.2.2.1, h.2.2.2.2.2.2.1, h.2.2.2.2.2.2.2.1, h.2.2.2.2.2.2.2.2.1, h.2.2.2.2.2.2.2.2.2.1, h.2.2.2.2.2.2.2.2.2.2.1, h.2.2.2.2.2.2.2.2.2.2.2.1, h.2.2.2.2.2.2.2.2.2.2.2.2.1, h.2.2.2.2.2.2.2.2.2.2.2.2.2.1, h.2.2.2.2.2.2.2.2.2.2.2.2.2.2.1, h.2.2.2.2.2.2.2.2.2.2.2.2.2.2.2⟩
theorem IC.n5 {B : Int} {c : CS} (h : IC B c) {v : Int} (hv : 0 ≤ v ∧ v ≤ 10) : IC B (sS c 5 v) := ⟨by have hs := h.1; show ICs B (sS c 5 v); unfold ICs at hs ⊢; simp only [sS, Nat.beq, cond]; omega, h.2.1, h.2.2.1, h.2.2.2.1, h.2.2.2.2.1, h.2.2.2.2.2.1, h.2.2.2.2.2.2.1, h.2.2.2.2.2.2.2.1, h.2.2.2.2.2.2.2.2.1, h.2.2.2.2.2.2.2.2.2.1, h.2.2.2.2.2.2.2.2.2.2.1, h.2.2.2.2.2.2.2.2.2.2.2.1, h.2.2.2.2.2.2.2.2.2.2.2.2.1, h.2.2.2.2.2.2.2.2.2.2.2.2.2.1, h.2.2.2.2.2.2.2.2.2.2.2.2.2.2.1, h.2.2.2.2.2.2.2.2.2.2.2.2.2.2.2⟩
theorem IC.mono {B B' : Int} {c : CS} (h : IC B c) (hB : B ≤ B' ∧ B' ≤ 1000000000) : IC B' c := ⟨by have hs := h.1; unfold ICs at hs ⊢; omega, h.2.1, h.2.2.1, h.2.2.2.1, fun j => by have := h.r3 j; omega, h.2.2.2.2.2.1, h.2.2.2.2.2.2.1, h.2.2.2.2.2.2.2.1, fun j => by have := h.r7 j; omega, h.2.2.2.2.2.2.2.2.2.1, h.2.2.2.2.2.2.2.2.2.2.1, h.2.2.2.2.2.2.2.2.2.2.2.1, h.2.2.2.2.2.2.2.2.2.2.2.2.1, h.2.2.2.2.2.2.2.2.2.2.2.2.2.1, h.2.2.2.2.2.2.2.2.2.2.2.2.2.2.1, h.2.2.2.2.2.2.2.2.2.2.2.2.2.2.2⟩
theorem rse_IC {B : Int} {c : CS} (h : IC B c) (v x y lv : Int) (hl : 1 ≤ lv ∧ lv ≤ 2) : IC B (rse c v x y lv) := by
  unfold rse
  by_cases q : inF x y
  · rw [if_pos q]
    have h2 := h.r2 (v * 400 + (y * 20 + x))
    exact h.u2 (by omega)
  · rw [if_neg q]; exact h
theorem cov5_IC {B : Int} {c : CS} (h : IC B c) (v x y : Int) : IC B (cov5 c v x y) := rse_IC (rse_IC (rse_IC (rse_IC (rse_IC h v x y 2 (by omega)) v (x - 1) y 1 (by omega)) v (x + 1) y 1 (by omega)) v x (y - 1) 1 (by omega)) v x (y + 1) 1 (by omega)
theorem shlw_b {B : Int} {c : CS} (h : IC B c) (v sp : Int) : 0 ≤ shlw c v sp ∧ shlw c v sp ≤ 20 := by
  have h1 := h.r0 v
  have h2 := h.r4 sp
  unfold shlw
  by_cases q : c.2 4 sp = 0 ∨ c.2 0 v < c.2 4 sp
  · rw [if_pos q]; exact h1
  · rw [if_neg q]; exact h2
theorem covW_IC {B : Int} {c : CS} (h : IC B c) (hB : B ≤ 999999991) (v sp : Int) : IC (B + 9) (covW c v sp) := by
  have h' := h.mono (B' := B + 9) (by omega)
  have hw := h.r3 sp
  have hf := h.r1 v
  have h1 : IC (B + 9) (sA c 3 (upZ (c.2 3) sp (c.2 3 sp + c.2 1 v))) := h'.u3 (by omega)
  exact h1.u4 (shlw_b h v sp)
theorem cov_IC {B : Int} {c : CS} (h : IC B c) (hB : B ≤ 999999991) (v x y : Int) : IC (B + 9) (cov c v x y) := covW_IC (cov5_IC h v x y) hB v _
theorem lay_IC {B : Int} {c : CS} (h : IC B c) (v x y dx dy : Int) : ∀ n : Nat, B + 9 * n ≤ 1000000000 → IC (B + 9 * n) (lay c v x y dx dy n)
  | 0, _ => h.mono (by have := h.s; omega)
  | n + 1, hn => (cov_IC (lay_IC h v x y dx dy n (by omega)) (by omega) v (x + (n : Int) * dx) (y + (n : Int) * dy)).mono (by omega)
theorem mrkC_IC {B : Int} {c : CS} (h : IC B c) {d sp : Int} (hd : 0 ≤ d ∧ d < 5) : IC B (mrkC c d sp) := by
  have hs := h.s
  unfold mrkC
  by_cases q : mrk c d sp
  · rw [if_pos q]
    have q2 : ¬ 60 ≤ c.1 4 := fun z => q (Or.inl z)
    exact (h.u8 (i := sp) (v := d) (by omega)).n4 (by omega)
  · rw [if_neg q]; exact h
theorem payD_c (c : CS) (q f : Int) : ∀ n : Nat, (payD c q f n).1 = c.1 ∧ ∀ k : Nat, k ≠ 7 → (payD c q f n).2 k = c.2 k
  | 0 => ⟨rfl, fun _ _ => rfl⟩
  | n + 1 => ⟨(payD_c c q f n).1, fun k hk => by
      have h1 := (payD_c c q f n).2 k hk
      show (bif Nat.beq k 7 then _ else (payD c q f n).2 k) = c.2 k
      have h2 : Nat.beq k 7 = false := by
        cases hb : Nat.beq k 7 with
        | false => rfl
        | true => exact absurd (Nat.eq_of_beq_eq_true hb) hk
      rw [h2]
      exact h1⟩
theorem payD_shr (c : CS) (q f : Int) (n : Nat) (q' d f' : Int) : shr (payD c q f n) q' d f' = shr c q' d f' := by
  have h := (payD_c c q f n).2
  unfold shr allS stOn stk
  rw [h 14 (by decide), h 15 (by decide)]
theorem payD_row (c : CS) (q f : Int) : ∀ (n : Nat) (j : Int), (payD c q f n).2 7 j = if 0 ≤ j ∧ j < n then c.2 7 j + shr c q j f else c.2 7 j
  | 0, j => by rw [if_neg (by omega)]; rfl
  | n + 1, j => by
    have h1 := payD_row c q f n j
    show upZ ((payD c q f n).2 7) (n : Int) ((payD c q f n).2 7 (n : Int) + shr (payD c q f n) q (n : Int) f) j = _
    rw [payD_shr]
    unfold upZ
    by_cases e : j = n
    · subst e
      have h2 := payD_row c q f n (n : Int)
      rw [if_neg (by omega)] at h2
      rw [if_pos rfl, if_pos (by omega), h2]
    · rw [if_neg e, h1]
      by_cases e2 : 0 ≤ j ∧ j < n
      · rw [if_pos e2, if_pos (by omega)]
      · rw [if_neg e2, if_neg (by omega)]
theorem payD_IC {B : Int} {c : CS} (h : IC B c) (hB : B ≤ 900000000) (q f : Int) : ∀ n : Nat, IC (B + 100000) (payD c q f n)
  | 0 => h.mono (by omega)
  | n + 1 => by
    have h1 := (shr_b h q (n : Int) f).2.2
    have h2 := h.r7 (n : Int)
    have h3 := payD_row c q f n (n : Int)
    rw [if_neg (by omega)] at h3
    have h4 := payD_shr c q f n q (n : Int) f
    exact (payD_IC h hB q f n).u7 (by rw [h3, h4]; omega)
theorem payC_IC {B : Int} {c : CS} (h : IC B c) (hB : B ≤ 900000000) (q : Int) : IC (B + 100000) (payC c q) := (payD_IC h hB q _ _).n1
theorem wkC_IC {B : Int} {c : CS} (h : IC B c) {d : Int} (hd : 0 ≤ d ∧ d < 5) (f : Nat → Int) : ∀ n : Nat, IC B (wkC c d f n)
  | 0 => h
  | n + 1 => mrkC_IC (wkC_IC h hd f n) hd
theorem sgn_in {x y tx ty : Int} (h : (0 ≤ x ∧ x ≤ 19) ∧ (0 ≤ y ∧ y ≤ 19) ∧ (0 ≤ tx ∧ tx ≤ 19) ∧ 0 ≤ ty ∧ ty ≤ 19) (hs : x = tx ∨ y = ty ∨ ab (tx - x) = ab (ty - y)) {k : Int} (hk : 0 ≤ k ∧ k ≤ max (ab (tx - x)) (ab (ty - y))) : (0 ≤ x + k * sgn (tx - x) ∧ x + k * sgn (tx - x) ≤ 19) ∧ 0 ≤ y + k * sgn (ty - y) ∧ y + k * sgn (ty - y) ≤ 19 := by
  have e1 : sgn (tx - x) = 1 ∧ 0 < tx - x ∨ sgn (tx - x) = 0 ∧ tx = x ∨ sgn (tx - x) = -1 ∧ tx - x < 0 := by unfold sgn; omega
  have e2 : sgn (ty - y) = 1 ∧ 0 < ty - y ∨ sgn (ty - y) = 0 ∧ ty = y ∨ sgn (ty - y) = -1 ∧ ty - y < 0 := by unfold sgn; omega
  unfold ab at hs hk
  rcases e1 with ⟨e1, h1⟩ | ⟨e1, h1⟩ | ⟨e1, h1⟩ <;> rcases e2 with ⟨e2, h2⟩ | ⟨e2, h2⟩ | ⟨e2, h2⟩ <;> rw [e1, e2] <;> omega
