/-! EVERY CALL KEEPS THEM TOGETHER -/
section RSS
variable {c : CS} {t : SS} {B : Int}
theorem R_start : RS c00 s00 := by
  sorry
theorem IC_start : IC 100 c00 := by
  sorry
theorem IT_start : IT s00 := by
  sorry
theorem R_dow (h : RS c t) (hI : IC B c) (hT : IT t) {fl ln : Int} (hf : 0 ≤ fl ∧ fl ≤ 9) (hl : -3 ≤ ln ∧ ln ≤ 3) (hn : t.1 3 < 5) (h0 : t.1 5 = 0) : RS (dowC c fl ln) (sAdd t 1 (drow fl ln)) := by
  sorry
theorem IT_dow (hT : IT t) {fl ln : Int} (hf : 0 ≤ fl ∧ fl ≤ 9) (hl : -3 ≤ ln ∧ ln ≤ 3) (hn : t.1 3 < 5) : IT (sAdd t 1 (drow fl ln)) := by
  sorry
theorem IC_dow (hI : IC B c) (hB : 50 ≤ B) {fl ln : Int} (hf : 0 ≤ fl ∧ fl ≤ 9) (hl : -3 ≤ ln ∧ ln ≤ 3) (hn : c.1 3 < 5) : IC B (dowC c fl ln) := by
  sorry
theorem R_vein (h : RS c t) (hI : IC B c) (hT : IT t) {x y tx ty dp fl : Int} (hn : t.1 2 < 6) (hf : inF x y ∧ inF tx ty) (hs : strt x y tx ty) (hd : 1 ≤ dp ∧ dp ≤ 20) (hl : 1 ≤ fl ∧ fl ≤ 9) : RS (veinC c x y tx ty dp fl) (sAdd t 0 (vrow x y tx ty dp fl)) := by
  sorry
theorem R_vein2 (h : RS c t) (hI : IC B c) (hT : IT t) {x y tx ty dp fl : Int} (hn : t.1 2 < 6) (hf : inF x y ∧ inF tx ty) (hs : strt x y tx ty) (hd : 1 ≤ dp ∧ dp ≤ 20) (hl : 1 ≤ fl ∧ fl ≤ 9) : RS (veinC c tx ty x y dp fl) (sAdd t 0 (vrow x y tx ty dp fl)) := by
  sorry
theorem IT_vein (hT : IT t) {x y tx ty dp fl : Int} (hn : t.1 2 < 6) (hf : inF x y ∧ inF tx ty) (hd : 1 ≤ dp ∧ dp ≤ 20) (hl : 1 ≤ fl ∧ fl ≤ 9) : IT (sAdd t 0 (vrow x y tx ty dp fl)) := by
  sorry
theorem IC_vein (hI : IC B c) (hB : B ≤ 900000000) {x y tx ty dp fl : Int} (hn : c.1 2 < 6) (hf : inF x y ∧ inF tx ty) (hd : 1 ≤ dp ∧ dp ≤ 20) (hl : 1 ≤ fl ∧ fl ≤ 9) : IC (B + 100000) (veinC c x y tx ty dp fl) := by
  sorry
theorem kVein_3 {x y tx ty dp fl : Int} (hf : inF x y ∧ inF tx ty) (hs : strt x y tx ty) (hd : 1 ≤ dp ∧ dp ≤ 20) (hl : 1 ≤ fl ∧ fl ≤ 9) : kVein c x y tx ty dp fl = if c.1 2 < 6 then 0 else 3 := by
  sorry
theorem IC_up {B' : Int} (hI : IC B c) (hB : B ≤ B' ∧ B' ≤ 1000000000) : IC B' c := by
  sorry
theorem R_mark (h : RS c t) {mk : Int} : RS (sS c 0 mk) (tS t 0 mk) := by
  sorry
theorem IC_mark (hI : IC B c) {mk : Int} (hm : 1 ≤ mk ∧ mk ≤ 30) : IC B (sS c 0 mk) := by
  sorry
theorem IT_mark (hT : IT t) {mk : Int} (hm : 1 ≤ mk ∧ mk ≤ 30) : IT (tS t 0 mk) := by
  sorry
theorem R_walk (h : RS c t) (hI : IC B c) (hT : IT t) {d x y tx ty : Int} (hd : 0 ≤ d ∧ d < t.1 3) (hf : inF x y ∧ inF tx ty) : RS (walkC c d x y tx ty) (skW t d x y tx ty) ∧ walkR c d x y tx ty = (skW t d x y tx ty).1 4 - t.1 4 := by
  sorry
theorem IC_walk (hI : IC B c) {d x y tx ty : Int} (hd : 0 ≤ d ∧ d < 5) : IC B (walkC c d x y tx ty) := by
  sorry
theorem IT_walk (hT : IT t) {d x y tx ty : Int} (hd : 0 ≤ d ∧ d < t.1 3) (hf : inF x y ∧ inF tx ty) : IT (skW t d x y tx ty) := by
  sorry
/-- the class's peg at a spot, by the law's own field -/
theorem R_peg (h : RS c t) {x y : Int} (hf : inF x y) : c.2 8 (y * 20 + x) = if sPA t x y = -1 then -1 else t.2 2 (sPA t x y) 2 := by
  sorry
theorem R_pull (h : RS c t) (hI : IC B c) (hT : IT t) {x y : Int} (hf : inF x y) (hk : 0 ≤ sPA t x y) : RS (pullC c x y) (sDel t (sPA t x y)) := by
  sorry
theorem IC_pull (hI : IC B c) {x y : Int} (hn : 1 ≤ c.1 4) : IC B (pullC c x y) := by
  sorry
theorem IT_pull (hT : IT t) {j : Int} (hj : 0 ≤ j ∧ j < t.1 4) : IT (sDel t j) := by
  sorry
theorem R_at (h : RS c t) {x y : Int} (hf : inF x y) : c.2 10 (y * 20 + x) = sQA t x y := by
  sorry
theorem R_pit (h : RS c t) (hI : IC B c) (hT : IT t) {x y : Int} (hf : inF x y) (hn : t.1 5 < 10) (ha : sQA t x y = -1) : RS (pitC c x y) (sAdd t 3 (qrow x y (sDep t x y))) := by
  sorry
theorem IC_pit (hI : IC B c) {x y : Int} (hf : inF x y) (hn : c.1 5 < 10) : IC B (pitC c x y) := by
  sorry
theorem IT_pit (hT : IT t) {x y : Int} (hf : inF x y) (hn : t.1 5 < 10) : IT (sAdd t 3 (qrow x y (sDep t x y))) := by
  sorry
theorem R_bet (h : RS c t) (hI : IC B c) (hT : IT t) {d q co9 f v : Int} (hd : 0 ≤ d ∧ d < t.1 3) (hq : 0 ≤ q ∧ q < t.1 5) (hc : 1 ≤ co9 ∧ co9 ≤ 99) (hv : (f = 1 ∧ v = co9) ∨ (f = 0 ∧ v = -co9)) (hg : t.2 3 q 3 = 0) (hb : t.2 3 q (4 + d) = 0) (hm : co9 ≤ t.2 1 d 2) : RS (betC c d q co9 f) (sBet t d q co9 v) := by
  sorry
theorem IC_bet (hI : IC B c) {d q co9 f : Int} (hd : 0 ≤ d ∧ d < 5) (hq : 0 ≤ q ∧ q < 10) (hc : 1 ≤ co9 ∧ co9 ≤ 99) (hf : 0 ≤ f ∧ f ≤ 1) (hm : co9 ≤ c.2 7 d) : IC B (betC c d q co9 f) := by
  sorry
theorem IT_bet (hT : IT t) {d q co9 v : Int} (hd : 0 ≤ d ∧ d < t.1 3) (hq : 0 ≤ q ∧ q < t.1 5) (hc : 1 ≤ co9 ∧ co9 ≤ 99) (hv : v = co9 ∨ v = -co9) : IT (sBet t d q co9 v) := by
  sorry
theorem kBet_3 (h : RS c t) {d q co9 : Int} (hd : 0 ≤ d ∧ d < t.1 3) (hq : 0 ≤ q ∧ q < t.1 5) (hc : 1 ≤ co9 ∧ co9 ≤ 99) (hT : IT t) : kBet c d q co9 = if t.2 3 q 3 = 0 ∧ t.2 3 q (4 + d) = 0 ∧ co9 ≤ t.2 1 d 2 then 0 else 3 := by
  sorry
theorem R_over (h : RS c t) (hT : IT t) {q : Int} (hq : 0 ≤ q ∧ q < t.1 5) : over c q ↔ sOv t q := by
  sorry
theorem R_dig (h : RS c t) (hI : IC B c) (hT : IT t) {q by9 : Int} (hq : 0 ≤ q ∧ q < t.1 5) (hb : 1 ≤ by9 ∧ by9 ≤ 20) (ho : ¬ sOv t q) : RS (digC1 c q by9) (sDig t q by9) ∧ dpn c q by9 = sDg t q by9.toNat := by
  sorry
theorem IC_dig (hI : IC B c) (hB : B ≤ 900000000) {q by9 : Int} (hb : 1 ≤ by9 ∧ by9 ≤ 20) : IC (B + 100000) (digC1 c q by9) := by
  sorry
theorem IT_dig (hT : IT t) {q by9 : Int} (hq : 0 ≤ q ∧ q < t.1 5) : IT (sDig t q by9) := by
  sorry
end RSS
