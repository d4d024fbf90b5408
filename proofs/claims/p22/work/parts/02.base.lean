/-! BASE: whole numbers as Int, rows over them, contracts of one form -/
def zI (z : Int) : Int32 := Int32.ofInt z
abbrev I32 (z : Int) : Prop := -2147483648 ≤ z ∧ z ≤ 2147483647
theorem zI_toInt {z : Int} (h : I32 z) : (zI z).toInt = z := Int32.toInt_ofInt_of_le (by omega) (by omega)
theorem zI_add (a b : Int) : zI a + zI b = zI (a + b) := (Int32.ofInt_add a b).symm
theorem zI_sub (a b : Int) : zI a - zI b = zI (a - b) := (Int32.ofInt_sub a b).symm
theorem zI_mul (a b : Int) : zI a * zI b = zI (a * b) := (Int32.ofInt_mul a b).symm
theorem zI_neg (a : Int) : -zI a = zI (-a) := (Int32.ofInt_neg a).symm
theorem zI_le {a b : Int} (ha : I32 a) (hb : I32 b) : zI a ≤ zI b ↔ a ≤ b := by rw [Int32.le_iff_toInt_le, zI_toInt ha, zI_toInt hb]
theorem zI_lt {a b : Int} (ha : I32 a) (hb : I32 b) : zI a < zI b ↔ a < b := by rw [Int32.lt_iff_toInt_lt, zI_toInt ha, zI_toInt hb]
theorem zI_eq {a b : Int} (ha : I32 a) (hb : I32 b) : zI a = zI b ↔ a = b := by rw [← Int32.toInt_inj, zI_toInt ha, zI_toInt hb]
theorem zI_of (x : Int32) : x = zI x.toInt := (Int32.ofInt_toInt x).symm
theorem I32_of (x : Int32) : I32 x.toInt := by
  have h1 := x.toInt_lt
  have h2 := x.le_toInt
  constructor <;> omega
theorem zI_nI (n : Nat) : nI n = zI (n : Int) := Int32.ofInt_eq_ofNat.symm
theorem zI_clamp {z : Int} (h : 0 ≤ z ∧ z ≤ 2147483647) : (((zI z).toNatClampNeg : Nat) : Int) = z := by
  show (((zI z).toInt.toNat : Nat) : Int) = z
  rw [zI_toInt (by omega)]
  omega
theorem zI_in {i : Int} {n : Nat} (h : 0 ≤ i ∧ i < (n : Int)) (hn : n < 2147483648) : vp_in (zI i) n := by
  rw [vp_in_iff, zI_toInt (by omega)]
  exact h
theorem zI_div {a b : Int} (ha : I32 a) (hb : I32 b) : zI a / zI b = zI (a.tdiv b) := by
  refine (Int32.ofInt_tdiv ?_ ?_ ?_ ?_).symm
  · exact ha.1
  · exact ha.2
  · exact hb.1
  · exact hb.2
theorem zI_divn {a b : Int} (h : 0 ≤ a ∧ a ≤ 2147483647 ∧ 0 < b ∧ b ≤ 2147483647) : zI a / zI b = zI (a / b) := by
  rw [zI_div (by omega) (by omega), Int.tdiv_eq_ediv_of_nonneg h.1]
theorem zI_remn {a b : Int} (h : 0 ≤ a ∧ a ≤ 2147483647 ∧ 0 < b ∧ b ≤ 2147483647) : zI a - zI a / zI b * zI b = zI (a % b) := by
  rw [zI_divn h, zI_mul, zI_sub]
  congr 1
  rw [Int.emod_def, Int.mul_comm]
theorem zI_ne0 {b : Int} (h : I32 b) (h0 : b ≠ 0) : ¬ zI b = 0 := fun q => h0 ((zI_eq h (by decide)).mp (show zI b = zI 0 from q))
/-- the contents of an array of ints -/
def zA (F : Int → Int) : Nat → Int32 := fun j => zI (F (j : Int))
def upZ (F : Int → Int) (i v : Int) : Int → Int := fun j => if j = i then v else F j
theorem upZ_same {F : Int → Int} {i v : Int} : upZ F i v i = v := if_pos rfl
theorem upZ_ne {F : Int → Int} {i v j : Int} (h : j ≠ i) : upZ F i v j = F j := if_neg h
theorem zA_at {F : Int → Int} {i : Int} (h : 0 ≤ i ∧ i ≤ 2147483647) : zA F (zI i).toNatClampNeg = zI (F i) := by
  show zI (F (((zI i).toNatClampNeg : Nat) : Int)) = _
  rw [zI_clamp h]
theorem zA_up {F : Int → Int} {i v : Int} (h : 0 ≤ i ∧ i ≤ 2147483647) : upd (zA F) (zI i).toNatClampNeg (zI v) = zA (upZ F i v) := by
  have hc := zI_clamp h
  funext j
  by_cases hj : (j : Int) = i
  · have hj2 : j = (zI i).toNatClampNeg := by omega
    simp only [upd, zA, upZ, if_pos hj, if_pos hj2]
  · have hj2 : ¬ j = (zI i).toNatClampNeg := by omega
    simp only [upd, zA, upZ, if_neg hj, if_neg hj2]
/-- 1 if so, else 0 -/
def b01 (P : Prop) [Decidable P] : Int := if P then 1 else 0
theorem b01_t {P : Prop} [Decidable P] (h : P) : b01 P = 1 := if_pos h
theorem b01_f {P : Prop} [Decidable P] (h : ¬ P) : b01 P = 0 := if_neg h
theorem b01_01 (P : Prop) [Decidable P] : 0 ≤ b01 P ∧ b01 P ≤ 1 := by
  by_cases h : P
  · rw [b01_t h]; decide
  · rw [b01_f h]; decide
theorem b01_eq {P : Prop} [Decidable P] : b01 P = 1 ↔ P := by
  by_cases h : P
  · rw [b01_t h]; exact ⟨fun _ => h, fun _ => rfl⟩
  · rw [b01_f h]; exact ⟨fun q => absurd q (by decide), fun q => absurd q h⟩
theorem b01_congr {P P' : Prop} [Decidable P] [Decidable P'] (h : P ↔ P') : b01 P = b01 P' := by
  by_cases q : P
  · rw [b01_t q, b01_t (h.mp q)]
  · rw [b01_f q, b01_f (fun z => q (h.mpr z))]
/-- the sum of f 0, .. f (n-1) -/
def sm (f : Int → Int) : Nat → Int
  | 0 => 0
  | n + 1 => sm f n + f (n : Int)
/-- the same reckoned on a long: d = d * 31 + f k -/
def dg (f : Int → Int) (d : Int64) : Nat → Int64
  | 0 => d
  | n + 1 => dg f d n * 31 + (zI (f (n : Int))).toInt64
/-- facts of the tables that no list of words carries: links to nest mates, and text constants -/
def NWl : List (String × Nat × MethodName × String) := [(RX2, 76, yX4_columnOf, RX4), (RX2, 79, yX4_rowOf, RX4), (RX2, 66, yX4_quotient, RX4), (RX1, 28, yX4_columnOf, RX4), (RX1, 32, yX4_rowOf, RX4), (RX1, 39, yX4_inField, RX4), (RX1, 43, yX4_spotAt, RX4), (RX1, 50, yX4_distance, RX4), (RX3, 57, yX4_inField, RX4), (RX3, 54, yX4_spotAt, RX4), (RX3, 61, yX4_quotient, RX4)]
def NW (U : State) : Prop := ∀ q ∈ NWl, va_Nw (.methodLinkNest q.1 q.2.1 q.2.2.1 q.2.2.2) U
theorem NW.same {u U : State} (h : u.vm = U.vm) (q : NW u) : NW U := fun w hw => va_Nw.same rfl h (q w hw)
theorem NW.warm {s U : State} (hW : s.WarmedH U.vm) (q : NW s) : NW U := fun w hw => va_Nw.warmM hW (q w hw)
/-- what the tables say: the classes of the worlds, of int[], boolean[], long[]; nest links -/
abbrev tysG (g : ClassId × ClassId × ClassId) : List (ClassId × FieldType) := [(g.1, .int), (g.2.1, .boolean), (g.2.2, .array .int)]
def KG (D : va_G) (g : ClassId × ClassId × ClassId) (U : State) : Prop := va_K D vwCl (tysG g) U ∧ NW U ∧ va_AOA .int U
theorem KG.warm {D : va_G} {g : ClassId × ClassId × ClassId} {s U : State} (hW : s.WarmedH U.vm) (h : KG D g s) : KG D g U := ⟨va_K.moved hW.alike h.1, h.2.1.warm hW, h.2.2.moved hW.alike⟩
theorem KG.calling {D : va_G} {g : ClassId × ClassId × ClassId} {U : State} (f : JFrame) (mk : MethodId) (a : Array Value) (h : KG D g U) : KG D g (U.calling f mk a) := ⟨va_K.moved (u := U) (U := U.calling f mk a) (Vm.Alike.refl U.vm) h.1, h.2.1.same rfl, va_AOA.moved (u := U) (U := U.calling f mk a) (Vm.Alike.refl U.vm) h.2.2⟩
/-- a method's start: the world ws -/
def PW (D : va_G) (g : ClassId × ClassId × ClassId) (ws : va_W) : State → Prop := fun U => va_P D vwCl ws U.heap ∧ KG D g U
theorem PW.blind {D : va_G} {g : ClassId × ClassId × ClassId} {ws : va_W} {As : List Value} : FrameBlind (va_Pc As (PW D g ws)) := fun a U f mk h => ⟨h.1, h.2.1, h.2.2.calling f mk a⟩
/-- a method's words: its own code, and all good words of the tables -/
abbrev WS (y : MethodName) (b : ByteArray) (n : Nat) (ret : Option FieldType) : List Cond := .code y b n ret :: AW
theorem gin_AW : GoodIn AW AW := fun w h => ⟨h, good_of_word (AW_good w h)⟩
theorem gin_WS {y : MethodName} {b : ByteArray} {n : Nat} {ret : Option FieldType} (h : Cond.code y b n ret ∈ AW) : GoodIn AW (WS y b n ret) := fun w hw => (List.mem_cons.mp hw).elim (fun e => by rw [e]; exact gin_AW _ h) (fun q => gin_AW w q)
theorem gin_4 {w1 w2 w3 w4 : Cond} {ws : List Cond} (h1 : w1 ∈ AW) (h2 : w2 ∈ AW) (h3 : w3 ∈ AW) (h4 : w4 ∈ AW) (h : GoodIn AW ws) : GoodIn AW ([w1, w2, w3, w4] ++ ws) := fun w hw => by
  rcases List.mem_append.mp hw with q | q
  · rcases List.mem_cons.mp q with e | q
    · rw [e]; exact gin_AW _ h1
    rcases List.mem_cons.mp q with e | q
    · rw [e]; exact gin_AW _ h2
    rcases List.mem_cons.mp q with e | q
    · rw [e]; exact gin_AW _ h3
    rcases List.mem_cons.mp q with e | q
    · rw [e]; exact gin_AW _ h4
    · exact absurd q List.not_mem_nil
  · exact h w q
theorem gin_3 {w1 w2 w3 : Cond} {ws : List Cond} (h1 : w1 ∈ AW) (h2 : w2 ∈ AW) (h3 : w3 ∈ AW) (h : GoodIn AW ws) : GoodIn AW ([w1, w2, w3] ++ ws) := fun w hw => by
  rcases List.mem_append.mp hw with q | q
  · rcases List.mem_cons.mp q with e | q
    · rw [e]; exact gin_AW _ h1
    rcases List.mem_cons.mp q with e | q
    · rw [e]; exact gin_AW _ h2
    rcases List.mem_cons.mp q with e | q
    · rw [e]; exact gin_AW _ h3
    · exact absurd q List.not_mem_nil
  · exact h w q
section ZR
variable {p : Program} {l : Launch} {e : Env} {R : Room} {s : State} {m : MethodId} {args : Array Value} {below : List Frame} {meth : Method} {c : Code} {H : Heap} {locs : List Loc} {cells slots : Nat} {Q : State → Prop}
variable {cc : ByteArray} {nL pc : Nat} {Ts : List Cond} {own : String} {ls : Array Slot} {rest st0 : List Value} {D : va_G} {A : Nat → Prop} {a0 : Nat} {g : ClassId × ClassId × ClassId} {ws wc wc' : va_W} {H0 : Heap}
theorem z_iconst (S : CallFix p m c cc nL s args Ts own) {n : Int} (hdg : decode cc pc = .ok (.iconst n, 1))
    (k : W p l e R s m args below meth c H locs cells slots Q (F0 m (pc + 1) ls (.int (zI n) :: rest))) : W p l e R s m args below meth c H locs cells slots Q (F0 m pc ls rest) := lv_iconst S.1 S.2.1 hdg rfl k
theorem z_bipush (S : CallFix p m c cc nL s args Ts own) {n : Int} (hv : (Int8.ofInt n).toInt32 = zI n) (hdg : decode cc pc = .ok (.bipush n, 2))
    (k : W p l e R s m args below meth c H locs cells slots Q (F0 m (pc + 2) ls (.int (zI n) :: rest))) : W p l e R s m args below meth c H locs cells slots Q (F0 m pc ls rest) := lv_bipush S.1 S.2.1 hdg hv k
theorem z_sipush (S : CallFix p m c cc nL s args Ts own) {n : Int} (hv : (Int16.ofInt n).toInt32 = zI n) (hdg : decode cc pc = .ok (.sipush n, 3))
    (k : W p l e R s m args below meth c H locs cells slots Q (F0 m (pc + 3) ls (.int (zI n) :: rest))) : W p l e R s m args below meth c H locs cells slots Q (F0 m pc ls rest) := lv_sipush S.1 S.2.1 hdg hv k
theorem z_iadd (S : CallFix p m c cc nL s args Ts own) {a b : Int} (hdg : decode cc pc = .ok (.iadd, 1)) (k : W p l e R s m args below meth c H locs cells slots Q (F0 m (pc + 1) ls (.int (zI (a + b)) :: rest))) : W p l e R s m args below meth c H locs cells slots Q (F0 m pc ls (.int (zI b) :: .int (zI a) :: rest)) := lv_iadd S.1 S.2.1 hdg (by rw [zI_add]; exact k)
theorem z_isub (S : CallFix p m c cc nL s args Ts own) {a b : Int} (hdg : decode cc pc = .ok (.isub, 1)) (k : W p l e R s m args below meth c H locs cells slots Q (F0 m (pc + 1) ls (.int (zI (a - b)) :: rest))) : W p l e R s m args below meth c H locs cells slots Q (F0 m pc ls (.int (zI b) :: .int (zI a) :: rest)) := lv_isub S.1 S.2.1 hdg (by rw [zI_sub]; exact k)
theorem z_imul (S : CallFix p m c cc nL s args Ts own) {a b : Int} (hdg : decode cc pc = .ok (.imul, 1)) (k : W p l e R s m args below meth c H locs cells slots Q (F0 m (pc + 1) ls (.int (zI (a * b)) :: rest))) : W p l e R s m args below meth c H locs cells slots Q (F0 m pc ls (.int (zI b) :: .int (zI a) :: rest)) := lv_imul S.1 S.2.1 hdg (by rw [zI_mul]; exact k)
theorem z_ineg (S : CallFix p m c cc nL s args Ts own) {a : Int} (hdg : decode cc pc = .ok (.ineg, 1)) (k : W p l e R s m args below meth c H locs cells slots Q (F0 m (pc + 1) ls (.int (zI (-a)) :: rest))) : W p l e R s m args below meth c H locs cells slots Q (F0 m pc ls (.int (zI a) :: rest)) := lv_ineg S.1 S.2.1 hdg (by rw [zI_neg]; exact k)
theorem z_idivn (S : CallFix p m c cc nL s args Ts own) {a b : Int} (h : 0 ≤ a ∧ a ≤ 2147483647 ∧ 0 < b ∧ b ≤ 2147483647) (hdg : decode cc pc = .ok (.idiv, 1)) (k : W p l e R s m args below meth c H locs cells slots Q (F0 m (pc + 1) ls (.int (zI (a / b)) :: rest))) : W p l e R s m args below meth c H locs cells slots Q (F0 m pc ls (.int (zI b) :: .int (zI a) :: rest)) := lv_idiv S.1 S.2.1 hdg (zI_ne0 (by omega) (by omega)) (by rw [zI_divn h]; exact k)
theorem z_idiv (S : CallFix p m c cc nL s args Ts own) {a b : Int} (h : I32 a ∧ I32 b ∧ b ≠ 0) (hdg : decode cc pc = .ok (.idiv, 1)) (k : W p l e R s m args below meth c H locs cells slots Q (F0 m (pc + 1) ls (.int (zI (a.tdiv b)) :: rest))) : W p l e R s m args below meth c H locs cells slots Q (F0 m pc ls (.int (zI b) :: .int (zI a) :: rest)) := lv_idiv S.1 S.2.1 hdg (zI_ne0 h.2.1 h.2.2) (by rw [zI_div h.1 h.2.1]; exact k)
theorem z_iremn (S : CallFix p m c cc nL s args Ts own) {a b : Int} (h : 0 ≤ a ∧ a ≤ 2147483647 ∧ 0 < b ∧ b ≤ 2147483647) (hdg : decode cc pc = .ok (.irem, 1)) (k : W p l e R s m args below meth c H locs cells slots Q (F0 m (pc + 1) ls (.int (zI (a % b)) :: rest))) : W p l e R s m args below meth c H locs cells slots Q (F0 m pc ls (.int (zI b) :: .int (zI a) :: rest)) := lv_irem S.1 S.2.1 hdg (zI_ne0 (by omega) (by omega)) (by rw [zI_remn h]; exact k)
theorem z_iinc (S : CallFix p m c cc nL s args Ts own) {i k : Nat} {n a : Int} {lv lv' : List (Nat × Value)} (hdg : decode cc pc = .ok (.iinc i n, 3)) (h : lv_has ls nL lv) (hk : lv[k]? = some (i, .int (zI a))) (hn : i < nL) (hl : (i, Value.int (zI (a + n))) :: lv.filter (fun q => !(q.1 == i) && !(q.1 + 1 == i && q.2.category == 2)) = lv')
    (kk : ∀ ls' : Array Slot, lv_has ls' nL lv' → W p l e R s m args below meth c H locs cells slots Q (F0 m (pc + 3) ls' rest)) : W p l e R s m args below meth c H locs cells slots Q (F0 m pc ls rest) := lv_iinc S.1 S.2.1 hdg h hk (zI_add a n) hn hl kk
theorem z_icmp_eq (S : CallFix p m c cc nL s args Ts own) {a b off : Int} {tgt : Nat} (hdg : decode cc pc = .ok (.if_icmp .eq off, 3)) (ht : (pc : Int) + off = (tgt : Int)) (hab : I32 a ∧ I32 b)
    (kt : a = b → W p l e R s m args below meth c H locs cells slots Q (F0 m tgt ls rest)) (kf : ¬ a = b → W p l e R s m args below meth c H locs cells slots Q (F0 m (pc + 3) ls rest)) : W p l e R s m args below meth c H locs cells slots Q (F0 m pc ls (.int (zI b) :: .int (zI a) :: rest)) := lv_icmp_eq S.1 S.2.1 hdg ht (fun h => kt ((zI_eq hab.1 hab.2).mp h)) (fun h => kf (fun q => h ((zI_eq hab.1 hab.2).mpr q)))
theorem z_icmp_ne (S : CallFix p m c cc nL s args Ts own) {a b off : Int} {tgt : Nat} (hdg : decode cc pc = .ok (.if_icmp .ne off, 3)) (ht : (pc : Int) + off = (tgt : Int)) (hab : I32 a ∧ I32 b)
    (kt : ¬ a = b → W p l e R s m args below meth c H locs cells slots Q (F0 m tgt ls rest)) (kf : a = b → W p l e R s m args below meth c H locs cells slots Q (F0 m (pc + 3) ls rest)) : W p l e R s m args below meth c H locs cells slots Q (F0 m pc ls (.int (zI b) :: .int (zI a) :: rest)) := lv_icmp_ne S.1 S.2.1 hdg ht (fun h => kt (fun q => h ((zI_eq hab.1 hab.2).mpr q))) (fun h => kf ((zI_eq hab.1 hab.2).mp h))
theorem z_icmp_lt (S : CallFix p m c cc nL s args Ts own) {a b off : Int} {tgt : Nat} (hdg : decode cc pc = .ok (.if_icmp .lt off, 3)) (ht : (pc : Int) + off = (tgt : Int)) (hab : I32 a ∧ I32 b)
    (kt : a < b → W p l e R s m args below meth c H locs cells slots Q (F0 m tgt ls rest)) (kf : b ≤ a → W p l e R s m args below meth c H locs cells slots Q (F0 m (pc + 3) ls rest)) : W p l e R s m args below meth c H locs cells slots Q (F0 m pc ls (.int (zI b) :: .int (zI a) :: rest)) := lv_icmp_lt S.1 S.2.1 hdg ht (fun h => kt ((zI_lt hab.1 hab.2).mp h)) (fun h => kf (Int.not_lt.mp (fun q => h ((zI_lt hab.1 hab.2).mpr q))))
theorem z_icmp_ge (S : CallFix p m c cc nL s args Ts own) {a b off : Int} {tgt : Nat} (hdg : decode cc pc = .ok (.if_icmp .ge off, 3)) (ht : (pc : Int) + off = (tgt : Int)) (hab : I32 a ∧ I32 b)
    (kt : b ≤ a → W p l e R s m args below meth c H locs cells slots Q (F0 m tgt ls rest)) (kf : a < b → W p l e R s m args below meth c H locs cells slots Q (F0 m (pc + 3) ls rest)) : W p l e R s m args below meth c H locs cells slots Q (F0 m pc ls (.int (zI b) :: .int (zI a) :: rest)) := lv_icmp_ge S.1 S.2.1 hdg ht (fun h => kt ((zI_le hab.2 hab.1).mp h)) (fun h => kf (Int.not_le.mp (fun q => h ((zI_le hab.2 hab.1).mpr q))))
theorem z_icmp_gt (S : CallFix p m c cc nL s args Ts own) {a b off : Int} {tgt : Nat} (hdg : decode cc pc = .ok (.if_icmp .gt off, 3)) (ht : (pc : Int) + off = (tgt : Int)) (hab : I32 a ∧ I32 b)
    (kt : b < a → W p l e R s m args below meth c H locs cells slots Q (F0 m tgt ls rest)) (kf : a ≤ b → W p l e R s m args below meth c H locs cells slots Q (F0 m (pc + 3) ls rest)) : W p l e R s m args below meth c H locs cells slots Q (F0 m pc ls (.int (zI b) :: .int (zI a) :: rest)) := lv_icmp_gt S.1 S.2.1 hdg ht (fun h => kt ((zI_lt hab.2 hab.1).mp h)) (fun h => kf (Int.not_lt.mp (fun q => h ((zI_lt hab.2 hab.1).mpr q))))
theorem z_icmp_le (S : CallFix p m c cc nL s args Ts own) {a b off : Int} {tgt : Nat} (hdg : decode cc pc = .ok (.if_icmp .le off, 3)) (ht : (pc : Int) + off = (tgt : Int)) (hab : I32 a ∧ I32 b)
    (kt : a ≤ b → W p l e R s m args below meth c H locs cells slots Q (F0 m tgt ls rest)) (kf : b < a → W p l e R s m args below meth c H locs cells slots Q (F0 m (pc + 3) ls rest)) : W p l e R s m args below meth c H locs cells slots Q (F0 m pc ls (.int (zI b) :: .int (zI a) :: rest)) := lv_icmp_le S.1 S.2.1 hdg ht (fun h => kt ((zI_le hab.1 hab.2).mp h)) (fun h => kf (Int.not_le.mp (fun q => h ((zI_le hab.1 hab.2).mpr q))))
theorem z_if_eq (S : CallFix p m c cc nL s args Ts own) {a off : Int} {tgt : Nat} (hdg : decode cc pc = .ok (.ifCond .eq off, 3)) (ht : (pc : Int) + off = (tgt : Int)) (hab : I32 a)
    (kt : a = 0 → W p l e R s m args below meth c H locs cells slots Q (F0 m tgt ls rest)) (kf : ¬ a = 0 → W p l e R s m args below meth c H locs cells slots Q (F0 m (pc + 3) ls rest)) : W p l e R s m args below meth c H locs cells slots Q (F0 m pc ls (.int (zI a) :: rest)) := lv_if_eq S.1 S.2.1 hdg ht (fun h => kt ((zI_eq (b := 0) hab (by decide)).mp h)) (fun h => kf (fun q => h ((zI_eq (b := 0) hab (by decide)).mpr q)))
theorem z_if_ne (S : CallFix p m c cc nL s args Ts own) {a off : Int} {tgt : Nat} (hdg : decode cc pc = .ok (.ifCond .ne off, 3)) (ht : (pc : Int) + off = (tgt : Int)) (hab : I32 a)
    (kt : ¬ a = 0 → W p l e R s m args below meth c H locs cells slots Q (F0 m tgt ls rest)) (kf : a = 0 → W p l e R s m args below meth c H locs cells slots Q (F0 m (pc + 3) ls rest)) : W p l e R s m args below meth c H locs cells slots Q (F0 m pc ls (.int (zI a) :: rest)) := lv_if_ne S.1 S.2.1 hdg ht (fun h => kt (fun q => h ((zI_eq (b := 0) hab (by decide)).mpr q))) (fun h => kf ((zI_eq (b := 0) hab (by decide)).mp h))
theorem z_if_lt (S : CallFix p m c cc nL s args Ts own) {a off : Int} {tgt : Nat} (hdg : decode cc pc = .ok (.ifCond .lt off, 3)) (ht : (pc : Int) + off = (tgt : Int)) (hab : I32 a)
    (kt : a < 0 → W p l e R s m args below meth c H locs cells slots Q (F0 m tgt ls rest)) (kf : 0 ≤ a → W p l e R s m args below meth c H locs cells slots Q (F0 m (pc + 3) ls rest)) : W p l e R s m args below meth c H locs cells slots Q (F0 m pc ls (.int (zI a) :: rest)) := lv_if_lt S.1 S.2.1 hdg ht (fun h => kt ((zI_lt (b := 0) hab (by decide)).mp h)) (fun h => kf (Int.not_lt.mp (fun q => h ((zI_lt (b := 0) hab (by decide)).mpr q))))
theorem z_if_ge (S : CallFix p m c cc nL s args Ts own) {a off : Int} {tgt : Nat} (hdg : decode cc pc = .ok (.ifCond .ge off, 3)) (ht : (pc : Int) + off = (tgt : Int)) (hab : I32 a)
    (kt : 0 ≤ a → W p l e R s m args below meth c H locs cells slots Q (F0 m tgt ls rest)) (kf : a < 0 → W p l e R s m args below meth c H locs cells slots Q (F0 m (pc + 3) ls rest)) : W p l e R s m args below meth c H locs cells slots Q (F0 m pc ls (.int (zI a) :: rest)) := lv_if_ge S.1 S.2.1 hdg ht (fun h => kt ((zI_le (a := 0) (by decide) hab).mp h)) (fun h => kf (Int.not_le.mp (fun q => h ((zI_le (a := 0) (by decide) hab).mpr q))))
theorem z_if_gt (S : CallFix p m c cc nL s args Ts own) {a off : Int} {tgt : Nat} (hdg : decode cc pc = .ok (.ifCond .gt off, 3)) (ht : (pc : Int) + off = (tgt : Int)) (hab : I32 a)
    (kt : 0 < a → W p l e R s m args below meth c H locs cells slots Q (F0 m tgt ls rest)) (kf : a ≤ 0 → W p l e R s m args below meth c H locs cells slots Q (F0 m (pc + 3) ls rest)) : W p l e R s m args below meth c H locs cells slots Q (F0 m pc ls (.int (zI a) :: rest)) := lv_if_gt S.1 S.2.1 hdg ht (fun h => kt ((zI_lt (a := 0) (by decide) hab).mp h)) (fun h => kf (Int.not_lt.mp (fun q => h ((zI_lt (a := 0) (by decide) hab).mpr q))))
theorem z_if_le (S : CallFix p m c cc nL s args Ts own) {a off : Int} {tgt : Nat} (hdg : decode cc pc = .ok (.ifCond .le off, 3)) (ht : (pc : Int) + off = (tgt : Int)) (hab : I32 a)
    (kt : a ≤ 0 → W p l e R s m args below meth c H locs cells slots Q (F0 m tgt ls rest)) (kf : 0 < a → W p l e R s m args below meth c H locs cells slots Q (F0 m (pc + 3) ls rest)) : W p l e R s m args below meth c H locs cells slots Q (F0 m pc ls (.int (zI a) :: rest)) := lv_if_le S.1 S.2.1 hdg ht (fun h => kt ((zI_le (b := 0) hab (by decide)).mp h)) (fun h => kf (Int.not_le.mp (fun q => h ((zI_le (b := 0) hab (by decide)).mpr q))))
/-- a truth value is asked -/
theorem z_ifb_eq (S : CallFix p m c cc nL s args Ts own) {P : Prop} [Decidable P] {off : Int} {tgt : Nat} (hdg : decode cc pc = .ok (.ifCond .eq off, 3)) (ht : (pc : Int) + off = (tgt : Int))
    (kt : ¬ P → W p l e R s m args below meth c H locs cells slots Q (F0 m tgt ls rest)) (kf : P → W p l e R s m args below meth c H locs cells slots Q (F0 m (pc + 3) ls rest)) : W p l e R s m args below meth c H locs cells slots Q (F0 m pc ls (.int (zI (b01 P)) :: rest)) := by
  have h01 := b01_01 P
  refine z_if_eq S hdg ht (by omega) (fun h => kt (fun q => ?_)) (fun h => kf ?_)
  · rw [b01_t q] at h; exact absurd h (by decide)
  · by_cases q : P
    · exact q
    · exact absurd (b01_f q) h
theorem z_ifb_ne (S : CallFix p m c cc nL s args Ts own) {P : Prop} [Decidable P] {off : Int} {tgt : Nat} (hdg : decode cc pc = .ok (.ifCond .ne off, 3)) (ht : (pc : Int) + off = (tgt : Int))
    (kt : P → W p l e R s m args below meth c H locs cells slots Q (F0 m tgt ls rest)) (kf : ¬ P → W p l e R s m args below meth c H locs cells slots Q (F0 m (pc + 3) ls rest)) : W p l e R s m args below meth c H locs cells slots Q (F0 m pc ls (.int (zI (b01 P)) :: rest)) := by
  have h01 := b01_01 P
  refine z_if_ne S hdg ht (by omega) (fun h => kt ?_) (fun h => kf (fun q => ?_))
  · by_cases q : P
    · exact q
    · exact absurd (b01_f q) h
  · rw [b01_t q] at h; exact absurd h (by decide)
theorem z_goto (S : CallFix p m c cc nL s args Ts own) {off : Int} {tgt : Nat} (hdg : decode cc pc = .ok (.goto off, 3)) (ht : (pc : Int) + off = (tgt : Int)) (k : W p l e R s m args below meth c H locs cells slots Q (F0 m tgt ls rest)) : W p l e R s m args below meth c H locs cells slots Q (F0 m pc ls rest) := lv_goto S.1 S.2.1 hdg ht k
theorem z_tabIn (S : CallFix p m c cc nL s args Ts own) {dflt lo hi : Int} {offs : Array Int} {len : Nat} {x : Int} (j : Int) {off : Int} {tgt : Nat} (hx : x = j) (hj : I32 j) (hdg : decode cc pc = .ok (.tableswitch dflt lo hi offs, len)) (h1 : ¬ j < lo) (h2 : ¬ hi < j) (ho : offs[(j - lo).toNat]? = some off) (ht : (pc : Int) + off = (tgt : Int))
    (k : W p l e R s m args below meth c H locs cells slots Q (F0 m tgt ls rest)) : W p l e R s m args below meth c H locs cells slots Q (F0 m pc ls (.int (zI x) :: rest)) := by
  subst hx
  have ht0 := zI_toInt hj
  exact lv_tableIn S.1 S.2.1 hdg (by rw [ht0]; exact h1) (by rw [ht0]; exact h2) (by rw [ht0]; exact ho) ht k
theorem z_tabOut (S : CallFix p m c cc nL s args Ts own) {dflt lo hi : Int} {offs : Array Int} {len : Nat} {x : Int} {tgt : Nat} (hj : I32 x) (hdg : decode cc pc = .ok (.tableswitch dflt lo hi offs, len)) (h : x < lo ∨ hi < x) (ht : (pc : Int) + dflt = (tgt : Int))
    (k : W p l e R s m args below meth c H locs cells slots Q (F0 m tgt ls rest)) : W p l e R s m args below meth c H locs cells slots Q (F0 m pc ls (.int (zI x) :: rest)) := by
  have ht0 := zI_toInt hj
  exact lv_tableOut S.1 S.2.1 hdg (by rw [ht0]; exact h) ht k
theorem z_iald (S : CallFix p m c cc nL s args Ts own) (hK : KG D g s) (hP : va_P D vwCl ws H) (q0 : Nat) {n : Nat} {F : Int → Int} (ha : ws[q0]? = some (a0, .inl (g.1, n, .inl (zA F)))) {i : Int} (hn : n < 2147483648) (hi : 0 ≤ i ∧ i < (n : Int)) (hdg : decode cc pc = .ok (.iaload, 1))
    (kk : W p l e R s m args below meth c H locs cells slots Q (F0 m (pc + 1) ls (.int (zI (F i)) :: rest))) : W p l e R s m args below meth c H locs cells slots Q (F0 m pc ls (.int (zI i) :: .ref a0 :: rest)) := va_iald S.1 S.2.1 hK.1 hP q0 0 ha rfl (zI_in hi hn) hdg (by rw [zA_at (by omega)]; exact kk)
theorem z_zald (S : CallFix p m c cc nL s args Ts own) (hK : KG D g s) (hP : va_P D vwCl ws H) (q0 : Nat) {n : Nat} {F : Int → Int} (ha : ws[q0]? = some (a0, .inl (g.2.1, n, .inl (zA F)))) {i : Int} (hn : n < 2147483648) (hi : 0 ≤ i ∧ i < (n : Int)) (hdg : decode cc pc = .ok (.baload, 1))
    (kk : W p l e R s m args below meth c H locs cells slots Q (F0 m (pc + 1) ls (.int (zI (F i)) :: rest))) : W p l e R s m args below meth c H locs cells slots Q (F0 m pc ls (.int (zI i) :: .ref a0 :: rest)) := va_zald S.1 S.2.1 hK.1 hP q0 1 ha rfl (zI_in hi hn) hdg (by rw [zA_at (by omega)]; exact kk)
theorem z_iast (S : CallFix p m c cc nL s args Ts own) (hK : KG D g s) (hP : va_P D vwCl ws H) (hD : va_D A ws) (hS : va_S A H0 H locs) (q0 : Nat) {n : Nat} {F : Int → Int} (ha : ws[q0]? = some (a0, .inl (g.1, n, .inl (zA F)))) {i v : Int} (hn : n < 2147483648) (hi : 0 ≤ i ∧ i < (n : Int)) (hdg : decode cc pc = .ok (.iastore, 1))
    (kk : ∀ (H1 : Heap) (locs1 : List Loc), va_P D vwCl (ws.set q0 (a0, .inl (g.1, n, .inl (zA (upZ F i v))))) H1 → va_S A H0 H1 locs1 → W p l e R s m args below meth c H1 locs1 cells slots Q (F0 m (pc + 1) ls rest)) : W p l e R s m args below meth c H locs cells slots Q (F0 m pc ls (.int (zI v) :: .int (zI i) :: .ref a0 :: rest)) := va_iast S.1 S.2.1 hK.1 hP hD hS q0 0 ha rfl (zI_in hi hn) hdg (fun H1 locs1 h1 _ h3 => kk H1 locs1 (by rw [zA_up (by omega)] at h1; exact h1) h3)
theorem z_nar_bool {v : Int} (h : v = 0 ∨ v = 1) : vp_nar .boolean (zI v) = zI v := by rcases h with rfl | rfl <;> decide
theorem z_zast (S : CallFix p m c cc nL s args Ts own) (hK : KG D g s) (hP : va_P D vwCl ws H) (hD : va_D A ws) (hS : va_S A H0 H locs) (q0 : Nat) {n : Nat} {F : Int → Int} (ha : ws[q0]? = some (a0, .inl (g.2.1, n, .inl (zA F)))) {i v : Int} (hn : n < 2147483648) (hi : 0 ≤ i ∧ i < (n : Int)) (hv : v = 0 ∨ v = 1) (hdg : decode cc pc = .ok (.bastore, 1))
    (kk : ∀ (H1 : Heap) (locs1 : List Loc), va_P D vwCl (ws.set q0 (a0, .inl (g.2.1, n, .inl (zA (upZ F i v))))) H1 → va_S A H0 H1 locs1 → W p l e R s m args below meth c H1 locs1 cells slots Q (F0 m (pc + 1) ls rest)) : W p l e R s m args below meth c H locs cells slots Q (F0 m pc ls (.int (zI v) :: .int (zI i) :: .ref a0 :: rest)) := va_zast S.1 S.2.1 hK.1 hP hD hS q0 1 ha rfl (zI_in hi hn) hdg (fun H1 locs1 h1 _ h3 => kk H1 locs1 (by rw [z_nar_bool hv, zA_up (by omega)] at h1; exact h1) h3)
theorem z_get (S : CallFix p m c cc nL s args AW own) {C : String} {T : u_T} {N ci index : Nat} (hin : ∀ w ∈ u_ws C T N, w ∈ AW) (hK : KG D g s) (hP : va_P D vwCl ws H) (q0 : Nat) {fs : List Value} (he : ws[q0]? = some (a0, .inr (ci, fs))) (hc : vwCl[ci]? = some (C, T, N)) (k : Nat) (hk : k < N) (hlink : Cond.fieldLink own index (T k).1 (T k).2.1 (T k).2.2.1 ∈ AW) {v : Value} (hv : fs[k]? = some v) (hdg : decode cc pc = .ok (.getfield index, 3))
    (kk : W p l e R s m args below meth c H locs cells slots Q (F0 m (pc + 3) ls (v :: rest))) : W p l e R s m args below meth c H locs cells slots Q (F0 m pc ls (.ref a0 :: rest)) := va_get S.1 S.2.1 S.2.2.2.2 hin S.2.2.2.1 hK.1 hP q0 he hc k hk (S.2.2.2.2 _ hlink) (fun _ h => h) hv hdg kk
theorem z_fits (v : Int) : fits .int (.int (zI v)) = true := rfl
theorem z_put (S : CallFix p m c cc nL s args AW own) {C : String} {T : u_T} {N ci index : Nat} (hin : ∀ w ∈ u_ws C T N, w ∈ AW) (ty0 : Nat → FieldType) (hty : ∀ k, k < N → parseFieldDescriptor (T k).2.2.1 = some (ty0 k)) (hnm : ∀ a, a < N → ∀ b, b < N → a ≠ b → (T a).2.1 ≠ (T b).2.1) (hK : KG D g s) (hP : va_P D vwCl ws H) (hD : va_D A ws) (hS : va_S A H0 H locs) (q0 : Nat) {fs : List Value} (he : ws[q0]? = some (a0, .inr (ci, fs))) (hc : vwCl[ci]? = some (C, T, N)) (k : Nat) (hk : k < N) (hlink : Cond.fieldLink own index (T k).1 (T k).2.1 (T k).2.2.1 ∈ AW) (hfin : (T k).2.2.2 = false) {v : Int} (hd : parseFieldDescriptor (T k).2.2.1 = some .int) (hl : k < fs.length)
    (hdg : decode cc pc = .ok (.putfield index, 3)) (kk : ∀ (H1 : Heap) (locs1 : List Loc), va_P D vwCl (ws.set q0 (a0, .inr (ci, fs.set k (.int (zI v))))) H1 → va_S A H0 H1 locs1 → W p l e R s m args below meth c H1 locs1 cells slots Q (F0 m (pc + 3) ls rest)) : W p l e R s m args below meth c H locs cells slots Q (F0 m pc ls (.int (zI v) :: .ref a0 :: rest)) :=
  va_put S.1 S.2.1 S.2.2.2.2 hin ty0 hty hnm S.2.2.2.1 hK.1 hP hD hS q0 he hc k hk (S.2.2.2.2 _ hlink) (fun _ h => h) hfin hd rfl rfl hl hdg (fun H1 locs1 h1 _ h3 => kk H1 locs1 h1 h3)
/-- Math.max, min, abs -/
theorem z_max (S : CallFix p m c cc nL s args AW own) {index : Nat} (hlink : Cond.methodLink own index Lib.Math.max.name ∈ AW) (hsz : ls.size = nL) (hframes : 1 ≤ R.frames) (hlocals : (rest.map fun v => v.category).sum + 13 ≤ R.locals) (hc : cells ≤ R.cells ∧ slots ≤ R.slots) {a b : Int} (hab : I32 a ∧ I32 b) (hdg : decode cc pc = .ok (.invokestatic index, 3))
    (kk : W p l e R s m args below meth c H locs cells slots Q (F0 m (pc + 3) ls (.int (zI (max a b)) :: rest))) : W p l e R s m args below meth c H locs cells slots Q (F0 m pc ls (.int (zI b) :: .int (zI a) :: rest)) := by
  refine va_mmax S.1 S.2.1 (S.2.2.1.trans hsz.symm) S.2.2.2.1 (S.2.2.2.2 _ hlink) (S.2.2.2.2 _ sm_Math_max) (S.2.2.2.2 _ ini_J9) (S.2.2.2.2 _ cd_Math_max) hframes hlocals hc.1 hc.2 hdg ?_
  have e : (if zI a < zI b then zI b else zI a) = zI (max a b) := by
    by_cases h : a < b
    · rw [if_pos ((zI_lt hab.1 hab.2).mpr h)]; congr 1; omega
    · rw [if_neg (fun q => h ((zI_lt hab.1 hab.2).mp q))]; congr 1; omega
  rw [e]
  exact kk
theorem z_min (S : CallFix p m c cc nL s args AW own) {index : Nat} (hlink : Cond.methodLink own index Lib.Math.min.name ∈ AW) (hsz : ls.size = nL) (hframes : 1 ≤ R.frames) (hlocals : (rest.map fun v => v.category).sum + 13 ≤ R.locals) (hc : cells ≤ R.cells ∧ slots ≤ R.slots) {a b : Int} (hab : I32 a ∧ I32 b) (hdg : decode cc pc = .ok (.invokestatic index, 3))
    (kk : W p l e R s m args below meth c H locs cells slots Q (F0 m (pc + 3) ls (.int (zI (min a b)) :: rest))) : W p l e R s m args below meth c H locs cells slots Q (F0 m pc ls (.int (zI b) :: .int (zI a) :: rest)) := by
  refine va_mmin S.1 S.2.1 (S.2.2.1.trans hsz.symm) S.2.2.2.1 (S.2.2.2.2 _ hlink) (S.2.2.2.2 _ sm_Math_min) (S.2.2.2.2 _ ini_J9) (S.2.2.2.2 _ cd_Math_min) hframes hlocals hc.1 hc.2 hdg ?_
  have e : (if zI b < zI a then zI b else zI a) = zI (min a b) := by
    by_cases h : b < a
    · rw [if_pos ((zI_lt hab.2 hab.1).mpr h)]; congr 1; omega
    · rw [if_neg (fun q => h ((zI_lt hab.2 hab.1).mp q))]; congr 1; omega
  rw [e]
  exact kk
def ab (a : Int) : Int := if 0 ≤ a then a else -a
theorem z_abs (S : CallFix p m c cc nL s args AW own) {index : Nat} (hlink : Cond.methodLink own index Lib.Math.abs.name ∈ AW) (hsz : ls.size = nL) (hframes : 1 ≤ R.frames) (hlocals : (rest.map fun v => v.category).sum + 13 ≤ R.locals) (hc : cells ≤ R.cells ∧ slots ≤ R.slots) {a : Int} (hab : I32 a) (hdg : decode cc pc = .ok (.invokestatic index, 3))
    (kk : W p l e R s m args below meth c H locs cells slots Q (F0 m (pc + 3) ls (.int (zI (ab a)) :: rest))) : W p l e R s m args below meth c H locs cells slots Q (F0 m pc ls (.int (zI a) :: rest)) := by
  refine va_mabs S.1 S.2.1 (S.2.2.1.trans hsz.symm) S.2.2.2.1 (S.2.2.2.2 _ hlink) (S.2.2.2.2 _ sm_Math_abs) (S.2.2.2.2 _ ini_J9) (S.2.2.2.2 _ cd_Math_abs) hframes hlocals hc.1 hc.2 hdg ?_
  have e : (if (0 : Int32) ≤ zI a then zI a else 0 - zI a) = zI (ab a) := by
    have h0 : (0 : Int32) = zI 0 := rfl
    unfold ab
    by_cases h : 0 ≤ a
    · rw [if_pos h, if_pos (h0 ▸ (zI_le (by decide) hab).mpr h)]
    · rw [if_neg h, if_neg (fun q => h ((zI_le (by decide) hab).mp (h0 ▸ q))), h0, zI_sub]; congr 1; omega
  rw [e]
  exact kk
/-- behind a call that leaves the heap -/
theorem z_Si {post : Int32 → Prop} {a : Array Value} (hr : va_Run p l e R s m args below meth c H locs cells slots 0 0 (F0 m pc ls st0) rest (vp_Si post a) (fun _ => False))
    (kk : ∀ r : Int32, post r → W p l e R s m args below meth c H locs cells slots Q (F0 m (pc + 3) ls (.int r :: rest))) : W p l e R s m args below meth c H locs cells slots Q (F0 m pc ls st0) := by
  intro T hT X
  obtain ⟨v, st₀, t, T', L, h0, X', hL, e1, e2, ⟨r, hv, hp, hh⟩, st⟩ := hr T hT X
  cases hv
  obtain ⟨t2, a1, b1⟩ := kk r hp T' (by rw [e1, hh, h0]) (Stand.forget X' (fun q h => (hL q h).elim))
  exact ⟨t2, st t2 a1, b1⟩
theorem z_Sl {post : Int64 → Prop} {a : Array Value} (hr : va_Run p l e R s m args below meth c H locs cells slots 0 0 (F0 m pc ls st0) rest (vp_Sl post a) (fun _ => False))
    (kk : ∀ r : Int64, post r → W p l e R s m args below meth c H locs cells slots Q (F0 m (pc + 3) ls (.long r :: rest))) : W p l e R s m args below meth c H locs cells slots Q (F0 m pc ls st0) := by
  intro T hT X
  obtain ⟨v, st₀, t, T', L, h0, X', hL, e1, e2, ⟨r, hv, hp, hh⟩, st⟩ := hr T hT X
  cases hv
  obtain ⟨t2, a1, b1⟩ := kk r hp T' (by rw [e1, hh, h0]) (Stand.forget X' (fun q h => (hL q h).elim))
  exact ⟨t2, st t2 a1, b1⟩
end ZR
section ZC
variable {p : Program} {l : Launch} {e : Env} {R : Room} {s : State} {m : MethodId} {args : Array Value} {below : List Frame} {meth : Method} {c : Code} {H : Heap} {locs : List Loc} {cells slots : Nat} {Q : State → Prop}
variable {cc : ByteArray} {nL pc : Nat} {own : String} {ls : Array Slot} {rest st0 : List Value} {D : va_G} {A A1 : Nat → Prop} {g : ClassId × ClassId × ClassId} {ws wc wc' : va_W} {H0 : Heap}
variable {y : MethodName} {bytes : ByteArray} {maxL n index b : Nat} {ret : Option FieldType} {rm : Room} {C host : String} {As : List Value}
theorem mkV (ht : ∀ w ∈ AW, w.before args s = true) (h1 : Cond.methodLink own index y ∈ AW) (h2 : Cond.instanceMethod y ∈ AW) (h3 : Cond.selects C y y ∈ AW) (h4 : Cond.initialized C ∈ AW) (h5 : Cond.code y bytes maxL ret ∈ AW)
    (hd : y.cls = C ∧ y.cls ≠ "java/lang/invoke/MethodHandle" ∧ y.cls ≠ "java/lang/invoke/VarHandle" ∧ (parseMethodDescriptor y.desc).map (fun d => d.parameters.length) = some n) (hR : rm.frames + 1 ≤ R.frames ∧ 8 + (maxL + 11) + rm.locals ≤ R.locals) : CallW R s args own C index y bytes maxL ret (WS y bytes maxL ret) rm rm.cells rm.slots n :=
  cwV n ht (gin_4 h1 h2 h3 h4 (gin_WS h5)) rfl rfl rfl hd hR
theorem mkS (ht : ∀ w ∈ AW, w.before args s = true) (h1 : Cond.methodLink own index y ∈ AW) (h2 : Cond.static y ∈ AW) (h4 : Cond.initialized y.cls ∈ AW) (h5 : Cond.code y bytes maxL ret ∈ AW)
    (hd : y.cls = C ∧ y.cls ≠ "java/lang/invoke/MethodHandle" ∧ y.cls ≠ "java/lang/invoke/VarHandle" ∧ (parseMethodDescriptor y.desc).map (fun d => d.parameters.length) = some n) (hR : rm.frames + 1 ≤ R.frames ∧ 8 + (maxL + 11) + rm.locals ≤ R.locals) : CallB R s args own index y bytes maxL ret (WS y bytes maxL ret) rm rm.cells rm.slots n ∧ (Cond.static y).before args s = true :=
  ⟨callB_of n ht (gin_WS h5) rfl rfl rfl (ht _ h4) (ht _ h1) hd.2 hR, ht _ h2⟩
theorem mkN (ht : ∀ w ∈ AW, w.before args s = true) (hl : va_Nw (.methodLinkNest own index y host) s) (h2 : Cond.static y ∈ AW) (h4 : Cond.initialized y.cls ∈ AW) (h5 : Cond.code y bytes maxL ret ∈ AW)
    (hd : y.cls = C ∧ y.cls ≠ "java/lang/invoke/MethodHandle" ∧ y.cls ≠ "java/lang/invoke/VarHandle" ∧ (parseMethodDescriptor y.desc).map (fun d => d.parameters.length) = some n) (hR : rm.frames + 1 ≤ R.frames ∧ 8 + (maxL + 11) + rm.locals ≤ R.locals) : va_CN R s args own index y host bytes maxL ret (WS y bytes maxL ret) rm rm.cells rm.slots n ∧ (Cond.static y).before args s = true ∧ True :=
  ⟨va_cnB n ht (gin_WS h5) rfl rfl rfl hl (ht _ h4) hd.2 hR, ht _ h2, trivial⟩
/-- a read contract: from the world wc the method answers r and leaves the heap -/
abbrev RD (l : Launch) (y : MethodName) (b : ByteArray) (n : Nat) (ret : Option FieldType) (fr lo : Nat) (D : va_G) (g : ClassId × ClassId × ClassId) (wc : va_W) (As : List Value) (r : Int) : Prop := Met l y (WS y b n ret) { frames := fr, cells := 0, slots := 0, locals := lo } (va_Pc As (PW D g wc)) (vp_Si (fun v => v = zI r)) 0 0 (fun _ => False)
abbrev RDl (l : Launch) (y : MethodName) (b : ByteArray) (n : Nat) (ret : Option FieldType) (fr lo : Nat) (D : va_G) (g : ClassId × ClassId × ClassId) (wc : va_W) (As : List Value) (r : Int64) : Prop := Met l y (WS y b n ret) { frames := fr, cells := 0, slots := 0, locals := lo } (va_Pc As (PW D g wc)) (vp_Sl (fun v => v = r)) 0 0 (fun _ => False)
/-- a write contract: from the world wc the method answers r and leaves the world wc' -/
abbrev WRi (l : Launch) (y : MethodName) (b : ByteArray) (n : Nat) (ret : Option FieldType) (fr lo : Nat) (D : va_G) (g : ClassId × ClassId × ClassId) (A : Nat → Prop) (wc : va_W) (As : List Value) (wc' : va_W) (r : Int) : Prop := Met l y (WS y b n ret) { frames := fr, cells := 0, slots := 0, locals := lo } (va_Pc As (PW D g wc)) (va_Qi (fun v (_ : Unit) => v = zI r) (fun _ t => va_P D vwCl wc' t.heap) A) 0 0 A
abbrev WRv (l : Launch) (y : MethodName) (b : ByteArray) (n : Nat) (ret : Option FieldType) (fr lo : Nat) (D : va_G) (g : ClassId × ClassId × ClassId) (A : Nat → Prop) (wc : va_W) (As : List Value) (wc' : va_W) : Prop := Met l y (WS y b n ret) { frames := fr, cells := 0, slots := 0, locals := lo } (va_Pc As (PW D g wc)) (va_Qv (fun (_ : Unit) => True) (fun _ t => va_P D vwCl wc' t.heap) A) 0 0 A
variable {fr lo : Nat} {r : Int} {rl : Int64}
theorem z_preV (hK : KG D g s) (hPc : va_P D vwCl wc H) (hv : ∃ cellB : Cell, H[b]? = some cellB ∧ cellB.vm.isStatics = false ∧ s.vm.findClass C = some cellB.cls) : PreV s H C b (va_Pc (.ref b :: As) (PW D g wc)) As := ⟨PW.blind, hv, fun U hU hW => ⟨rfl, by rw [hU]; exact hPc, hK.warm hW⟩⟩
theorem z_preS (hK : KG D g s) (hPc : va_P D vwCl wc H) : PreS s H (va_Pc As (PW D g wc)) As := ⟨PW.blind, fun U hU hW => ⟨rfl, by rw [hU]; exact hPc, hK.warm hW⟩⟩
theorem z_lroom (h : (rest.map fun v => v.category).sum ≤ 8) : 2 * (F0 m pc ls st0).monitorRoom + (rest.map fun v => v.category).sum ≤ 8 := by
  show 2 * 0 + _ ≤ 8
  omega
/-- a read call by invokevirtual, static, static of a nest mate -/
theorem z_rV (S : CallFix p m c cc nL s args AW own) (hM : RD l y bytes maxL ret fr lo D g wc (.ref b :: As) r) (h1 : Cond.methodLink own index y ∈ AW) (h2 : Cond.instanceMethod y ∈ AW) (h3 : Cond.selects C y y ∈ AW) (h4 : Cond.initialized C ∈ AW) (h5 : Cond.code y bytes maxL ret ∈ AW)
    (hd : y.cls = C ∧ y.cls ≠ "java/lang/invoke/MethodHandle" ∧ y.cls ≠ "java/lang/invoke/VarHandle" ∧ (parseMethodDescriptor y.desc).map (fun d => d.parameters.length) = some n) (hR : fr + 1 ≤ R.frames ∧ 8 + (maxL + 11) + lo ≤ R.locals)
    (hK : KG D g s) (hPc : va_P D vwCl wc H) (hv : ∃ cellB : Cell, H[b]? = some cellB ∧ cellB.vm.isStatics = false ∧ s.vm.findClass C = some cellB.cls) (hn : As.length = n) (hsz : ls.size = nL) (hst : st0 = As.reverse ++ .ref b :: rest) (hr : (rest.map fun v => v.category).sum ≤ 8) (hc : cells ≤ R.cells ∧ slots ≤ R.slots) (hdg : decode cc pc = .ok (.invokevirtual index, 3))
    (kk : W p l e R s m args below meth c H locs cells slots Q (F0 m (pc + 3) ls (.int (zI r) :: rest))) : W p l e R s m args below meth c H locs cells slots Q (F0 m pc ls st0) :=
  z_Si (va_runV (rest := rest) S hM (mkV S.2.2.2.2 h1 h2 h3 h4 h5 hd hR) (z_preV hK hPc hv) rfl hn hsz hst (z_lroom hr) hdg hc) (fun v hv => by subst hv; exact kk)
theorem z_rS (S : CallFix p m c cc nL s args AW own) (hM : RD l y bytes maxL ret fr lo D g wc As r) (h1 : Cond.methodLink own index y ∈ AW) (h2 : Cond.static y ∈ AW) (h4 : Cond.initialized y.cls ∈ AW) (h5 : Cond.code y bytes maxL ret ∈ AW)
    (hd : y.cls = C ∧ y.cls ≠ "java/lang/invoke/MethodHandle" ∧ y.cls ≠ "java/lang/invoke/VarHandle" ∧ (parseMethodDescriptor y.desc).map (fun d => d.parameters.length) = some n) (hR : fr + 1 ≤ R.frames ∧ 8 + (maxL + 11) + lo ≤ R.locals)
    (hK : KG D g s) (hPc : va_P D vwCl wc H) (hn : As.length = n) (hsz : ls.size = nL) (hst : st0 = As.reverse ++ rest) (hr : (rest.map fun v => v.category).sum ≤ 8) (hc : cells ≤ R.cells ∧ slots ≤ R.slots) (hdg : decode cc pc = .ok (.invokestatic index, 3))
    (kk : W p l e R s m args below meth c H locs cells slots Q (F0 m (pc + 3) ls (.int (zI r) :: rest))) : W p l e R s m args below meth c H locs cells slots Q (F0 m pc ls st0) :=
  z_Si (va_runS (rest := rest) S hM (mkS S.2.2.2.2 h1 h2 h4 h5 hd hR) (z_preS hK hPc) rfl hn hsz hst (z_lroom hr) hdg hc) (fun v hv => by subst hv; exact kk)
theorem z_rN (S : CallFix p m c cc nL s args AW own) (hM : RD l y bytes maxL ret fr lo D g wc As r) (h1 : (own, index, y, host) ∈ NWl) (h2 : Cond.static y ∈ AW) (h4 : Cond.initialized y.cls ∈ AW) (h5 : Cond.code y bytes maxL ret ∈ AW)
    (hd : y.cls = C ∧ y.cls ≠ "java/lang/invoke/MethodHandle" ∧ y.cls ≠ "java/lang/invoke/VarHandle" ∧ (parseMethodDescriptor y.desc).map (fun d => d.parameters.length) = some n) (hR : fr + 1 ≤ R.frames ∧ 8 + (maxL + 11) + lo ≤ R.locals)
    (hK : KG D g s) (hPc : va_P D vwCl wc H) (hn : As.length = n) (hsz : ls.size = nL) (hst : st0 = As.reverse ++ rest) (hr : (rest.map fun v => v.category).sum ≤ 8) (hc : cells ≤ R.cells ∧ slots ≤ R.slots) (hdg : decode cc pc = .ok (.invokestatic index, 3))
    (kk : W p l e R s m args below meth c H locs cells slots Q (F0 m (pc + 3) ls (.int (zI r) :: rest))) : W p l e R s m args below meth c H locs cells slots Q (F0 m pc ls st0) :=
  z_Si (va_runSN (rest := rest) S hM (mkN S.2.2.2.2 (hK.2.1 _ h1) h2 h4 h5 hd hR) (z_preS hK hPc) rfl hn hsz hst (z_lroom hr) hdg hc) (fun v hv => by subst hv; exact kk)
theorem z_rVl (S : CallFix p m c cc nL s args AW own) (hM : RDl l y bytes maxL ret fr lo D g wc (.ref b :: As) rl) (h1 : Cond.methodLink own index y ∈ AW) (h2 : Cond.instanceMethod y ∈ AW) (h3 : Cond.selects C y y ∈ AW) (h4 : Cond.initialized C ∈ AW) (h5 : Cond.code y bytes maxL ret ∈ AW)
    (hd : y.cls = C ∧ y.cls ≠ "java/lang/invoke/MethodHandle" ∧ y.cls ≠ "java/lang/invoke/VarHandle" ∧ (parseMethodDescriptor y.desc).map (fun d => d.parameters.length) = some n) (hR : fr + 1 ≤ R.frames ∧ 8 + (maxL + 11) + lo ≤ R.locals)
    (hK : KG D g s) (hPc : va_P D vwCl wc H) (hv : ∃ cellB : Cell, H[b]? = some cellB ∧ cellB.vm.isStatics = false ∧ s.vm.findClass C = some cellB.cls) (hn : As.length = n) (hsz : ls.size = nL) (hst : st0 = As.reverse ++ .ref b :: rest) (hr : (rest.map fun v => v.category).sum ≤ 8) (hc : cells ≤ R.cells ∧ slots ≤ R.slots) (hdg : decode cc pc = .ok (.invokevirtual index, 3))
    (kk : W p l e R s m args below meth c H locs cells slots Q (F0 m (pc + 3) ls (.long rl :: rest))) : W p l e R s m args below meth c H locs cells slots Q (F0 m pc ls st0) :=
  z_Sl (va_runV (rest := rest) S hM (mkV S.2.2.2.2 h1 h2 h3 h4 h5 hd hR) (z_preV hK hPc hv) rfl hn hsz hst (z_lroom hr) hdg hc) (fun v hv => by subst hv; exact kk)
/-- a write call: the world behind it, and what it leaves -/
theorem z_wV (S : CallFix p m c cc nL s args AW own) (hM : WRi l y bytes maxL ret fr lo D g A1 wc (.ref b :: As) wc' r) (h1 : Cond.methodLink own index y ∈ AW) (h2 : Cond.instanceMethod y ∈ AW) (h3 : Cond.selects C y y ∈ AW) (h4 : Cond.initialized C ∈ AW) (h5 : Cond.code y bytes maxL ret ∈ AW)
    (hd : y.cls = C ∧ y.cls ≠ "java/lang/invoke/MethodHandle" ∧ y.cls ≠ "java/lang/invoke/VarHandle" ∧ (parseMethodDescriptor y.desc).map (fun d => d.parameters.length) = some n) (hR : fr + 1 ≤ R.frames ∧ 8 + (maxL + 11) + lo ≤ R.locals)
    (hK : KG D g s) (hPc : va_P D vwCl wc H) (hv : ∃ cellB : Cell, H[b]? = some cellB ∧ cellB.vm.isStatics = false ∧ s.vm.findClass C = some cellB.cls) (hn : As.length = n) (hsz : ls.size = nL) (hst : st0 = As.reverse ++ .ref b :: rest) (hr : (rest.map fun v => v.category).sum ≤ 8) (hc : cells ≤ R.cells ∧ slots ≤ R.slots) (hS : va_S A H0 H locs) (hA : ∀ q, A1 q → A q) (hdg : decode cc pc = .ok (.invokevirtual index, 3))
    (kk : ∀ (H1 : Heap) (locs1 : List Loc), va_P D vwCl wc' H1 → H.size ≤ H1.size → (∀ q : Nat, q < H.size → ¬ A1 q → H1[q]? = H[q]?) → va_S A H0 H1 locs1 → W p l e R s m args below meth c H1 locs1 cells slots Q (F0 m (pc + 3) ls (.int (zI r) :: rest))) : W p l e R s m args below meth c H locs cells slots Q (F0 m pc ls st0) :=
  va_calli (va_runV (rest := rest) S hM (mkV S.2.2.2.2 h1 h2 h3 h4 h5 hd hR) (z_preV hK hPc hv) rfl hn hsz hst (z_lroom hr) hdg hc) hS (fun q _ h => hA q h) hA (fun v u t H1 locs1 ht _ hv hB hz hk hS1 => by subst hv; rw [ht] at hB; exact kk H1 locs1 hB hz hk hS1)
theorem z_wVv (S : CallFix p m c cc nL s args AW own) (hM : WRv l y bytes maxL ret fr lo D g A1 wc (.ref b :: As) wc') (h1 : Cond.methodLink own index y ∈ AW) (h2 : Cond.instanceMethod y ∈ AW) (h3 : Cond.selects C y y ∈ AW) (h4 : Cond.initialized C ∈ AW) (h5 : Cond.code y bytes maxL ret ∈ AW)
    (hd : y.cls = C ∧ y.cls ≠ "java/lang/invoke/MethodHandle" ∧ y.cls ≠ "java/lang/invoke/VarHandle" ∧ (parseMethodDescriptor y.desc).map (fun d => d.parameters.length) = some n) (hR : fr + 1 ≤ R.frames ∧ 8 + (maxL + 11) + lo ≤ R.locals)
    (hK : KG D g s) (hPc : va_P D vwCl wc H) (hv : ∃ cellB : Cell, H[b]? = some cellB ∧ cellB.vm.isStatics = false ∧ s.vm.findClass C = some cellB.cls) (hn : As.length = n) (hsz : ls.size = nL) (hst : st0 = As.reverse ++ .ref b :: rest) (hr : (rest.map fun v => v.category).sum ≤ 8) (hc : cells ≤ R.cells ∧ slots ≤ R.slots) (hS : va_S A H0 H locs) (hA : ∀ q, A1 q → A q) (hdg : decode cc pc = .ok (.invokevirtual index, 3))
    (kk : ∀ (H1 : Heap) (locs1 : List Loc), va_P D vwCl wc' H1 → H.size ≤ H1.size → (∀ q : Nat, q < H.size → ¬ A1 q → H1[q]? = H[q]?) → va_S A H0 H1 locs1 → W p l e R s m args below meth c H1 locs1 cells slots Q (F0 m (pc + 3) ls rest)) : W p l e R s m args below meth c H locs cells slots Q (F0 m pc ls st0) :=
  va_callv (va_runV (rest := rest) S hM (mkV S.2.2.2.2 h1 h2 h3 h4 h5 hd hR) (z_preV hK hPc hv) rfl hn hsz hst (z_lroom hr) hdg hc) hS (fun q _ h => hA q h) hA (fun u t H1 locs1 ht _ _ hB hz hk hS1 => by rw [ht] at hB; exact kk H1 locs1 hB hz hk hS1)
theorem z_wSv (S : CallFix p m c cc nL s args AW own) (hM : WRv l y bytes maxL ret fr lo D g A1 wc As wc') (h1 : Cond.methodLink own index y ∈ AW) (h2 : Cond.static y ∈ AW) (h4 : Cond.initialized y.cls ∈ AW) (h5 : Cond.code y bytes maxL ret ∈ AW)
    (hd : y.cls = C ∧ y.cls ≠ "java/lang/invoke/MethodHandle" ∧ y.cls ≠ "java/lang/invoke/VarHandle" ∧ (parseMethodDescriptor y.desc).map (fun d => d.parameters.length) = some n) (hR : fr + 1 ≤ R.frames ∧ 8 + (maxL + 11) + lo ≤ R.locals)
    (hK : KG D g s) (hPc : va_P D vwCl wc H) (hn : As.length = n) (hsz : ls.size = nL) (hst : st0 = As.reverse ++ rest) (hr : (rest.map fun v => v.category).sum ≤ 8) (hc : cells ≤ R.cells ∧ slots ≤ R.slots) (hS : va_S A H0 H locs) (hA : ∀ q, A1 q → A q) (hdg : decode cc pc = .ok (.invokestatic index, 3))
    (kk : ∀ (H1 : Heap) (locs1 : List Loc), va_P D vwCl wc' H1 → H.size ≤ H1.size → (∀ q : Nat, q < H.size → ¬ A1 q → H1[q]? = H[q]?) → va_S A H0 H1 locs1 → W p l e R s m args below meth c H1 locs1 cells slots Q (F0 m (pc + 3) ls rest)) : W p l e R s m args below meth c H locs cells slots Q (F0 m pc ls st0) :=
  va_callv (va_runS (rest := rest) S hM (mkS S.2.2.2.2 h1 h2 h4 h5 hd hR) (z_preS hK hPc) rfl hn hsz hst (z_lroom hr) hdg hc) hS (fun q _ h => hA q h) hA (fun u t H1 locs1 ht _ _ hB hz hk hS1 => by rw [ht] at hB; exact kk H1 locs1 hB hz hk hS1)
/-- a body's start -/
theorem z_enter {y : MethodName} {cc : ByteArray} {maxL : Nat} {ret : Option FieldType} {rm : Room} {Qc : Array Value → State → Outcome → State → Prop} {mc ms : Nat} {free : Addr → Prop} (own : String) (hy : plainName y.cls = true) (ho : y.cls = own) (hlen : (lg_sl As).length ≤ maxL)
    (body : ∀ p e s m args below meth c, CallFix p m c cc maxL s args AW own → meth.sig.returnType = ret → meth.locks = false → KG D g s → va_P D vwCl wc s.heap → ∀ ls, lv_has ls maxL (lv_args 0 As) →
      W p l e rm s m args below meth c s.heap [] 0 0 (MQ below Qc args s mc ms free) (F0 m 0 ls [])) : Met l y (WS y cc maxL ret) rm (va_Pc As (PW D g wc)) Qc mc ms free := by
  refine Met.ofW (cc := cc) (maxL := maxL) (ret := ret) hy rfl ?_
  intro p e s m args below meth c s₁ B hml hv
  obtain ⟨rfl, hP, hK⟩ := hv
  have hts := atoms_spec (ws := WS y cc maxL ret) B.pre
  have hown : s.vm.findClass own = some m.cls := by rw [← ho]; exact findClass_of_methodNamed B.named
  rw [lg_entry_eq]
  exact body p e s m _ below meth c ⟨B.exec, B.bytes, hml, hown, fun w h => hts w (List.mem_cons_of_mem _ h)⟩ B.returns B.notSynchronized hK hP _ (lv_entry As hlen)
/-- ends -/
theorem z_ret (S : CallFix p m c cc nL s args AW own) (hr : meth.sig.returnType = some .int) (hlk : meth.locks = false) {x r : Int} (he : x = r) (hdg : decode cc pc = .ok (.ireturn, 1)) : W p l e R s m args below meth c s.heap [] 0 0 (MQ below (vp_Si (fun v => v = zI r)) args s 0 0 (fun _ => False)) (F0 m pc ls [.int (zI x)]) :=
  W.iret S.1 S.2.1 hr (fun t ht _ => ⟨_, rfl, by rw [he], ht⟩) (fun q h => absurd h List.not_mem_nil) hdg hlk
theorem z_narr {x : Int} (h : x = 0 ∨ x = 1) : narrow .boolean (.int (zI x)) = .int (zI x) := by rcases h with rfl | rfl <;> decide
theorem z_retb (S : CallFix p m c cc nL s args AW own) (hr : meth.sig.returnType = some .boolean) (hlk : meth.locks = false) {x r : Int} (h01 : x = 0 ∨ x = 1) (he : x = r) (hdg : decode cc pc = .ok (.ireturn, 1)) : W p l e R s m args below meth c s.heap [] 0 0 (MQ below (vp_Si (fun v => v = zI r)) args s 0 0 (fun _ => False)) (F0 m pc ls [.int (zI x)]) :=
  W.zret S.1 S.2.1 hr (z_narr h01) (fun t ht _ => ⟨_, rfl, by rw [he], ht⟩) (fun q h => absurd h List.not_mem_nil) hdg hlk
theorem z_retl (S : CallFix p m c cc nL s args AW own) (hr : meth.sig.returnType = some .long) (hlk : meth.locks = false) {x r : Int64} (he : x = r) (hdg : decode cc pc = .ok (.lreturn, 1)) : W p l e R s m args below meth c s.heap [] 0 0 (MQ below (vp_Sl (fun v => v = r)) args s 0 0 (fun _ => False)) (F0 m pc ls [.long x]) :=
  W.lret S.1 S.2.1 hr (fun t ht _ => ⟨_, rfl, he, ht⟩) (fun q h => absurd h List.not_mem_nil) hdg hlk
theorem z_retw (S : CallFix p m c cc nL s args AW own) (hr : meth.sig.returnType = some .int) (hlk : meth.locks = false) {x r : Int} (he : x = r) (hP : va_P D vwCl wc' H) (hS : va_S A s.heap H locs) (hdg : decode cc pc = .ok (.ireturn, 1)) : W p l e R s m args below meth c H locs 0 0 (MQ below (va_Qi (fun v (_ : Unit) => v = zI r) (fun _ t => va_P D vwCl wc' t.heap) A) args s 0 0 A) (F0 m pc ls [.int (zI x)]) :=
  W.iret S.1 S.2.1 hr (fun t ht _ => ⟨⟨_, (), rfl, by rw [he], by show va_P D vwCl wc' t.heap; rw [ht]; exact hP⟩, hS.F ht⟩) hS.2.2 hdg hlk
theorem z_retv (S : CallFix p m c cc nL s args AW own) (hr : meth.sig.returnType = none) (hlk : meth.locks = false) (hP : va_P D vwCl wc' H) (hS : va_S A s.heap H locs) (hdg : decode cc pc = .ok (.return_, 1)) : W p l e R s m args below meth c H locs 0 0 (MQ below (va_Qv (fun (_ : Unit) => True) (fun _ t => va_P D vwCl wc' t.heap) A) args s 0 0 A) (F0 m pc ls []) :=
  W.vret S.1 S.2.1 hr (fun t ht _ => ⟨⟨(), rfl, trivial, by show va_P D vwCl wc' t.heap; rw [ht]; exact hP⟩, hS.F ht⟩) hS.2.2 hdg hlk
/-- a loop that counts from k0 to N, what it holds in its locals a function of the count; J: what else holds -/
theorem z_for {head : Nat} (N : Nat) (f : Nat → List (Nat × Value)) (J : Nat → Prop)
    (step : ∀ k : Nat, k < N → J k → ∀ ls : Array Slot, lv_has ls nL (f k) → (∀ ls' : Array Slot, lv_has ls' nL (f (k + 1)) → J (k + 1) → W p l e R s m args below meth c H locs cells slots Q (F0 m head ls' [])) → W p l e R s m args below meth c H locs cells slots Q (F0 m head ls []))
    (done : J N → ∀ ls : Array Slot, lv_has ls nL (f N) → W p l e R s m args below meth c H locs cells slots Q (F0 m head ls [])) (k0 : Nat) (hk : k0 ≤ N) (hJ : J k0) (ls : Array Slot) (h : lv_has ls nL (f k0)) : W p l e R s m args below meth c H locs cells slots Q (F0 m head ls []) := by
  have G : ∀ n k : Nat, k + n = N → J k → ∀ ls : Array Slot, lv_has ls nL (f k) → W p l e R s m args below meth c H locs cells slots Q (F0 m head ls []) := by
    intro n
    induction n with
    | zero => intro k hk hJ ls h; obtain rfl : k = N := by omega
              exact done hJ ls h
    | succ n ih => intro k hk hJ ls h; exact step k (by omega) hJ ls h (fun ls' h' hJ' => ih (k + 1) (by omega) hJ' ls' h')
  exact G (N - k0) k0 (by omega) hJ ls h
/-- a loop that writes: its world is a function of the count too -/
theorem z_forW {head : Nat} (N : Nat) (f : Nat → List (Nat × Value)) (wd : Nat → va_W) (J : Nat → Prop)
    (step : ∀ k : Nat, k < N → J k → ∀ (H : Heap) (locs : List Loc), va_P D vwCl (wd k) H → va_S A H0 H locs → ∀ ls : Array Slot, lv_has ls nL (f k) → (∀ (H' : Heap) (locs' : List Loc), va_P D vwCl (wd (k + 1)) H' → va_S A H0 H' locs' → ∀ ls' : Array Slot, lv_has ls' nL (f (k + 1)) → J (k + 1) → W p l e R s m args below meth c H' locs' cells slots Q (F0 m head ls' [])) → W p l e R s m args below meth c H locs cells slots Q (F0 m head ls []))
    (done : J N → ∀ (H : Heap) (locs : List Loc), va_P D vwCl (wd N) H → va_S A H0 H locs → ∀ ls : Array Slot, lv_has ls nL (f N) → W p l e R s m args below meth c H locs cells slots Q (F0 m head ls [])) (k0 : Nat) (hk : k0 ≤ N) (hJ : J k0) (H : Heap) (locs : List Loc) (hP : va_P D vwCl (wd k0) H) (hS : va_S A H0 H locs) (ls : Array Slot) (h : lv_has ls nL (f k0)) : W p l e R s m args below meth c H locs cells slots Q (F0 m head ls []) := by
  have G : ∀ n k : Nat, k + n = N → J k → ∀ (H : Heap) (locs : List Loc), va_P D vwCl (wd k) H → va_S A H0 H locs → ∀ ls : Array Slot, lv_has ls nL (f k) → W p l e R s m args below meth c H locs cells slots Q (F0 m head ls []) := by
    intro n
    induction n with
    | zero => intro k hk hJ H locs hP hS ls h; obtain rfl : k = N := by omega
              exact done hJ H locs hP hS ls h
    | succ n ih => intro k hk hJ H locs hP hS ls h; exact step k (by omega) hJ H locs hP hS ls h (fun H' locs' hP' hS' ls' h' hJ' => ih (k + 1) (by omega) hJ' H' locs' hP' hS' ls' h')
  exact G (N - k0) k0 (by omega) hJ H locs hP hS ls h
end ZC
