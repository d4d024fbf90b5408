set_option maxHeartbeats 4000000 in
set_option maxRecDepth 100000 in
theorem r_X4_spot (l : Launch) (D : va_G) (g : ClassId × ClassId × ClassId) (a : Nat → Nat) {B : Int} (c : CS) (hI : IC B c) (x : Int) (y : Int) (w : Int) (h0 : inF x y) (h1 : 0 ≤ w ∧ w ≤ 5) : RD l yX4_spot cX4_spot 4 (some .int) 5 110 D g (CW g a c) [.ref (a 0), .int (zI x), .int (zI y), .int (zI w)] (spotT c (y * 20 + x) w) := by
  refine z_enter RX4 (by decide) rfl (Nat.le_of_ble_eq_true rfl) ?_
  intro p e s m args below meth co S hr hlk hK hP ls hl
  have hl : lv_has ls 4 [(0, .ref (a 0)), (1, .int (zI x)), (2, .int (zI y)), (3, .int (zI w))] := hl
  have hs := hI.s
  refine lv_iload_n S.1 S.2.1 dX4_spot_0 rfl (lv_at hl 1 rfl) ?_
  refine lv_iload_n S.1 S.2.1 dX4_spot_1 rfl (lv_at hl 2 rfl) ?_
  refine z_rS (As := [.int (zI x), .int (zI y)]) (rest := []) S (m_X4_inField l D g x y (by omega)) ml_X4_44 sm_X4_inField ini_X4 cd_X4_inField ds_X4_inField ⟨Nat.le_of_ble_eq_true rfl, Nat.le_of_ble_eq_true rfl⟩ hK va_P_nil rfl hl.1 rfl (Nat.le_of_ble_eq_true rfl) ⟨Nat.zero_le _, Nat.zero_le _⟩ dX4_spot_2 ?_
  refine z_ifb_eq (tgt := 17) S dX4_spot_5 (by decide) (fun h_1 => ?_) (fun h_1 => ?_)
  · exact absurd h_1 (by omega)
  · refine lv_iload_n S.1 S.2.1 dX4_spot_8 rfl (lv_at hl 3 rfl) ?_
    refine z_iconst S dX4_spot_9 ?_
    refine z_iconst S dX4_spot_10 ?_
    refine z_rS (As := [.int (zI w), .int (zI 0), .int (zI 5)]) (rest := []) S (m_X4_within l D g w 0 5 (by omega)) ml_X4_64 sm_X4_within ini_X4 cd_X4_within ds_X4_within ⟨Nat.le_of_ble_eq_true rfl, Nat.le_of_ble_eq_true rfl⟩ hK va_P_nil rfl hl.1 rfl (Nat.le_of_ble_eq_true rfl) ⟨Nat.zero_le _, Nat.zero_le _⟩ dX4_spot_11 ?_
    refine z_ifb_ne (tgt := 27) S dX4_spot_14 (by decide) (fun h_2 => ?_) (fun h_2 => ?_)
    · refine lv_aload_n S.1 S.2.1 dX4_spot_27 rfl (lv_at hl 0 rfl) ?_
      refine lv_iload_n S.1 S.2.1 dX4_spot_28 rfl (lv_at hl 1 rfl) ?_
      refine lv_iload_n S.1 S.2.1 dX4_spot_29 rfl (lv_at hl 2 rfl) ?_
      refine z_rS (As := [.int (zI x), .int (zI y)]) (rest := [.ref (a 0)]) S (m_X4_spotAt l D g x y) ml_X4_113 sm_X4_spotAt ini_X4 cd_X4_spotAt ds_X4_spotAt ⟨Nat.le_of_ble_eq_true rfl, Nat.le_of_ble_eq_true rfl⟩ hK va_P_nil rfl hl.1 rfl (Nat.le_of_ble_eq_true rfl) ⟨Nat.zero_le _, Nat.zero_le _⟩ dX4_spot_30 ?_
      refine lv_iload_n S.1 S.2.1 dX4_spot_33 rfl (lv_at hl 3 rfl) ?_
      refine z_rV (As := [.int (zI (y * 20 + x)), .int (zI w)]) (rest := []) S (m_X4_tellSpot l D g a c hI (y * 20 + x) w (by omega) (by omega)) ml_X4_181 im_X4_tellSpot se_X4_tellSpot ini_X4 cd_X4_tellSpot ds_X4_tellSpot ⟨Nat.le_of_ble_eq_true rfl, Nat.le_of_ble_eq_true rfl⟩ hK hP (va_recv hK.1 hP (ci := 4) (q0 := 0) rfl rfl) rfl hl.1 rfl (Nat.le_of_ble_eq_true rfl) ⟨Nat.zero_le _, Nat.zero_le _⟩ dX4_spot_34 ?_
      exact z_ret S hr hlk (by first | rfl | grind) dX4_spot_37
    · exact absurd h_2 (by omega)
set_option maxHeartbeats 4000000 in
set_option maxRecDepth 100000 in
theorem r_X4_rod (l : Launch) (D : va_G) (g : ClassId × ClassId × ClassId) (a : Nat → Nat) {B : Int} (c : CS) (hI : IC B c) (d : Int) (x : Int) (y : Int) (h0 : 0 ≤ d ∧ d < c.1 3) (h1 : inF x y) : RD l yX4_rod cX4_rod 4 (some .int) 3 69 D g (CW g a c) [.ref (a 0), .int (zI d), .int (zI x), .int (zI y)] (bendC c d (y * 20 + x)) := by
  refine z_enter RX4 (by decide) rfl (Nat.le_of_ble_eq_true rfl) ?_
  intro p e s m args below meth co S hr hlk hK hP ls hl
  have hl : lv_has ls 4 [(0, .ref (a 0)), (1, .int (zI d)), (2, .int (zI x)), (3, .int (zI y))] := hl
  have hs := hI.s
  refine lv_aload_n S.1 S.2.1 dX4_rod_0 rfl (lv_at hl 0 rfl) ?_
  refine lv_iload_n S.1 S.2.1 dX4_rod_1 rfl (lv_at hl 1 rfl) ?_
  refine z_rV (As := [.int (zI d)]) (rest := []) S (m_X4_isDowser l D g a c hI d (by omega)) ml_X4_96 im_X4_isDowser se_X4_isDowser ini_X4 cd_X4_isDowser ds_X4_isDowser ⟨Nat.le_of_ble_eq_true rfl, Nat.le_of_ble_eq_true rfl⟩ hK hP (va_recv hK.1 hP (ci := 4) (q0 := 0) rfl rfl) rfl hl.1 rfl (Nat.le_of_ble_eq_true rfl) ⟨Nat.zero_le _, Nat.zero_le _⟩ dX4_rod_2 ?_
  refine z_ifb_eq (tgt := 16) S dX4_rod_5 (by decide) (fun h_1 => ?_) (fun h_1 => ?_)
  · exact absurd h_1 (by omega)
  · refine lv_iload_n S.1 S.2.1 dX4_rod_8 rfl (lv_at hl 2 rfl) ?_
    refine lv_iload_n S.1 S.2.1 dX4_rod_9 rfl (lv_at hl 3 rfl) ?_
    refine z_rS (As := [.int (zI x), .int (zI y)]) (rest := []) S (m_X4_inField l D g x y (by omega)) ml_X4_44 sm_X4_inField ini_X4 cd_X4_inField ds_X4_inField ⟨Nat.le_of_ble_eq_true rfl, Nat.le_of_ble_eq_true rfl⟩ hK va_P_nil rfl hl.1 rfl (Nat.le_of_ble_eq_true rfl) ⟨Nat.zero_le _, Nat.zero_le _⟩ dX4_rod_10 ?_
    refine z_ifb_ne (tgt := 26) S dX4_rod_13 (by decide) (fun h_2 => ?_) (fun h_2 => ?_)
    · refine lv_aload_n S.1 S.2.1 dX4_rod_26 rfl (lv_at hl 0 rfl) ?_
      refine lv_iload_n S.1 S.2.1 dX4_rod_27 rfl (lv_at hl 1 rfl) ?_
      refine lv_iload_n S.1 S.2.1 dX4_rod_28 rfl (lv_at hl 2 rfl) ?_
      refine lv_iload_n S.1 S.2.1 dX4_rod_29 rfl (lv_at hl 3 rfl) ?_
      refine z_rS (As := [.int (zI x), .int (zI y)]) (rest := [.int (zI d), .ref (a 0)]) S (m_X4_spotAt l D g x y) ml_X4_113 sm_X4_spotAt ini_X4 cd_X4_spotAt ds_X4_spotAt ⟨Nat.le_of_ble_eq_true rfl, Nat.le_of_ble_eq_true rfl⟩ hK va_P_nil rfl hl.1 rfl (Nat.le_of_ble_eq_true rfl) ⟨Nat.zero_le _, Nat.zero_le _⟩ dX4_rod_30 ?_
      refine z_rV (As := [.int (zI d), .int (zI (y * 20 + x))]) (rest := []) S (m_X4_bend l D g a c hI d (y * 20 + x) (by omega) (by omega)) ml_X4_184 im_X4_bend se_X4_bend ini_X4 cd_X4_bend ds_X4_bend ⟨Nat.le_of_ble_eq_true rfl, Nat.le_of_ble_eq_true rfl⟩ hK hP (va_recv hK.1 hP (ci := 4) (q0 := 0) rfl rfl) rfl hl.1 rfl (Nat.le_of_ble_eq_true rfl) ⟨Nat.zero_le _, Nat.zero_le _⟩ dX4_rod_33 ?_
      exact z_ret S hr hlk (by first | rfl | grind) dX4_rod_36
    · exact absurd h_2 (by omega)
set_option maxHeartbeats 4000000 in
set_option maxRecDepth 100000 in
theorem r_X4_told (l : Launch) (D : va_G) (g : ClassId × ClassId × ClassId) (a : Nat → Nat) {B : Int} (c : CS) (hI : IC B c) (d : Int) (w : Int) (h0 : 0 ≤ d ∧ d < c.1 3) (h1 : 0 ≤ w ∧ w ≤ 7) : RD l yX4_told cX4_told 3 (some .int) 4 90 D g (CW g a c) [.ref (a 0), .int (zI d), .int (zI w)] (dowT c d w) := by
  refine z_enter RX4 (by decide) rfl (Nat.le_of_ble_eq_true rfl) ?_
  intro p e s m args below meth co S hr hlk hK hP ls hl
  have hl : lv_has ls 3 [(0, .ref (a 0)), (1, .int (zI d)), (2, .int (zI w))] := hl
  have hs := hI.s
  refine lv_aload_n S.1 S.2.1 dX4_told_0 rfl (lv_at hl 0 rfl) ?_
  refine lv_iload_n S.1 S.2.1 dX4_told_1 rfl (lv_at hl 1 rfl) ?_
  refine z_rV (As := [.int (zI d)]) (rest := []) S (m_X4_isDowser l D g a c hI d (by omega)) ml_X4_96 im_X4_isDowser se_X4_isDowser ini_X4 cd_X4_isDowser ds_X4_isDowser ⟨Nat.le_of_ble_eq_true rfl, Nat.le_of_ble_eq_true rfl⟩ hK hP (va_recv hK.1 hP (ci := 4) (q0 := 0) rfl rfl) rfl hl.1 rfl (Nat.le_of_ble_eq_true rfl) ⟨Nat.zero_le _, Nat.zero_le _⟩ dX4_told_2 ?_
  refine z_ifb_eq (tgt := 18) S dX4_told_5 (by decide) (fun h_1 => ?_) (fun h_1 => ?_)
  · exact absurd h_1 (by omega)
  · refine lv_iload_n S.1 S.2.1 dX4_told_8 rfl (lv_at hl 2 rfl) ?_
    refine z_iconst S dX4_told_9 ?_
    refine z_bipush S (by decide) dX4_told_10 ?_
    refine z_rS (As := [.int (zI w), .int (zI 0), .int (zI 7)]) (rest := []) S (m_X4_within l D g w 0 7 (by omega)) ml_X4_64 sm_X4_within ini_X4 cd_X4_within ds_X4_within ⟨Nat.le_of_ble_eq_true rfl, Nat.le_of_ble_eq_true rfl⟩ hK va_P_nil rfl hl.1 rfl (Nat.le_of_ble_eq_true rfl) ⟨Nat.zero_le _, Nat.zero_le _⟩ dX4_told_12 ?_
    refine z_ifb_ne (tgt := 28) S dX4_told_15 (by decide) (fun h_2 => ?_) (fun h_2 => ?_)
    · refine lv_aload_n S.1 S.2.1 dX4_told_28 rfl (lv_at hl 0 rfl) ?_
      refine lv_iload_n S.1 S.2.1 dX4_told_29 rfl (lv_at hl 1 rfl) ?_
      refine lv_iload_n S.1 S.2.1 dX4_told_30 rfl (lv_at hl 2 rfl) ?_
      refine z_rV (As := [.int (zI d), .int (zI w)]) (rest := []) S (m_X4_tellDowser l D g a c hI d w (by omega) (by omega)) ml_X4_189 im_X4_tellDowser se_X4_tellDowser ini_X4 cd_X4_tellDowser ds_X4_tellDowser ⟨Nat.le_of_ble_eq_true rfl, Nat.le_of_ble_eq_true rfl⟩ hK hP (va_recv hK.1 hP (ci := 4) (q0 := 0) rfl rfl) rfl hl.1 rfl (Nat.le_of_ble_eq_true rfl) ⟨Nat.zero_le _, Nat.zero_le _⟩ dX4_told_31 ?_
      exact z_ret S hr hlk (by first | rfl | grind) dX4_told_34
    · exact absurd h_2 (by omega)
set_option maxHeartbeats 4000000 in
set_option maxRecDepth 100000 in
theorem r_X4_about (l : Launch) (D : va_G) (g : ClassId × ClassId × ClassId) (a : Nat → Nat) {B : Int} (c : CS) (hI : IC B c) (q : Int) (w : Int) (h0 : 0 ≤ q ∧ q < c.1 5) (h1 : 0 ≤ w ∧ w ≤ 6) : RD l yX4_about cX4_about 3 (some .int) 4 91 D g (CW g a c) [.ref (a 0), .int (zI q), .int (zI w)] (pitT c q w) := by
  refine z_enter RX4 (by decide) rfl (Nat.le_of_ble_eq_true rfl) ?_
  intro p e s m args below meth co S hr hlk hK hP ls hl
  have hl : lv_has ls 3 [(0, .ref (a 0)), (1, .int (zI q)), (2, .int (zI w))] := hl
  have hs := hI.s
  refine lv_aload_n S.1 S.2.1 dX4_about_0 rfl (lv_at hl 0 rfl) ?_
  refine lv_iload_n S.1 S.2.1 dX4_about_1 rfl (lv_at hl 1 rfl) ?_
  refine z_rV (As := [.int (zI q)]) (rest := []) S (m_X4_isPit l D g a c hI q (by omega)) ml_X4_140 im_X4_isPit se_X4_isPit ini_X4 cd_X4_isPit ds_X4_isPit ⟨Nat.le_of_ble_eq_true rfl, Nat.le_of_ble_eq_true rfl⟩ hK hP (va_recv hK.1 hP (ci := 4) (q0 := 0) rfl rfl) rfl hl.1 rfl (Nat.le_of_ble_eq_true rfl) ⟨Nat.zero_le _, Nat.zero_le _⟩ dX4_about_2 ?_
  refine z_ifb_eq (tgt := 18) S dX4_about_5 (by decide) (fun h_1 => ?_) (fun h_1 => ?_)
  · exact absurd h_1 (by omega)
  · refine lv_iload_n S.1 S.2.1 dX4_about_8 rfl (lv_at hl 2 rfl) ?_
    refine z_iconst S dX4_about_9 ?_
    refine z_bipush S (by decide) dX4_about_10 ?_
    refine z_rS (As := [.int (zI w), .int (zI 0), .int (zI 6)]) (rest := []) S (m_X4_within l D g w 0 6 (by omega)) ml_X4_64 sm_X4_within ini_X4 cd_X4_within ds_X4_within ⟨Nat.le_of_ble_eq_true rfl, Nat.le_of_ble_eq_true rfl⟩ hK va_P_nil rfl hl.1 rfl (Nat.le_of_ble_eq_true rfl) ⟨Nat.zero_le _, Nat.zero_le _⟩ dX4_about_12 ?_
    refine z_ifb_ne (tgt := 28) S dX4_about_15 (by decide) (fun h_2 => ?_) (fun h_2 => ?_)
    · refine lv_aload_n S.1 S.2.1 dX4_about_28 rfl (lv_at hl 0 rfl) ?_
      refine z_get (v := .ref (a 4)) S inA4 hK hP 0 rfl rfl 3 (by decide) fl_X4_33 rfl dX4_about_29 ?_
      refine lv_iload_n S.1 S.2.1 dX4_about_32 rfl (lv_at hl 1 rfl) ?_
      refine lv_iload_n S.1 S.2.1 dX4_about_33 rfl (lv_at hl 2 rfl) ?_
      refine z_rV (As := [.int (zI q), .int (zI w)]) (rest := []) S (m_X2_tell l D g a c hI q w (by omega) (by omega)) ml_X4_194 im_X2_tell se_X2_tell ini_X2 cd_X2_tell ds_X2_tell ⟨Nat.le_of_ble_eq_true rfl, Nat.le_of_ble_eq_true rfl⟩ hK hP (va_recv hK.1 hP (ci := 2) (q0 := 4) rfl rfl) rfl hl.1 rfl (Nat.le_of_ble_eq_true rfl) ⟨Nat.zero_le _, Nat.zero_le _⟩ dX4_about_34 ?_
      exact z_ret S hr hlk (by first | rfl | grind) dX4_about_37
    · exact absurd h_2 (by omega)
set_option maxHeartbeats 4000000 in
set_option maxRecDepth 100000 in
theorem r_X4_count (l : Launch) (D : va_G) (g : ClassId × ClassId × ClassId) (a : Nat → Nat) {B : Int} (c : CS) (hI : IC B c) (w : Int) (h0 : 0 ≤ w ∧ w ≤ 8) : RD l yX4_count cX4_count 2 (some .int) 4 85 D g (CW g a c) [.ref (a 0), .int (zI w)] (cntT c w) := by
  refine z_enter RX4 (by decide) rfl (Nat.le_of_ble_eq_true rfl) ?_
  intro p e s m args below meth co S hr hlk hK hP ls hl
  have hl : lv_has ls 2 [(0, .ref (a 0)), (1, .int (zI w))] := hl
  have hs := hI.s
  refine lv_iload_n S.1 S.2.1 dX4_count_0 rfl (lv_at hl 1 rfl) ?_
  refine z_iconst S dX4_count_1 ?_
  refine z_bipush S (by decide) dX4_count_2 ?_
  refine z_rS (As := [.int (zI w), .int (zI 0), .int (zI 8)]) (rest := []) S (m_X4_within l D g w 0 8 (by omega)) ml_X4_64 sm_X4_within ini_X4 cd_X4_within ds_X4_within ⟨Nat.le_of_ble_eq_true rfl, Nat.le_of_ble_eq_true rfl⟩ hK va_P_nil rfl hl.1 rfl (Nat.le_of_ble_eq_true rfl) ⟨Nat.zero_le _, Nat.zero_le _⟩ dX4_count_4 ?_
  refine z_ifb_ne (tgt := 20) S dX4_count_7 (by decide) (fun h_1 => ?_) (fun h_1 => ?_)
  · refine lv_aload_n S.1 S.2.1 dX4_count_20 rfl (lv_at hl 0 rfl) ?_
    refine lv_iload_n S.1 S.2.1 dX4_count_21 rfl (lv_at hl 1 rfl) ?_
    refine z_rV (As := [.int (zI w)]) (rest := []) S (m_X4_tellCount l D g a c hI w (by omega)) ml_X4_199 im_X4_tellCount se_X4_tellCount ini_X4 cd_X4_tellCount ds_X4_tellCount ⟨Nat.le_of_ble_eq_true rfl, Nat.le_of_ble_eq_true rfl⟩ hK hP (va_recv hK.1 hP (ci := 4) (q0 := 0) rfl rfl) rfl hl.1 rfl (Nat.le_of_ble_eq_true rfl) ⟨Nat.zero_le _, Nat.zero_le _⟩ dX4_count_22 ?_
    exact z_ret S hr hlk (by first | rfl | grind) dX4_count_25
  · exact absurd h_1 (by omega)
set_option maxHeartbeats 4000000 in
set_option maxRecDepth 100000 in
theorem r_X4_would (l : Launch) (D : va_G) (g : ClassId × ClassId × ClassId) (a : Nat → Nat) {B : Int} (c : CS) (hI : IC B c) (q : Int) (d : Int) (f : Int) (h0 : 0 ≤ q ∧ q < c.1 5) (h1 : 0 ≤ d ∧ d < c.1 3) (h2 : 0 ≤ f ∧ f ≤ 1) : RD l yX4_would cX4_would 4 (some .int) 5 113 D g (CW g a c) [.ref (a 0), .int (zI q), .int (zI d), .int (zI f)] (wouldT c q d f) := by
  refine z_enter RX4 (by decide) rfl (Nat.le_of_ble_eq_true rfl) ?_
  intro p e s m args below meth co S hr hlk hK hP ls hl
  have hl : lv_has ls 4 [(0, .ref (a 0)), (1, .int (zI q)), (2, .int (zI d)), (3, .int (zI f))] := hl
  have hs := hI.s
  refine lv_aload_n S.1 S.2.1 dX4_would_0 rfl (lv_at hl 0 rfl) ?_
  refine lv_iload_n S.1 S.2.1 dX4_would_1 rfl (lv_at hl 1 rfl) ?_
  refine z_rV (As := [.int (zI q)]) (rest := []) S (m_X4_isPit l D g a c hI q (by omega)) ml_X4_140 im_X4_isPit se_X4_isPit ini_X4 cd_X4_isPit ds_X4_isPit ⟨Nat.le_of_ble_eq_true rfl, Nat.le_of_ble_eq_true rfl⟩ hK hP (va_recv hK.1 hP (ci := 4) (q0 := 0) rfl rfl) rfl hl.1 rfl (Nat.le_of_ble_eq_true rfl) ⟨Nat.zero_le _, Nat.zero_le _⟩ dX4_would_2 ?_
  refine z_ifb_eq (tgt := 16) S dX4_would_5 (by decide) (fun h_1 => ?_) (fun h_1 => ?_)
  · exact absurd h_1 (by omega)
  · refine lv_aload_n S.1 S.2.1 dX4_would_8 rfl (lv_at hl 0 rfl) ?_
    refine lv_iload_n S.1 S.2.1 dX4_would_9 rfl (lv_at hl 2 rfl) ?_
    refine z_rV (As := [.int (zI d)]) (rest := []) S (m_X4_isDowser l D g a c hI d (by omega)) ml_X4_96 im_X4_isDowser se_X4_isDowser ini_X4 cd_X4_isDowser ds_X4_isDowser ⟨Nat.le_of_ble_eq_true rfl, Nat.le_of_ble_eq_true rfl⟩ hK hP (va_recv hK.1 hP (ci := 4) (q0 := 0) rfl rfl) rfl hl.1 rfl (Nat.le_of_ble_eq_true rfl) ⟨Nat.zero_le _, Nat.zero_le _⟩ dX4_would_10 ?_
    refine z_ifb_ne (tgt := 26) S dX4_would_13 (by decide) (fun h_2 => ?_) (fun h_2 => ?_)
    · refine lv_aload_n S.1 S.2.1 dX4_would_26 rfl (lv_at hl 0 rfl) ?_
      refine z_get (v := .ref (a 4)) S inA4 hK hP 0 rfl rfl 3 (by decide) fl_X4_33 rfl dX4_would_27 ?_
      refine lv_iload_n S.1 S.2.1 dX4_would_30 rfl (lv_at hl 1 rfl) ?_
      refine z_rV (As := [.int (zI q)]) (rest := []) S (m_X2_isOver l D g a c hI q (by omega)) ml_X4_166 im_X2_isOver se_X2_isOver ini_X2 cd_X2_isOver ds_X2_isOver ⟨Nat.le_of_ble_eq_true rfl, Nat.le_of_ble_eq_true rfl⟩ hK hP (va_recv hK.1 hP (ci := 2) (q0 := 4) rfl rfl) rfl hl.1 rfl (Nat.le_of_ble_eq_true rfl) ⟨Nat.zero_le _, Nat.zero_le _⟩ dX4_would_31 ?_
      refine z_ifb_eq (tgt := 39) S dX4_would_34 (by decide) (fun h_3 => ?_) (fun h_3 => ?_)
      · refine lv_aload_n S.1 S.2.1 dX4_would_39 rfl (lv_at hl 0 rfl) ?_
        refine z_get (v := .ref (a 4)) S inA4 hK hP 0 rfl rfl 3 (by decide) fl_X4_33 rfl dX4_would_40 ?_
        refine lv_iload_n S.1 S.2.1 dX4_would_43 rfl (lv_at hl 1 rfl) ?_
        refine lv_iload_n S.1 S.2.1 dX4_would_44 rfl (lv_at hl 2 rfl) ?_
        refine lv_iload_n S.1 S.2.1 dX4_would_45 rfl (lv_at hl 3 rfl) ?_
        refine z_rV (As := [.int (zI q), .int (zI d), .int (zI f)]) (rest := []) S (m_X2_share l D g a c hI q d f (by omega) (by omega) (by omega)) ml_X4_207 im_X2_share se_X2_share ini_X2 cd_X2_share ds_X2_share ⟨Nat.le_of_ble_eq_true rfl, Nat.le_of_ble_eq_true rfl⟩ hK hP (va_recv hK.1 hP (ci := 2) (q0 := 4) rfl rfl) rfl hl.1 rfl (Nat.le_of_ble_eq_true rfl) ⟨Nat.zero_le _, Nat.zero_le _⟩ dX4_would_46 ?_
        exact z_ret S hr hlk (by first | rw [wouldT, if_pos (by assumption)] | rw [wouldT, if_neg (by assumption)]) dX4_would_49
      · refine z_iconst S dX4_would_37 ?_
        exact z_ret S hr hlk (by first | rw [wouldT, if_pos (by assumption)] | rw [wouldT, if_neg (by assumption)]) dX4_would_38
    · exact absurd h_2 (by omega)
set_option maxHeartbeats 4000000 in
set_option maxRecDepth 100000 in
theorem r_X4_best (l : Launch) (D : va_G) (g : ClassId × ClassId × ClassId) (a : Nat → Nat) {B : Int} (c : CS) (hI : IC B c) (d : Int) (w : Int) (h0 : 0 ≤ d ∧ d < c.1 3) (h1 : 0 ≤ w ∧ w ≤ 2) : RD l yX4_best cX4_best 4 (some .int) 4 94 D g (CW g a c) [.ref (a 0), .int (zI d), .int (zI w)] (bestT c d w) := by
  refine z_enter RX4 (by decide) rfl (Nat.le_of_ble_eq_true rfl) ?_
  intro p e s m args below meth co S hr hlk hK hP ls hl
  have hl : lv_has ls 4 [(0, .ref (a 0)), (1, .int (zI d)), (2, .int (zI w))] := hl
  have hs := hI.s
  refine lv_aload_n S.1 S.2.1 dX4_best_0 rfl (lv_at hl 0 rfl) ?_
  refine lv_iload_n S.1 S.2.1 dX4_best_1 rfl (lv_at hl 1 rfl) ?_
  refine z_rV (As := [.int (zI d)]) (rest := []) S (m_X4_isDowser l D g a c hI d (by omega)) ml_X4_96 im_X4_isDowser se_X4_isDowser ini_X4 cd_X4_isDowser ds_X4_isDowser ⟨Nat.le_of_ble_eq_true rfl, Nat.le_of_ble_eq_true rfl⟩ hK hP (va_recv hK.1 hP (ci := 4) (q0 := 0) rfl rfl) rfl hl.1 rfl (Nat.le_of_ble_eq_true rfl) ⟨Nat.zero_le _, Nat.zero_le _⟩ dX4_best_2 ?_
  refine z_ifb_eq (tgt := 17) S dX4_best_5 (by decide) (fun h_1 => ?_) (fun h_1 => ?_)
  · exact absurd h_1 (by omega)
  · refine lv_iload_n S.1 S.2.1 dX4_best_8 rfl (lv_at hl 2 rfl) ?_
    refine z_iconst S dX4_best_9 ?_
    refine z_iconst S dX4_best_10 ?_
    refine z_rS (As := [.int (zI w), .int (zI 0), .int (zI 2)]) (rest := []) S (m_X4_within l D g w 0 2 (by omega)) ml_X4_64 sm_X4_within ini_X4 cd_X4_within ds_X4_within ⟨Nat.le_of_ble_eq_true rfl, Nat.le_of_ble_eq_true rfl⟩ hK va_P_nil rfl hl.1 rfl (Nat.le_of_ble_eq_true rfl) ⟨Nat.zero_le _, Nat.zero_le _⟩ dX4_best_11 ?_
    refine z_ifb_ne (tgt := 27) S dX4_best_14 (by decide) (fun h_2 => ?_) (fun h_2 => ?_)
    · refine lv_aload_n S.1 S.2.1 dX4_best_27 rfl (lv_at hl 0 rfl) ?_
      refine lv_iload_n S.1 S.2.1 dX4_best_28 rfl (lv_at hl 1 rfl) ?_
      refine z_rV (As := [.int (zI d)]) (rest := []) S (m_X4_spotOfGreatestBend l D g a c hI d (by omega)) ml_X4_211 im_X4_spotOfGreatestBend se_X4_spotOfGreatestBend ini_X4 cd_X4_spotOfGreatestBend ds_X4_spotOfGreatestBend ⟨Nat.le_of_ble_eq_true rfl, Nat.le_of_ble_eq_true rfl⟩ hK hP (va_recv hK.1 hP (ci := 4) (q0 := 0) rfl rfl) rfl hl.1 rfl (Nat.le_of_ble_eq_true rfl) ⟨Nat.zero_le _, Nat.zero_le _⟩ dX4_best_29 ?_
      have hb1 := fm_b (bendC c d) 400
      have hb2 : 0 ≤ bestS c d ∧ bestS c d < 400 := by unfold bestS; omega
      refine lv_istore_n (lv' := [(3, .int (zI (bestS c d))), (0, .ref (a 0)), (1, .int (zI d)), (2, .int (zI w))]) S.1 S.2.1 dX4_best_32 rfl hl (by decide) rfl (fun ls hl => ?_)
      refine lv_iload_n S.1 S.2.1 dX4_best_33 rfl (lv_at hl 3 rfl) ?_
      rcases (show w = 0 ∨ w = 1 ∨ (w ≠ 0 ∧ w ≠ 1) by omega) with h_3 | h_3 | h_3
      · refine z_lk (off := 26) (tgt := 60) trivial S.1 S.2.1 (x := w) (by omega) dX4_best_34 (by decide) (by rw [h_3]; rfl) (by decide) ?_
        refine lv_iload_n S.1 S.2.1 dX4_best_60 rfl (lv_at hl 0 rfl) ?_
        refine z_rS (As := [.int (zI (bestS c d))]) (rest := []) S (m_X4_columnOf l D g (bestS c d) (by omega)) ml_X4_214 sm_X4_columnOf ini_X4 cd_X4_columnOf ds_X4_columnOf ⟨Nat.le_of_ble_eq_true rfl, Nat.le_of_ble_eq_true rfl⟩ hK va_P_nil rfl hl.1 rfl (Nat.le_of_ble_eq_true rfl) ⟨Nat.zero_le _, Nat.zero_le _⟩ dX4_best_61 ?_
        exact z_ret S hr hlk (by grind [bestT]) dX4_best_64
      · refine z_lk (off := 31) (tgt := 65) trivial S.1 S.2.1 (x := w) (by omega) dX4_best_34 (by decide) (by rw [h_3]; rfl) (by decide) ?_
        refine lv_iload_n S.1 S.2.1 dX4_best_65 rfl (lv_at hl 0 rfl) ?_
        refine z_rS (As := [.int (zI (bestS c d))]) (rest := []) S (m_X4_rowOf l D g (bestS c d) (by omega)) ml_X4_217 sm_X4_rowOf ini_X4 cd_X4_rowOf ds_X4_rowOf ⟨Nat.le_of_ble_eq_true rfl, Nat.le_of_ble_eq_true rfl⟩ hK va_P_nil rfl hl.1 rfl (Nat.le_of_ble_eq_true rfl) ⟨Nat.zero_le _, Nat.zero_le _⟩ dX4_best_66 ?_
        exact z_ret S hr hlk (by grind [bestT]) dX4_best_69
      · refine z_lk (off := 36) (tgt := 70) trivial S.1 S.2.1 (x := w) (by omega) dX4_best_34 (by decide) (by show (if (0 : Int) = w then 26 else (if (1 : Int) = w then 31 else 36)) = _; rw [if_neg (by omega), if_neg (by omega)]) (by decide) ?_
        refine lv_aload_n S.1 S.2.1 dX4_best_70 rfl (lv_at hl 1 rfl) ?_
        refine lv_iload_n S.1 S.2.1 dX4_best_71 rfl (lv_at hl 2 rfl) ?_
        refine lv_iload_n S.1 S.2.1 dX4_best_72 rfl (lv_at hl 0 rfl) ?_
        refine z_rV (As := [.int (zI d), .int (zI (bestS c d))]) (rest := []) S (m_X4_bend l D g a c hI d (bestS c d) (by omega) (by omega)) ml_X4_184 im_X4_bend se_X4_bend ini_X4 cd_X4_bend ds_X4_bend ⟨Nat.le_of_ble_eq_true rfl, Nat.le_of_ble_eq_true rfl⟩ hK hP (va_recv hK.1 hP (ci := 4) (q0 := 0) rfl rfl) rfl hl.1 rfl (Nat.le_of_ble_eq_true rfl) ⟨Nat.zero_le _, Nat.zero_le _⟩ dX4_best_73 ?_
        exact z_ret S hr hlk (by grind [bestT]) dX4_best_76
    · exact absurd h_2 (by omega)
set_option maxHeartbeats 4000000 in
set_option maxRecDepth 100000 in
theorem r_X4_line (l : Launch) (D : va_G) (g : ClassId × ClassId × ClassId) (a : Nat → Nat) {B : Int} (c : CS) (hI : IC B c) (hda : CD 21 a) (w : Int) (h0 : 0 ≤ w ∧ w ≤ 2) : WRi l yX4_line cX4_line 2 (some .int) 3 68 D g (CA 21 a) (CW g a c) [.ref (a 0), .int (zI w)] (CW g a (sA c 9 (onL c 400))) (lineT c w) := by
  refine z_enter RX4 (by decide) rfl (Nat.le_of_ble_eq_true rfl) ?_
  intro p e s m args below meth co S hr hlk hK hP ls hl
  have hl : lv_has ls 2 [(0, .ref (a 0)), (1, .int (zI w))] := hl
  have hs := hI.s
  have hS : va_S (CA 21 a) s.heap s.heap [] := va_S.rf
  refine lv_iload_n S.1 S.2.1 dX4_line_0 rfl (lv_at hl 1 rfl) ?_
  refine z_iconst S dX4_line_1 ?_
  refine z_iconst S dX4_line_2 ?_
  refine z_rS (As := [.int (zI w), .int (zI 0), .int (zI 2)]) (rest := []) S (m_X4_within l D g w 0 2 (by omega)) ml_X4_64 sm_X4_within ini_X4 cd_X4_within ds_X4_within ⟨Nat.le_of_ble_eq_true rfl, Nat.le_of_ble_eq_true rfl⟩ hK va_P_nil rfl hl.1 rfl (Nat.le_of_ble_eq_true rfl) ⟨Nat.zero_le _, Nat.zero_le _⟩ dX4_line_3 ?_
  refine z_ifb_ne (tgt := 19) S dX4_line_6 (by decide) (fun h_1 => ?_) (fun h_1 => ?_)
  · refine lv_aload_n S.1 S.2.1 dX4_line_19 rfl (lv_at hl 0 rfl) ?_
    refine z_get (v := .ref (a 3)) S inA4 hK hP 0 rfl rfl 2 (by decide) fl_X4_26 rfl dX4_line_20 ?_
    refine lv_iload_n S.1 S.2.1 dX4_line_23 rfl (lv_at hl 1 rfl) ?_
    refine z_wV (As := [.int (zI w)]) (rest := []) S (m_X1_tellFullestLine l D g a c hI hda w (by omega)) ml_X4_202 im_X1_tellFullestLine se_X1_tellFullestLine ini_X1 cd_X1_tellFullestLine ds_X1_tellFullestLine ⟨Nat.le_of_ble_eq_true rfl, Nat.le_of_ble_eq_true rfl⟩ hK hP (va_recv hK.1 hP (ci := 1) (q0 := 3) rfl rfl) rfl hl.1 rfl (Nat.le_of_ble_eq_true rfl) ⟨Nat.zero_le _, Nat.zero_le _⟩ hS (fun _ h => h) dX4_line_24 (fun H locs hP _ _ hS => ?_)
    have hw : CW g a (sA c 9 (onL c 400)) = CW g a (sA c 9 (onL c 400)) := by exact rfl
    rw [hw] at hP
    exact z_retw S hr hlk (by first | rfl | grind) hP hS dX4_line_27
  · exact absurd h_1 (by omega)
set_option maxHeartbeats 4000000 in
set_option maxRecDepth 100000 in
theorem r_X4_setMark (l : Launch) (D : va_G) (g : ClassId × ClassId × ClassId) (a : Nat → Nat) {B : Int} (c : CS) (hI : IC B c) (hda : CD 21 a) (mk : Int) (h0 : 1 ≤ mk ∧ mk ≤ 30) : WRi l yX4_setMark cX4_setMark 3 (some .int) 1 22 D g (CA 21 a) (CW g a c) [.ref (a 0), .int (zI mk)] (CW g a (sS c 0 mk)) (c.1 0) := by
  refine z_enter RX4 (by decide) rfl (Nat.le_of_ble_eq_true rfl) ?_
  intro p e s m args below meth co S hr hlk hK hP ls hl
  have hl : lv_has ls 3 [(0, .ref (a 0)), (1, .int (zI mk))] := hl
  have hs := hI.s
  have hS : va_S (CA 21 a) s.heap s.heap [] := va_S.rf
  refine lv_iload_n S.1 S.2.1 dX4_setMark_0 rfl (lv_at hl 1 rfl) ?_
  refine z_iconst S dX4_setMark_1 ?_
  refine z_bipush S (by decide) dX4_setMark_2 ?_
  refine z_rS (As := [.int (zI mk), .int (zI 1), .int (zI 30)]) (rest := []) S (m_X4_within l D g mk 1 30 (by omega)) ml_X4_64 sm_X4_within ini_X4 cd_X4_within ds_X4_within ⟨Nat.le_of_ble_eq_true rfl, Nat.le_of_ble_eq_true rfl⟩ hK va_P_nil rfl hl.1 rfl (Nat.le_of_ble_eq_true rfl) ⟨Nat.zero_le _, Nat.zero_le _⟩ dX4_setMark_4 ?_
  refine z_ifb_ne (tgt := 20) S dX4_setMark_7 (by decide) (fun h_1 => ?_) (fun h_1 => ?_)
  · refine lv_aload_n S.1 S.2.1 dX4_setMark_20 rfl (lv_at hl 0 rfl) ?_
    refine z_get (v := .int (zI (c.1 0))) S inA4 hK hP 0 rfl rfl 4 (by decide) fl_X4_37 rfl dX4_setMark_21 ?_
    refine lv_istore_n (lv' := [(2, .int (zI (c.1 0))), (0, .ref (a 0)), (1, .int (zI mk))]) S.1 S.2.1 dX4_setMark_24 rfl hl (by decide) rfl (fun ls hl => ?_)
    refine lv_aload_n S.1 S.2.1 dX4_setMark_25 rfl (lv_at hl 1 rfl) ?_
    refine lv_iload_n S.1 S.2.1 dX4_setMark_26 rfl (lv_at hl 2 rfl) ?_
    refine z_put S inA4 tyX4 tyX4_ok nmX4 hK hP (CW_D hda _) hS 0 rfl rfl 4 (by decide) fl_X4_37 rfl (by decide +kernel) (Nat.le_of_ble_eq_true rfl) dX4_setMark_27 (fun H locs hP hS => ?_)
    have hP : va_P D vwCl (CW g a (sS c 0 mk)) H := hP
    refine lv_iload_n S.1 S.2.1 dX4_setMark_30 rfl (lv_at hl 0 rfl) ?_
    have hw : CW g a (sS c 0 mk) = CW g a (sS c 0 mk) := by exact rfl
    rw [hw] at hP
    exact z_retw S hr hlk (by first | rfl | grind) hP hS dX4_setMark_31
  · exact absurd h_1 (by omega)
set_option maxHeartbeats 4000000 in
set_option maxRecDepth 100000 in
theorem r_X4_walk (l : Launch) (D : va_G) (g : ClassId × ClassId × ClassId) (a : Nat → Nat) {B : Int} (c : CS) (hI : IC B c) (hda : CD 21 a) (d : Int) (x : Int) (y : Int) (tx : Int) (ty : Int) (h0 : 0 ≤ d ∧ d < c.1 3) (h1 : inF x y) (h2 : inF tx ty) : WRi l yX4_walk cX4_walk 12 (some .int) 4 91 D g (CA 21 a) (CW g a c) [.ref (a 0), .int (zI d), .int (zI x), .int (zI y), .int (zI tx), .int (zI ty)] (CW g a (walkC c d x y tx ty)) (walkR c d x y tx ty) := by
  refine z_enter RX4 (by decide) rfl (Nat.le_of_ble_eq_true rfl) ?_
  intro p e s m args below meth co S hr hlk hK hP ls hl
  have hl : lv_has ls 12 [(0, .ref (a 0)), (1, .int (zI d)), (2, .int (zI x)), (3, .int (zI y)), (4, .int (zI tx)), (5, .int (zI ty))] := hl
  have hs := hI.s
  have hS : va_S (CA 21 a) s.heap s.heap [] := va_S.rf
  refine lv_aload_n S.1 S.2.1 dX4_walk_0 rfl (lv_at hl 0 rfl) ?_
  refine lv_iload_n S.1 S.2.1 dX4_walk_1 rfl (lv_at hl 1 rfl) ?_
  refine z_rV (As := [.int (zI d)]) (rest := []) S (m_X4_isDowser l D g a c hI d (by omega)) ml_X4_96 im_X4_isDowser se_X4_isDowser ini_X4 cd_X4_isDowser ds_X4_isDowser ⟨Nat.le_of_ble_eq_true rfl, Nat.le_of_ble_eq_true rfl⟩ hK hP (va_recv hK.1 hP (ci := 4) (q0 := 0) rfl rfl) rfl hl.1 rfl (Nat.le_of_ble_eq_true rfl) ⟨Nat.zero_le _, Nat.zero_le _⟩ dX4_walk_2 ?_
  refine z_ifb_eq (tgt := 26) S dX4_walk_5 (by decide) (fun h_1 => ?_) (fun h_1 => ?_)
  · exact absurd h_1 (by omega)
  · refine lv_iload_n S.1 S.2.1 dX4_walk_8 rfl (lv_at hl 2 rfl) ?_
    refine lv_iload_n S.1 S.2.1 dX4_walk_9 rfl (lv_at hl 3 rfl) ?_
    refine z_rS (As := [.int (zI x), .int (zI y)]) (rest := []) S (m_X4_inField l D g x y (by omega)) ml_X4_44 sm_X4_inField ini_X4 cd_X4_inField ds_X4_inField ⟨Nat.le_of_ble_eq_true rfl, Nat.le_of_ble_eq_true rfl⟩ hK va_P_nil rfl hl.1 rfl (Nat.le_of_ble_eq_true rfl) ⟨Nat.zero_le _, Nat.zero_le _⟩ dX4_walk_10 ?_
    refine z_ifb_eq (tgt := 26) S dX4_walk_13 (by decide) (fun h_2 => ?_) (fun h_2 => ?_)
    · exact absurd h_2 (by omega)
    · refine lv_iload S.1 S.2.1 dX4_walk_16 (lv_at hl 4 rfl) ?_
      refine lv_iload S.1 S.2.1 dX4_walk_18 (lv_at hl 5 rfl) ?_
      refine z_rS (As := [.int (zI tx), .int (zI ty)]) (rest := []) S (m_X4_inField l D g tx ty (by omega)) ml_X4_44 sm_X4_inField ini_X4 cd_X4_inField ds_X4_inField ⟨Nat.le_of_ble_eq_true rfl, Nat.le_of_ble_eq_true rfl⟩ hK va_P_nil rfl hl.1 rfl (Nat.le_of_ble_eq_true rfl) ⟨Nat.zero_le _, Nat.zero_le _⟩ dX4_walk_20 ?_
      refine z_ifb_ne (tgt := 36) S dX4_walk_23 (by decide) (fun h_3 => ?_) (fun h_3 => ?_)
      · have hb1 := ab_le (x := tx - x) (n := 19) (by omega)
        have hb2 := ab_le (x := ty - y) (n := 19) (by omega)
        have hd0 : 0 ≤ d ∧ d < 5 := by omega
        refine z_iconst S dX4_walk_36 ?_
        refine lv_istore (lv' := [(6, .int (zI 0)), (0, .ref (a 0)), (1, .int (zI d)), (2, .int (zI x)), (3, .int (zI y)), (4, .int (zI tx)), (5, .int (zI ty))]) S.1 S.2.1 dX4_walk_37 hl (by decide) rfl (fun ls hl => ?_)
        refine lv_iload S.1 S.2.1 dX4_walk_39 (lv_at hl 5 rfl) ?_
        refine lv_iload_n S.1 S.2.1 dX4_walk_41 rfl (lv_at hl 3 rfl) ?_
        refine z_isub S dX4_walk_42 ?_
        refine z_rS (As := [.int (zI (tx - x))]) (rest := []) S (m_J6_signum_0f7a4 l D g (tx - x) (by omega)) ml_X4_102 sm_J6_signum_0f7a4 ini_J6 cd_J6_signum_0f7a4 ds_J6_signum_0f7a4 ⟨Nat.le_of_ble_eq_true rfl, Nat.le_of_ble_eq_true rfl⟩ hK va_P_nil rfl hl.1 rfl (Nat.le_of_ble_eq_true rfl) ⟨Nat.zero_le _, Nat.zero_le _⟩ dX4_walk_43 ?_
        refine lv_istore (lv' := [(7, .int (zI (sgn (tx - x)))), (6, .int (zI 0)), (0, .ref (a 0)), (1, .int (zI d)), (2, .int (zI x)), (3, .int (zI y)), (4, .int (zI tx)), (5, .int (zI ty))]) S.1 S.2.1 dX4_walk_46 hl (by decide) rfl (fun ls hl => ?_)
        refine lv_iload S.1 S.2.1 dX4_walk_48 (lv_at hl 6 rfl) ?_
        refine lv_iload_n S.1 S.2.1 dX4_walk_50 rfl (lv_at hl 4 rfl) ?_
        refine z_isub S dX4_walk_51 ?_
        refine z_abs S ml_X4_108 hl.1 (Nat.le_of_ble_eq_true rfl) (Nat.le_of_ble_eq_true rfl) ⟨Nat.zero_le _, Nat.zero_le _⟩ (by omega) dX4_walk_52 ?_
        refine lv_istore (lv' := [(8, .int (zI (ab (tx - x)))), (7, .int (zI (sgn (tx - x)))), (6, .int (zI 0)), (0, .ref (a 0)), (1, .int (zI d)), (2, .int (zI x)), (3, .int (zI y)), (4, .int (zI tx)), (5, .int (zI ty))]) S.1 S.2.1 dX4_walk_55 hl (by decide) rfl (fun ls hl => ?_)
        refine z_iconst S dX4_walk_57 ?_
        refine lv_istore (lv' := [(9, .int (zI 0)), (8, .int (zI (ab (tx - x)))), (7, .int (zI (sgn (tx - x)))), (6, .int (zI 0)), (0, .ref (a 0)), (1, .int (zI d)), (2, .int (zI x)), (3, .int (zI y)), (4, .int (zI tx)), (5, .int (zI ty))]) S.1 S.2.1 dX4_walk_58 hl (by decide) rfl (fun ls hl => ?_)
        refine z_forW (D := D) (nL := 12) (A := (CA 21 a)) (H0 := s.heap) ((ab (tx - x) + 1).toNat) (fun (k60 : Nat) => [(9, .int (zI (k60 : Int))), (8, .int (zI (ab (tx - x)))), (7, .int (zI (sgn (tx - x)))), (6, .int (zI (wkR c d (w1 x y tx) k60))), (0, .ref (a 0)), (1, .int (zI d)), (2, .int (zI x)), (3, .int (zI y)), (4, .int (zI tx)), (5, .int (zI ty))]) (fun (k60 : Nat) => CW g a (wkC c d (w1 x y tx) k60)) (fun k60 => True) (fun k60 hk60 hJ60 H locs hP hS ls hl ih60 => ?_) (fun hJ60 H locs hP hS ls hl => ?_) 0 (by omega) trivial _ _ hP hS ls (lv_sub hl [0, 1, 2, 3, 4, 5, 6, 7, 8, 9] rfl)
        · have hl : lv_has ls 12 [(9, .int (zI (k60 : Int))), (8, .int (zI (ab (tx - x)))), (7, .int (zI (sgn (tx - x)))), (6, .int (zI (wkR c d (w1 x y tx) k60))), (0, .ref (a 0)), (1, .int (zI d)), (2, .int (zI x)), (3, .int (zI y)), (4, .int (zI tx)), (5, .int (zI ty))] := hl
          have hP : va_P D vwCl (CW g a (wkC c d (w1 x y tx) k60)) H := hP
          have hb3 := wlk_in (x := x) (tx := tx) (by omega) (k := (k60 : Int)) (by omega)
          refine lv_iload S.1 S.2.1 dX4_walk_60 (lv_at hl 0 rfl) ?_
          refine lv_iload S.1 S.2.1 dX4_walk_62 (lv_at hl 1 rfl) ?_
          refine z_icmp_gt (tgt := 94) S dX4_walk_64 (by decide) (by omega) (fun h_4 => ?_) (fun h_4 => ?_)
          · exact absurd h_4 (by omega)
          · refine lv_iload S.1 S.2.1 dX4_walk_67 (lv_at hl 3 rfl) ?_
            refine lv_aload_n S.1 S.2.1 dX4_walk_69 rfl (lv_at hl 4 rfl) ?_
            refine lv_iload_n S.1 S.2.1 dX4_walk_70 rfl (lv_at hl 5 rfl) ?_
            refine lv_iload_n S.1 S.2.1 dX4_walk_71 rfl (lv_at hl 6 rfl) ?_
            refine lv_iload S.1 S.2.1 dX4_walk_72 (lv_at hl 0 rfl) ?_
            refine lv_iload S.1 S.2.1 dX4_walk_74 (lv_at hl 2 rfl) ?_
            refine z_imul S dX4_walk_76 ?_
            refine z_iadd S dX4_walk_77 ?_
            refine lv_iload_n S.1 S.2.1 dX4_walk_78 rfl (lv_at hl 7 rfl) ?_
            refine z_rS (As := [.int (zI (x + ((k60 : Int) * (sgn (tx - x))))), .int (zI y)]) (rest := [.int (zI d), .ref (a 0), .int (zI (wkR c d (w1 x y tx) k60))]) S (m_X4_spotAt l D g (x + ((k60 : Int) * (sgn (tx - x)))) y) ml_X4_113 sm_X4_spotAt ini_X4 cd_X4_spotAt ds_X4_spotAt ⟨Nat.le_of_ble_eq_true rfl, Nat.le_of_ble_eq_true rfl⟩ hK va_P_nil rfl hl.1 rfl (Nat.le_of_ble_eq_true rfl) ⟨Nat.zero_le _, Nat.zero_le _⟩ dX4_walk_79 ?_
            refine z_wV (As := [.int (zI d), .int (zI (y * 20 + (x + ((k60 : Int) * (sgn (tx - x))))))]) (rest := [.int (zI (wkR c d (w1 x y tx) k60))]) S (m_X4_markPeg l D g a (wkC c d (w1 x y tx) k60) (wkC_IC hI hd0 (w1 x y tx) k60) hda d (y * 20 + (x + ((k60 : Int) * (sgn (tx - x))))) (by omega) (by omega)) ml_X4_116 im_X4_markPeg se_X4_markPeg ini_X4 cd_X4_markPeg ds_X4_markPeg ⟨Nat.le_of_ble_eq_true rfl, Nat.le_of_ble_eq_true rfl⟩ hK hP (va_recv hK.1 hP (ci := 4) (q0 := 0) rfl rfl) rfl hl.1 rfl (Nat.le_of_ble_eq_true rfl) ⟨Nat.zero_le _, Nat.zero_le _⟩ hS (fun _ h => h) dX4_walk_82 (fun H locs hP _ _ hS => ?_)
            refine z_iadd S dX4_walk_85 ?_
            refine lv_istore (lv' := [(6, .int (zI ((wkR c d (w1 x y tx) k60) + (b01 (mrk (wkC c d (w1 x y tx) k60) d (y * 20 + (x + ((k60 : Int) * (sgn (tx - x)))))))))), (9, .int (zI (k60 : Int))), (8, .int (zI (ab (tx - x)))), (7, .int (zI (sgn (tx - x)))), (0, .ref (a 0)), (1, .int (zI d)), (2, .int (zI x)), (3, .int (zI y)), (4, .int (zI tx)), (5, .int (zI ty))]) S.1 S.2.1 dX4_walk_86 hl (by decide) rfl (fun ls hl => ?_)
            refine z_iinc (lv' := [(9, .int (zI ((k60 : Int) + 1))), (6, .int (zI ((wkR c d (w1 x y tx) k60) + (b01 (mrk (wkC c d (w1 x y tx) k60) d (y * 20 + (x + ((k60 : Int) * (sgn (tx - x)))))))))), (8, .int (zI (ab (tx - x)))), (7, .int (zI (sgn (tx - x)))), (0, .ref (a 0)), (1, .int (zI d)), (2, .int (zI x)), (3, .int (zI y)), (4, .int (zI tx)), (5, .int (zI ty))]) S dX4_walk_88 hl (k := 1) rfl (by decide) rfl (fun ls hl => ?_)
            refine z_goto (tgt := 60) S dX4_walk_91 (by decide) ?_
            have hw : CW g a (mrkC (wkC c d (w1 x y tx) k60) d (y * 20 + (x + ((k60 : Int) * (sgn (tx - x)))))) = CW g a (wkC c d (w1 x y tx) (k60 + 1)) := by exact rfl
            rw [hw] at hP
            exact ih60 _ _ hP hS _ (lv_sub hl [0, 2, 3, 1, 4, 5, 6, 7, 8, 9] rfl) trivial
        · have hl : lv_has ls 12 [(9, .int (zI (((ab (tx - x) + 1).toNat : Nat) : Int))), (8, .int (zI (ab (tx - x)))), (7, .int (zI (sgn (tx - x)))), (6, .int (zI (wkR c d (w1 x y tx) ((ab (tx - x) + 1).toNat)))), (0, .ref (a 0)), (1, .int (zI d)), (2, .int (zI x)), (3, .int (zI y)), (4, .int (zI tx)), (5, .int (zI ty))] := hl
          have hP : va_P D vwCl (CW g a (wkC c d (w1 x y tx) ((ab (tx - x) + 1).toNat))) H := hP
          refine lv_iload S.1 S.2.1 dX4_walk_60 (lv_at hl 0 rfl) ?_
          refine lv_iload S.1 S.2.1 dX4_walk_62 (lv_at hl 1 rfl) ?_
          refine z_icmp_gt (tgt := 94) S dX4_walk_64 (by decide) (by omega) (fun h_5 => ?_) (fun h_5 => ?_)
          · refine lv_iload S.1 S.2.1 dX4_walk_94 (lv_at hl 9 rfl) ?_
            refine lv_iload_n S.1 S.2.1 dX4_walk_96 rfl (lv_at hl 7 rfl) ?_
            refine z_isub S dX4_walk_97 ?_
            refine z_rS (As := [.int (zI (ty - y))]) (rest := []) S (m_J6_signum_0f7a4 l D g (ty - y) (by omega)) ml_X4_102 sm_J6_signum_0f7a4 ini_J6 cd_J6_signum_0f7a4 ds_J6_signum_0f7a4 ⟨Nat.le_of_ble_eq_true rfl, Nat.le_of_ble_eq_true rfl⟩ hK va_P_nil rfl hl.1 rfl (Nat.le_of_ble_eq_true rfl) ⟨Nat.zero_le _, Nat.zero_le _⟩ dX4_walk_98 ?_
            refine lv_istore (lv' := [(9, .int (zI (sgn (ty - y)))), (8, .int (zI (ab (tx - x)))), (7, .int (zI (sgn (tx - x)))), (6, .int (zI (wkR c d (w1 x y tx) ((ab (tx - x) + 1).toNat)))), (0, .ref (a 0)), (1, .int (zI d)), (2, .int (zI x)), (3, .int (zI y)), (4, .int (zI tx)), (5, .int (zI ty))]) S.1 S.2.1 dX4_walk_101 hl (by decide) rfl (fun ls hl => ?_)
            refine lv_iload S.1 S.2.1 dX4_walk_103 (lv_at hl 9 rfl) ?_
            refine lv_iload_n S.1 S.2.1 dX4_walk_105 rfl (lv_at hl 7 rfl) ?_
            refine z_isub S dX4_walk_106 ?_
            refine z_abs S ml_X4_108 hl.1 (Nat.le_of_ble_eq_true rfl) (Nat.le_of_ble_eq_true rfl) ⟨Nat.zero_le _, Nat.zero_le _⟩ (by omega) dX4_walk_107 ?_
            refine lv_istore (lv' := [(10, .int (zI (ab (ty - y)))), (9, .int (zI (sgn (ty - y)))), (8, .int (zI (ab (tx - x)))), (7, .int (zI (sgn (tx - x)))), (6, .int (zI (wkR c d (w1 x y tx) ((ab (tx - x) + 1).toNat)))), (0, .ref (a 0)), (1, .int (zI d)), (2, .int (zI x)), (3, .int (zI y)), (4, .int (zI tx)), (5, .int (zI ty))]) S.1 S.2.1 dX4_walk_110 hl (by decide) rfl (fun ls hl => ?_)
            refine z_iconst S dX4_walk_112 ?_
            refine lv_istore (lv' := [(11, .int (zI 1)), (10, .int (zI (ab (ty - y)))), (9, .int (zI (sgn (ty - y)))), (8, .int (zI (ab (tx - x)))), (7, .int (zI (sgn (tx - x)))), (6, .int (zI (wkR c d (w1 x y tx) ((ab (tx - x) + 1).toNat)))), (0, .ref (a 0)), (1, .int (zI d)), (2, .int (zI x)), (3, .int (zI y)), (4, .int (zI tx)), (5, .int (zI ty))]) S.1 S.2.1 dX4_walk_113 hl (by decide) rfl (fun ls hl => ?_)
            have e_6 : wkR c d (w1 x y tx) (ab (tx - x) + 1).toNat + wkR (walkA c d x y tx) d (w2 y tx ty) 0 = wkR c d (w1 x y tx) ((ab (tx - x) + 1).toNat) := by exact Int.add_zero _
            refine z_forW (D := D) (nL := 12) (A := (CA 21 a)) (H0 := s.heap) ((ab (ty - y)).toNat) (fun (k115 : Nat) => [(11, .int (zI ((k115 : Int) + 1))), (10, .int (zI (ab (ty - y)))), (9, .int (zI (sgn (ty - y)))), (8, .int (zI (ab (tx - x)))), (7, .int (zI (sgn (tx - x)))), (6, .int (zI (wkR c d (w1 x y tx) (ab (tx - x) + 1).toNat + wkR (walkA c d x y tx) d (w2 y tx ty) k115))), (0, .ref (a 0)), (1, .int (zI d)), (2, .int (zI x)), (3, .int (zI y)), (4, .int (zI tx)), (5, .int (zI ty))]) (fun (k115 : Nat) => CW g a (wkC (walkA c d x y tx) d (w2 y tx ty) k115)) (fun k115 => True) (fun k115 hk115 hJ115 H locs hP hS ls hl ih115 => ?_) (fun hJ115 H locs hP hS ls hl => ?_) 0 (by omega) trivial _ _ hP hS ls (lv_sub hl [0, 1, 2, 3, 4, 5, 6, 7, 8, 9, 10, 11] (by show _ = ([(11, .int (zI (((0 : Nat) : Int) + 1))), (10, .int (zI (ab (ty - y)))), (9, .int (zI (sgn (ty - y)))), (8, .int (zI (ab (tx - x)))), (7, .int (zI (sgn (tx - x)))), (6, .int (zI (wkR c d (w1 x y tx) (ab (tx - x) + 1).toNat + wkR (walkA c d x y tx) d (w2 y tx ty) 0))), (0, .ref (a 0)), (1, .int (zI d)), (2, .int (zI x)), (3, .int (zI y)), (4, .int (zI tx)), (5, .int (zI ty))] : List (Nat × Value)); rw [e_6]; first | done | rfl))
            · have hl : lv_has ls 12 [(11, .int (zI ((k115 : Int) + 1))), (10, .int (zI (ab (ty - y)))), (9, .int (zI (sgn (ty - y)))), (8, .int (zI (ab (tx - x)))), (7, .int (zI (sgn (tx - x)))), (6, .int (zI (wkR c d (w1 x y tx) (ab (tx - x) + 1).toNat + wkR (walkA c d x y tx) d (w2 y tx ty) k115))), (0, .ref (a 0)), (1, .int (zI d)), (2, .int (zI x)), (3, .int (zI y)), (4, .int (zI tx)), (5, .int (zI ty))] := hl
              have hP : va_P D vwCl (CW g a (wkC (walkA c d x y tx) d (w2 y tx ty) k115)) H := hP
              have hb3 := wlk_in (x := y) (tx := ty) (by omega) (k := (k115 : Int) + 1) (by omega)
              refine lv_iload S.1 S.2.1 dX4_walk_115 (lv_at hl 0 rfl) ?_
              refine lv_iload S.1 S.2.1 dX4_walk_117 (lv_at hl 1 rfl) ?_
              refine z_icmp_gt (tgt := 150) S dX4_walk_119 (by decide) (by omega) (fun h_7 => ?_) (fun h_7 => ?_)
              · exact absurd h_7 (by omega)
              · refine lv_iload S.1 S.2.1 dX4_walk_122 (lv_at hl 5 rfl) ?_
                refine lv_aload_n S.1 S.2.1 dX4_walk_124 rfl (lv_at hl 6 rfl) ?_
                refine lv_iload_n S.1 S.2.1 dX4_walk_125 rfl (lv_at hl 7 rfl) ?_
                refine lv_iload S.1 S.2.1 dX4_walk_126 (lv_at hl 10 rfl) ?_
                refine lv_iload_n S.1 S.2.1 dX4_walk_128 rfl (lv_at hl 9 rfl) ?_
                refine lv_iload S.1 S.2.1 dX4_walk_129 (lv_at hl 0 rfl) ?_
                refine lv_iload S.1 S.2.1 dX4_walk_131 (lv_at hl 2 rfl) ?_
                refine z_imul S dX4_walk_133 ?_
                refine z_iadd S dX4_walk_134 ?_
                refine z_rS (As := [.int (zI tx), .int (zI (y + (((k115 : Int) + 1) * (sgn (ty - y)))))]) (rest := [.int (zI d), .ref (a 0), .int (zI (wkR c d (w1 x y tx) (ab (tx - x) + 1).toNat + wkR (walkA c d x y tx) d (w2 y tx ty) k115))]) S (m_X4_spotAt l D g tx (y + (((k115 : Int) + 1) * (sgn (ty - y))))) ml_X4_113 sm_X4_spotAt ini_X4 cd_X4_spotAt ds_X4_spotAt ⟨Nat.le_of_ble_eq_true rfl, Nat.le_of_ble_eq_true rfl⟩ hK va_P_nil rfl hl.1 rfl (Nat.le_of_ble_eq_true rfl) ⟨Nat.zero_le _, Nat.zero_le _⟩ dX4_walk_135 ?_
                refine z_wV (As := [.int (zI d), .int (zI ((y + (((k115 : Int) + 1) * (sgn (ty - y)))) * 20 + tx))]) (rest := [.int (zI (wkR c d (w1 x y tx) (ab (tx - x) + 1).toNat + wkR (walkA c d x y tx) d (w2 y tx ty) k115))]) S (m_X4_markPeg l D g a (wkC (walkA c d x y tx) d (w2 y tx ty) k115) (wkC_IC (wkC_IC hI hd0 (w1 x y tx) _) hd0 (w2 y tx ty) k115) hda d ((y + (((k115 : Int) + 1) * (sgn (ty - y)))) * 20 + tx) (by omega) (by omega)) ml_X4_116 im_X4_markPeg se_X4_markPeg ini_X4 cd_X4_markPeg ds_X4_markPeg ⟨Nat.le_of_ble_eq_true rfl, Nat.le_of_ble_eq_true rfl⟩ hK hP (va_recv hK.1 hP (ci := 4) (q0 := 0) rfl rfl) rfl hl.1 rfl (Nat.le_of_ble_eq_true rfl) ⟨Nat.zero_le _, Nat.zero_le _⟩ hS (fun _ h => h) dX4_walk_138 (fun H locs hP _ _ hS => ?_)
                refine z_iadd S dX4_walk_141 ?_
                refine lv_istore (lv' := [(6, .int (zI ((wkR c d (w1 x y tx) (ab (tx - x) + 1).toNat + wkR (walkA c d x y tx) d (w2 y tx ty) k115) + (b01 (mrk (wkC (walkA c d x y tx) d (w2 y tx ty) k115) d ((y + (((k115 : Int) + 1) * (sgn (ty - y)))) * 20 + tx)))))), (11, .int (zI ((k115 : Int) + 1))), (10, .int (zI (ab (ty - y)))), (9, .int (zI (sgn (ty - y)))), (8, .int (zI (ab (tx - x)))), (7, .int (zI (sgn (tx - x)))), (0, .ref (a 0)), (1, .int (zI d)), (2, .int (zI x)), (3, .int (zI y)), (4, .int (zI tx)), (5, .int (zI ty))]) S.1 S.2.1 dX4_walk_142 hl (by decide) rfl (fun ls hl => ?_)
                refine z_iinc (lv' := [(11, .int (zI (((k115 : Int) + 1) + 1))), (6, .int (zI ((wkR c d (w1 x y tx) (ab (tx - x) + 1).toNat + wkR (walkA c d x y tx) d (w2 y tx ty) k115) + (b01 (mrk (wkC (walkA c d x y tx) d (w2 y tx ty) k115) d ((y + (((k115 : Int) + 1) * (sgn (ty - y)))) * 20 + tx)))))), (10, .int (zI (ab (ty - y)))), (9, .int (zI (sgn (ty - y)))), (8, .int (zI (ab (tx - x)))), (7, .int (zI (sgn (tx - x)))), (0, .ref (a 0)), (1, .int (zI d)), (2, .int (zI x)), (3, .int (zI y)), (4, .int (zI tx)), (5, .int (zI ty))]) S dX4_walk_144 hl (k := 1) rfl (by decide) rfl (fun ls hl => ?_)
                refine z_goto (tgt := 115) S dX4_walk_147 (by decide) ?_
                have e_8 : wkR c d (w1 x y tx) (ab (tx - x) + 1).toNat + wkR (walkA c d x y tx) d (w2 y tx ty) (k115 + 1) = (wkR c d (w1 x y tx) (ab (tx - x) + 1).toNat + wkR (walkA c d x y tx) d (w2 y tx ty) k115) + (b01 (mrk (wkC (walkA c d x y tx) d (w2 y tx ty) k115) d ((y + (((k115 : Int) + 1) * (sgn (ty - y)))) * 20 + tx))) := by rw [wkR]; exact (Int.add_assoc _ _ _).symm
                have hw : CW g a (mrkC (wkC (walkA c d x y tx) d (w2 y tx ty) k115) d ((y + (((k115 : Int) + 1) * (sgn (ty - y)))) * 20 + tx)) = CW g a (wkC (walkA c d x y tx) d (w2 y tx ty) (k115 + 1)) := by exact rfl
                rw [hw] at hP
                exact ih115 _ _ hP hS _ (lv_sub hl [0, 2, 3, 4, 5, 1, 6, 7, 8, 9, 10, 11] (by show _ = ([(11, .int (zI (((k115 + 1 : Nat) : Int) + 1))), (10, .int (zI (ab (ty - y)))), (9, .int (zI (sgn (ty - y)))), (8, .int (zI (ab (tx - x)))), (7, .int (zI (sgn (tx - x)))), (6, .int (zI (wkR c d (w1 x y tx) (ab (tx - x) + 1).toNat + wkR (walkA c d x y tx) d (w2 y tx ty) (k115 + 1)))), (0, .ref (a 0)), (1, .int (zI d)), (2, .int (zI x)), (3, .int (zI y)), (4, .int (zI tx)), (5, .int (zI ty))] : List (Nat × Value)); rw [e_8]; first | done | rfl)) trivial
            · have hl : lv_has ls 12 [(11, .int (zI ((((ab (ty - y)).toNat : Nat) : Int) + 1))), (10, .int (zI (ab (ty - y)))), (9, .int (zI (sgn (ty - y)))), (8, .int (zI (ab (tx - x)))), (7, .int (zI (sgn (tx - x)))), (6, .int (zI (wkR c d (w1 x y tx) (ab (tx - x) + 1).toNat + wkR (walkA c d x y tx) d (w2 y tx ty) ((ab (ty - y)).toNat)))), (0, .ref (a 0)), (1, .int (zI d)), (2, .int (zI x)), (3, .int (zI y)), (4, .int (zI tx)), (5, .int (zI ty))] := hl
              have hP : va_P D vwCl (CW g a (wkC (walkA c d x y tx) d (w2 y tx ty) ((ab (ty - y)).toNat))) H := hP
              refine lv_iload S.1 S.2.1 dX4_walk_115 (lv_at hl 0 rfl) ?_
              refine lv_iload S.1 S.2.1 dX4_walk_117 (lv_at hl 1 rfl) ?_
              refine z_icmp_gt (tgt := 150) S dX4_walk_119 (by decide) (by omega) (fun h_9 => ?_) (fun h_9 => ?_)
              · refine lv_iload S.1 S.2.1 dX4_walk_150 (lv_at hl 5 rfl) ?_
                have hw : CW g a (wkC (walkA c d x y tx) d (w2 y tx ty) ((ab (ty - y)).toNat)) = CW g a (walkC c d x y tx ty) := by exact rfl
                rw [hw] at hP
                exact z_retw S hr hlk (by first | rfl | grind) hP hS dX4_walk_152
              · exact absurd h_9 (by omega)
          · exact absurd h_5 (by omega)
      · exact absurd h_3 (by omega)
set_option maxHeartbeats 4000000 in
set_option maxRecDepth 100000 in
theorem r_X4_dowser (l : Launch) (D : va_G) (g : ClassId × ClassId × ClassId) (a : Nat → Nat) {B : Int} (c : CS) (hI : IC B c) (hda : CD 21 a) (fl : Int) (ln : Int) (h0 : 0 ≤ fl ∧ fl ≤ 9) (h1 : -3 ≤ ln ∧ ln ≤ 3) (h2 : c.1 3 < 5) : WRi l yX4_dowser cX4_dowser 3 (some .int) 1 23 D g (CA 21 a) (CW g a c) [.ref (a 0), .int (zI fl), .int (zI ln)] (CW g a (dowC c fl ln)) (c.1 3) := by
  refine z_enter RX4 (by decide) rfl (Nat.le_of_ble_eq_true rfl) ?_
  intro p e s m args below meth co S hr hlk hK hP ls hl
  have hl : lv_has ls 3 [(0, .ref (a 0)), (1, .int (zI fl)), (2, .int (zI ln))] := hl
  have hs := hI.s
  have hS : va_S (CA 21 a) s.heap s.heap [] := va_S.rf
  refine lv_iload_n S.1 S.2.1 dX4_dowser_0 rfl (lv_at hl 1 rfl) ?_
  refine z_iconst S dX4_dowser_1 ?_
  refine z_bipush S (by decide) dX4_dowser_2 ?_
  refine z_rS (As := [.int (zI fl), .int (zI 0), .int (zI 9)]) (rest := []) S (m_X4_within l D g fl 0 9 (by omega)) ml_X4_64 sm_X4_within ini_X4 cd_X4_within ds_X4_within ⟨Nat.le_of_ble_eq_true rfl, Nat.le_of_ble_eq_true rfl⟩ hK va_P_nil rfl hl.1 rfl (Nat.le_of_ble_eq_true rfl) ⟨Nat.zero_le _, Nat.zero_le _⟩ dX4_dowser_4 ?_
  refine z_ifb_eq (tgt := 20) S dX4_dowser_7 (by decide) (fun h_1 => ?_) (fun h_1 => ?_)
  · exact absurd h_1 (by omega)
  · refine lv_iload_n S.1 S.2.1 dX4_dowser_10 rfl (lv_at hl 2 rfl) ?_
    refine z_bipush S (by decide) dX4_dowser_11 ?_
    refine z_iconst S dX4_dowser_13 ?_
    refine z_rS (As := [.int (zI ln), .int (zI (-3)), .int (zI 3)]) (rest := []) S (m_X4_within l D g ln (-3) 3 (by omega)) ml_X4_64 sm_X4_within ini_X4 cd_X4_within ds_X4_within ⟨Nat.le_of_ble_eq_true rfl, Nat.le_of_ble_eq_true rfl⟩ hK va_P_nil rfl hl.1 rfl (Nat.le_of_ble_eq_true rfl) ⟨Nat.zero_le _, Nat.zero_le _⟩ dX4_dowser_14 ?_
    refine z_ifb_ne (tgt := 30) S dX4_dowser_17 (by decide) (fun h_2 => ?_) (fun h_2 => ?_)
    · refine lv_aload_n S.1 S.2.1 dX4_dowser_30 rfl (lv_at hl 0 rfl) ?_
      refine z_get (v := .ref (a 2)) S inA4 hK hP 0 rfl rfl 1 (by decide) fl_X4_19 rfl dX4_dowser_31 ?_
      refine z_get (v := .int (zI (c.1 3))) S inA0 hK hP 2 rfl rfl 0 (by decide) fl_X4_88 rfl dX4_dowser_34 ?_
      refine z_iconst S dX4_dowser_37 ?_
      refine z_icmp_lt (tgt := 51) S dX4_dowser_38 (by decide) (by omega) (fun h_3 => ?_) (fun h_3 => ?_)
      · refine lv_aload_n S.1 S.2.1 dX4_dowser_51 rfl (lv_at hl 0 rfl) ?_
        refine z_get (v := .ref (a 2)) S inA4 hK hP 0 rfl rfl 1 (by decide) fl_X4_19 rfl dX4_dowser_52 ?_
        refine lv_iload_n S.1 S.2.1 dX4_dowser_55 rfl (lv_at hl 1 rfl) ?_
        refine lv_iload_n S.1 S.2.1 dX4_dowser_56 rfl (lv_at hl 2 rfl) ?_
        refine z_wV (As := [.int (zI fl), .int (zI ln)]) (rest := []) S (m_X0_add l D g a c hI hda fl ln (by omega)) ml_X4_91 im_X0_add se_X0_add ini_X0 cd_X0_add ds_X0_add ⟨Nat.le_of_ble_eq_true rfl, Nat.le_of_ble_eq_true rfl⟩ hK hP (va_recv hK.1 hP (ci := 0) (q0 := 2) rfl rfl) rfl hl.1 rfl (Nat.le_of_ble_eq_true rfl) ⟨Nat.zero_le _, Nat.zero_le _⟩ hS (fun _ h => h) dX4_dowser_57 (fun H locs hP _ _ hS => ?_)
        have hw : CW g a (sS (sA (sA (sA c 5 (upZ (c.2 5) (c.1 3) fl)) 6 (upZ (c.2 6) (c.1 3) ln)) 7 (upZ (c.2 7) (c.1 3) 50)) 3 (c.1 3 + 1)) = CW g a (dowC c fl ln) := by exact rfl
        rw [hw] at hP
        exact z_retw S hr hlk (by first | rfl | grind) hP hS dX4_dowser_60
      · exact absurd h_3 (by omega)
    · exact absurd h_2 (by omega)
