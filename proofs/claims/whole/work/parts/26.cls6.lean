section WALK_cls6
variable {p : Program} {l : Launch} {e : Env} {s : State} {m : MethodId} {args : Array Value} {below : List Frame} {meth : Method} {c : Code} {H : Heap} {locs : List Loc} {Q : State → Prop} {D : va_G} {cI cZ cQ : ClassId} {adK adV ad : Nat → Nat} {A : Nat → Prop} {ls : Array Slot}
noncomputable def f_X5_takeFrom_kt (u0 : XS) : Option (Int32 × XS) :=
  nmv (tRound (xT u0)) fun x1 =>
  nmv (sK u0 (uRound (xK u0) x1)) fun u2 =>
  nmv (tNear (xT u2)) fun x3 =>
  nmv (sK u2 (uNear (xK u2) x3)) fun u4 =>
  nmv (tZ (xT u4)) fun x5 =>
  nmv (sK u4 (uZ (xK u4) x5)) fun u6 =>
  nmv (tTools (xT u6)) fun x7 =>
  nmv (sK u6 (uTools (xK u6) x7)) fun u8 =>
  nmv (tThings (xT u8)) fun x9 =>
  nmv (sK u8 (uThings (xK u8) x9)) fun u10 =>
  nmv (tOrders (xT u10)) fun x11 =>
  nmv (sK u10 (uOrders (xK u10) x11)) fun u12 =>
  nmv (sK u12 (uDays (xK u12) (va_cpy (tDays (xT u12)) (tDays (xK u12)) (0 : Int32).toNatClampNeg (0 : Int32).toNatClampNeg (8 : Int32).toNatClampNeg))) fun u13 =>
  nmv (sK u13 (uKinds (xK u13) (va_cpy (tKinds (xT u13)) (tKinds (xK u13)) (0 : Int32).toNatClampNeg (0 : Int32).toNatClampNeg (8 : Int32).toNatClampNeg))) fun u14 =>
  nmv (sK u14 (uCounts (xK u14) (va_cpy (tCounts (xT u14)) (tCounts (xK u14)) (0 : Int32).toNatClampNeg (0 : Int32).toNatClampNeg (8 : Int32).toNatClampNeg))) fun u15 =>
  nmv (sK u15 (uNums (xK u15) (va_cpy (tNums (xT u15)) (tNums (xK u15)) (0 : Int32).toNatClampNeg (0 : Int32).toNatClampNeg (192 : Int32).toNatClampNeg))) fun u16 =>
  nmv (sK u16 (uOrd (xK u16) (va_cpy (tOrd (xT u16)) (tOrd (xK u16)) (0 : Int32).toNatClampNeg (0 : Int32).toNatClampNeg (15 : Int32).toNatClampNeg))) fun u17 =>
  nmv (sK u17 (uSpots (xK u17) (va_cpy (tSpots (xT u17)) (tSpots (xK u17)) (0 : Int32).toNatClampNeg (0 : Int32).toNatClampNeg (10 : Int32).toNatClampNeg))) fun u18 =>
  some ((0 : Int32), u18)
set_option maxRecDepth 100000 in
set_option maxHeartbeats 4000000 in
theorem c_X5_takeFrom_kt {u0 : XS} {r : Int32} {u' : XS} (h : f_X5_takeFrom_kt  u0 = some (r, u')) : MV l D cI cZ cQ adK adV A yX5_takeFrom cX5_takeFrom 2 { frames := 1, cells := 0, slots := 0, locals := 18 } [.ref (ad 8), .ref (ad 1)] (wX cI cZ cQ ad) u0 u' := by
  unfold f_X5_takeFrom_kt at h
  refine entV (by decide) (Nat.le_of_ble_eq_true rfl) (fun p e s m below meth c ls X K G hl => ?_)
  have hl : lv_has ls 2 [(0, .ref (ad 8)), (1, .ref (ad 1))] := hl
  obtain ⟨hx, hb, -⟩ := id X
  generalize hH : s.heap = H at G
  subst hH
  refine lv_aload_n hx hb dX5_takeFrom_0 rfl (lv_at hl 0 rfl) ?_
  refine lv_aload_n hx hb dX5_takeFrom_1 rfl (lv_at hl 1 rfl) ?_
  refine gX_1_0 X K G q_101 dX5_takeFrom_2 ?_
  refine lv_topi (fun x1 ex1 => ?_)
  have h := nm_at ex1 h
  refine pX_8_0 X K G q_101 dX5_takeFrom_5 (fun H locs G => ?_)
  obtain ⟨u2, eu2⟩ : ∃ z : XS, z = sK u0 (uRound (xK u0) x1) := ⟨_, rfl⟩
  have G : wg D A s.heap H locs (wX cI cZ cQ ad u2) := by rw [eu2]; exact G
  have h := nm_at eu2 h
  clear eu2
  refine lv_aload_n hx hb dX5_takeFrom_8 rfl (lv_at hl 0 rfl) ?_
  refine lv_aload_n hx hb dX5_takeFrom_9 rfl (lv_at hl 1 rfl) ?_
  refine gX_1_1 X K G q_106 dX5_takeFrom_10 ?_
  refine lv_topi (fun x3 ex3 => ?_)
  have h := nm_at ex3 h
  refine pX_8_1 X K G q_106 dX5_takeFrom_13 (fun H locs G => ?_)
  obtain ⟨u4, eu4⟩ : ∃ z : XS, z = sK u2 (uNear (xK u2) x3) := ⟨_, rfl⟩
  have G : wg D A s.heap H locs (wX cI cZ cQ ad u4) := by rw [eu4]; exact G
  have h := nm_at eu4 h
  clear eu4
  refine lv_aload_n hx hb dX5_takeFrom_16 rfl (lv_at hl 0 rfl) ?_
  refine lv_aload_n hx hb dX5_takeFrom_17 rfl (lv_at hl 1 rfl) ?_
  refine gX_1_2 X K G q_110 dX5_takeFrom_18 ?_
  refine lv_topi (fun x5 ex5 => ?_)
  have h := nm_at ex5 h
  refine pX_8_2 X K G q_110 dX5_takeFrom_21 (fun H locs G => ?_)
  obtain ⟨u6, eu6⟩ : ∃ z : XS, z = sK u4 (uZ (xK u4) x5) := ⟨_, rfl⟩
  have G : wg D A s.heap H locs (wX cI cZ cQ ad u6) := by rw [eu6]; exact G
  have h := nm_at eu6 h
  clear eu6
  refine lv_aload_n hx hb dX5_takeFrom_24 rfl (lv_at hl 0 rfl) ?_
  refine lv_aload_n hx hb dX5_takeFrom_25 rfl (lv_at hl 1 rfl) ?_
  refine gX_1_3 X K G q_112 dX5_takeFrom_26 ?_
  refine lv_topi (fun x7 ex7 => ?_)
  have h := nm_at ex7 h
  refine pX_8_3 X K G q_112 dX5_takeFrom_29 (fun H locs G => ?_)
  obtain ⟨u8, eu8⟩ : ∃ z : XS, z = sK u6 (uTools (xK u6) x7) := ⟨_, rfl⟩
  have G : wg D A s.heap H locs (wX cI cZ cQ ad u8) := by rw [eu8]; exact G
  have h := nm_at eu8 h
  clear eu8
  refine lv_aload_n hx hb dX5_takeFrom_32 rfl (lv_at hl 0 rfl) ?_
  refine lv_aload_n hx hb dX5_takeFrom_33 rfl (lv_at hl 1 rfl) ?_
  refine gX_1_4 X K G q_115 dX5_takeFrom_34 ?_
  refine lv_topi (fun x9 ex9 => ?_)
  have h := nm_at ex9 h
  refine pX_8_4 X K G q_115 dX5_takeFrom_37 (fun H locs G => ?_)
  obtain ⟨u10, eu10⟩ : ∃ z : XS, z = sK u8 (uThings (xK u8) x9) := ⟨_, rfl⟩
  have G : wg D A s.heap H locs (wX cI cZ cQ ad u10) := by rw [eu10]; exact G
  have h := nm_at eu10 h
  clear eu10
  refine lv_aload_n hx hb dX5_takeFrom_40 rfl (lv_at hl 0 rfl) ?_
  refine lv_aload_n hx hb dX5_takeFrom_41 rfl (lv_at hl 1 rfl) ?_
  refine gX_1_5 X K G q_118 dX5_takeFrom_42 ?_
  refine lv_topi (fun x11 ex11 => ?_)
  have h := nm_at ex11 h
  refine pX_8_5 X K G q_118 dX5_takeFrom_45 (fun H locs G => ?_)
  obtain ⟨u12, eu12⟩ : ∃ z : XS, z = sK u10 (uOrders (xK u10) x11) := ⟨_, rfl⟩
  have G : wg D A s.heap H locs (wX cI cZ cQ ad u12) := by rw [eu12]; exact G
  have h := nm_at eu12 h
  clear eu12
  refine lv_aload_n hx hb dX5_takeFrom_48 rfl (lv_at hl 1 rfl) ?_
  refine gX_1_6 X K G q_122 dX5_takeFrom_49 ?_
  refine lv_iconst (v := 0) hx hb dX5_takeFrom_52 (by decide) ?_
  refine lv_aload_n hx hb dX5_takeFrom_53 rfl (lv_at hl 0 rfl) ?_
  refine gX_8_6 X K G q_122 dX5_takeFrom_54 ?_
  refine lv_iconst (v := 0) hx hb dX5_takeFrom_57 (by decide) ?_
  refine lv_bipush (v := 8) hx hb dX5_takeFrom_58 (by decide) ?_
  refine gcpy X K G hl.1 q_359 2 9 rfl rfl cp_w (by decide) (Nat.le_of_ble_eq_true rfl) (Nat.le_of_ble_eq_true rfl) rfl dX5_takeFrom_60 (fun H locs G => ?_)
  obtain ⟨u13, eu13⟩ : ∃ z : XS, z = sK u12 (uDays (xK u12) (va_cpy (tDays (xT u12)) (tDays (xK u12)) (0 : Int32).toNatClampNeg (0 : Int32).toNatClampNeg (8 : Int32).toNatClampNeg)) := ⟨_, rfl⟩
  have G : wg D A s.heap H locs (wX cI cZ cQ ad u13) := by rw [eu13]; exact G
  have h := nm_at eu13 h
  clear eu13
  refine lv_aload_n hx hb dX5_takeFrom_63 rfl (lv_at hl 1 rfl) ?_
  refine gX_1_7 X K G q_125 dX5_takeFrom_64 ?_
  refine lv_iconst (v := 0) hx hb dX5_takeFrom_67 (by decide) ?_
  refine lv_aload_n hx hb dX5_takeFrom_68 rfl (lv_at hl 0 rfl) ?_
  refine gX_8_7 X K G q_125 dX5_takeFrom_69 ?_
  refine lv_iconst (v := 0) hx hb dX5_takeFrom_72 (by decide) ?_
  refine lv_bipush (v := 8) hx hb dX5_takeFrom_73 (by decide) ?_
  refine gcpy X K G hl.1 q_359 3 10 rfl rfl cp_w (by decide) (Nat.le_of_ble_eq_true rfl) (Nat.le_of_ble_eq_true rfl) rfl dX5_takeFrom_75 (fun H locs G => ?_)
  obtain ⟨u14, eu14⟩ : ∃ z : XS, z = sK u13 (uKinds (xK u13) (va_cpy (tKinds (xT u13)) (tKinds (xK u13)) (0 : Int32).toNatClampNeg (0 : Int32).toNatClampNeg (8 : Int32).toNatClampNeg)) := ⟨_, rfl⟩
  have G : wg D A s.heap H locs (wX cI cZ cQ ad u14) := by rw [eu14]; exact G
  have h := nm_at eu14 h
  clear eu14
  refine lv_aload_n hx hb dX5_takeFrom_78 rfl (lv_at hl 1 rfl) ?_
  refine gX_1_8 X K G q_128 dX5_takeFrom_79 ?_
  refine lv_iconst (v := 0) hx hb dX5_takeFrom_82 (by decide) ?_
  refine lv_aload_n hx hb dX5_takeFrom_83 rfl (lv_at hl 0 rfl) ?_
  refine gX_8_8 X K G q_128 dX5_takeFrom_84 ?_
  refine lv_iconst (v := 0) hx hb dX5_takeFrom_87 (by decide) ?_
  refine lv_bipush (v := 8) hx hb dX5_takeFrom_88 (by decide) ?_
  refine gcpy X K G hl.1 q_359 4 11 rfl rfl cp_w (by decide) (Nat.le_of_ble_eq_true rfl) (Nat.le_of_ble_eq_true rfl) rfl dX5_takeFrom_90 (fun H locs G => ?_)
  obtain ⟨u15, eu15⟩ : ∃ z : XS, z = sK u14 (uCounts (xK u14) (va_cpy (tCounts (xT u14)) (tCounts (xK u14)) (0 : Int32).toNatClampNeg (0 : Int32).toNatClampNeg (8 : Int32).toNatClampNeg)) := ⟨_, rfl⟩
  have G : wg D A s.heap H locs (wX cI cZ cQ ad u15) := by rw [eu15]; exact G
  have h := nm_at eu15 h
  clear eu15
  refine lv_aload_n hx hb dX5_takeFrom_93 rfl (lv_at hl 1 rfl) ?_
  refine gX_1_9 X K G q_132 dX5_takeFrom_94 ?_
  refine lv_iconst (v := 0) hx hb dX5_takeFrom_97 (by decide) ?_
  refine lv_aload_n hx hb dX5_takeFrom_98 rfl (lv_at hl 0 rfl) ?_
  refine gX_8_9 X K G q_132 dX5_takeFrom_99 ?_
  refine lv_iconst (v := 0) hx hb dX5_takeFrom_102 (by decide) ?_
  refine lv_sipush (v := 192) hx hb dX5_takeFrom_103 (by decide) ?_
  refine gcpy X K G hl.1 q_359 5 12 rfl rfl cp_w (by decide) (Nat.le_of_ble_eq_true rfl) (Nat.le_of_ble_eq_true rfl) rfl dX5_takeFrom_106 (fun H locs G => ?_)
  obtain ⟨u16, eu16⟩ : ∃ z : XS, z = sK u15 (uNums (xK u15) (va_cpy (tNums (xT u15)) (tNums (xK u15)) (0 : Int32).toNatClampNeg (0 : Int32).toNatClampNeg (192 : Int32).toNatClampNeg)) := ⟨_, rfl⟩
  have G : wg D A s.heap H locs (wX cI cZ cQ ad u16) := by rw [eu16]; exact G
  have h := nm_at eu16 h
  clear eu16
  refine lv_aload_n hx hb dX5_takeFrom_109 rfl (lv_at hl 1 rfl) ?_
  refine gX_1_10 X K G q_133 dX5_takeFrom_110 ?_
  refine lv_iconst (v := 0) hx hb dX5_takeFrom_113 (by decide) ?_
  refine lv_aload_n hx hb dX5_takeFrom_114 rfl (lv_at hl 0 rfl) ?_
  refine gX_8_10 X K G q_133 dX5_takeFrom_115 ?_
  refine lv_iconst (v := 0) hx hb dX5_takeFrom_118 (by decide) ?_
  refine lv_bipush (v := 15) hx hb dX5_takeFrom_119 (by decide) ?_
  refine gcpy X K G hl.1 q_359 6 13 rfl rfl cp_w (by decide) (Nat.le_of_ble_eq_true rfl) (Nat.le_of_ble_eq_true rfl) rfl dX5_takeFrom_121 (fun H locs G => ?_)
  obtain ⟨u17, eu17⟩ : ∃ z : XS, z = sK u16 (uOrd (xK u16) (va_cpy (tOrd (xT u16)) (tOrd (xK u16)) (0 : Int32).toNatClampNeg (0 : Int32).toNatClampNeg (15 : Int32).toNatClampNeg)) := ⟨_, rfl⟩
  have G : wg D A s.heap H locs (wX cI cZ cQ ad u17) := by rw [eu17]; exact G
  have h := nm_at eu17 h
  clear eu17
  refine lv_aload_n hx hb dX5_takeFrom_124 rfl (lv_at hl 1 rfl) ?_
  refine gX_1_11 X K G q_134 dX5_takeFrom_125 ?_
  refine lv_iconst (v := 0) hx hb dX5_takeFrom_128 (by decide) ?_
  refine lv_aload_n hx hb dX5_takeFrom_129 rfl (lv_at hl 0 rfl) ?_
  refine gX_8_11 X K G q_134 dX5_takeFrom_130 ?_
  refine lv_iconst (v := 0) hx hb dX5_takeFrom_133 (by decide) ?_
  refine lv_bipush (v := 10) hx hb dX5_takeFrom_134 (by decide) ?_
  refine gcpy X K G hl.1 q_359 7 14 rfl rfl cp_w (by decide) (Nat.le_of_ble_eq_true rfl) (Nat.le_of_ble_eq_true rfl) rfl dX5_takeFrom_136 (fun H locs G => ?_)
  obtain ⟨u18, eu18⟩ : ∃ z : XS, z = sK u17 (uSpots (xK u17) (va_cpy (tSpots (xT u17)) (tSpots (xK u17)) (0 : Int32).toNatClampNeg (0 : Int32).toNatClampNeg (10 : Int32).toNatClampNeg)) := ⟨_, rfl⟩
  have G : wg D A s.heap H locs (wX cI cZ cQ ad u18) := by rw [eu18]; exact G
  have h := nm_at eu18 h
  clear eu18
  obtain ⟨rfl, rfl⟩ := pair_at h
  exact reV X G dX5_takeFrom_139
noncomputable def f_X6_image (u0 : XS) : Option (Int32 × XS) :=
  bnd (f_X5_takeFrom_kt  u0) fun r1 u2 =>
  nmv (sI u2 (1 : Int32)) fun u3 =>
  some ((1 : Int32), u3)
set_option maxRecDepth 100000 in
set_option maxHeartbeats 4000000 in
theorem c_X6_image {u0 : XS} {r : Int32} {u' : XS} (h : f_X6_image  u0 = some (r, u')) : MI l D cI cZ cQ adK adV A yX6_image cX6_image 1 (some .int) { frames := 2, cells := 0, slots := 0, locals := 39 } [.ref (ad 0)] (wX cI cZ cQ ad) u0 r u' := by
  unfold f_X6_image at h
  refine entI (by decide) (Nat.le_of_ble_eq_true rfl) (fun p e s m below meth c ls X K G hl => ?_)
  have hl : lv_has ls 1 [(0, .ref (ad 0))] := hl
  obtain ⟨hx, hb, -⟩ := id X
  generalize hH : s.heap = H at G
  subst hH
  refine lv_aload_n hx hb dX6_image_0 rfl (lv_at hl 0 rfl) ?_
  refine gX_0_1 X K G q_301 dX6_image_1 ?_
  refine lv_aload_n hx hb dX6_image_4 rfl (lv_at hl 0 rfl) ?_
  refine gX_0_0 X K G q_300 dX6_image_5 ?_
  obtain ⟨r1, u2, er1, h⟩ := bnd_at h
  refine cvV (rest := []) X K G (c_X5_takeFrom_kt er1) q_355 my_X5_takeFrom ⟨rfl, rfl⟩ ⟨Nat.le_of_ble_eq_true rfl, Nat.le_of_ble_eq_true rfl⟩ ⟨Nat.zero_le _, Nat.zero_le _⟩ 8 5 rfl rfl rfl rfl hl.1 rfl (Nat.le_of_ble_eq_true rfl) dX6_image_8 (fun H locs G => ?_)
  clear er1
  refine lv_aload_n hx hb dX6_image_11 rfl (lv_at hl 0 rfl) ?_
  refine lv_iconst (v := 1) hx hb dX6_image_12 (by decide) ?_
  refine pX_0_9 X K G (Or.inr rfl) q_309 dX6_image_13 (fun H locs G => ?_)
  obtain ⟨u3, eu3⟩ : ∃ z : XS, z = sI u2 (1 : Int32) := ⟨_, rfl⟩
  have G : wg D A s.heap H locs (wX cI cZ cQ ad u3) := by rw [eu3]; exact G
  have h := nm_at eu3 h
  clear eu3
  refine lv_iconst (v := 1) hx hb dX6_image_16 (by decide) ?_
  obtain ⟨rfl, rfl⟩ := pair_at h
  exact reI X G dX6_image_17
noncomputable def f_X5_takeFrom_tk (u0 : XS) : Option (Int32 × XS) :=
  nmv (tRound (xK u0)) fun x1 =>
  nmv (sT u0 (uRound (xT u0) x1)) fun u2 =>
  nmv (tNear (xK u2)) fun x3 =>
  nmv (sT u2 (uNear (xT u2) x3)) fun u4 =>
  nmv (tZ (xK u4)) fun x5 =>
  nmv (sT u4 (uZ (xT u4) x5)) fun u6 =>
  nmv (tTools (xK u6)) fun x7 =>
  nmv (sT u6 (uTools (xT u6) x7)) fun u8 =>
  nmv (tThings (xK u8)) fun x9 =>
  nmv (sT u8 (uThings (xT u8) x9)) fun u10 =>
  nmv (tOrders (xK u10)) fun x11 =>
  nmv (sT u10 (uOrders (xT u10) x11)) fun u12 =>
  nmv (sT u12 (uDays (xT u12) (va_cpy (tDays (xK u12)) (tDays (xT u12)) (0 : Int32).toNatClampNeg (0 : Int32).toNatClampNeg (8 : Int32).toNatClampNeg))) fun u13 =>
  nmv (sT u13 (uKinds (xT u13) (va_cpy (tKinds (xK u13)) (tKinds (xT u13)) (0 : Int32).toNatClampNeg (0 : Int32).toNatClampNeg (8 : Int32).toNatClampNeg))) fun u14 =>
  nmv (sT u14 (uCounts (xT u14) (va_cpy (tCounts (xK u14)) (tCounts (xT u14)) (0 : Int32).toNatClampNeg (0 : Int32).toNatClampNeg (8 : Int32).toNatClampNeg))) fun u15 =>
  nmv (sT u15 (uNums (xT u15) (va_cpy (tNums (xK u15)) (tNums (xT u15)) (0 : Int32).toNatClampNeg (0 : Int32).toNatClampNeg (192 : Int32).toNatClampNeg))) fun u16 =>
  nmv (sT u16 (uOrd (xT u16) (va_cpy (tOrd (xK u16)) (tOrd (xT u16)) (0 : Int32).toNatClampNeg (0 : Int32).toNatClampNeg (15 : Int32).toNatClampNeg))) fun u17 =>
  nmv (sT u17 (uSpots (xT u17) (va_cpy (tSpots (xK u17)) (tSpots (xT u17)) (0 : Int32).toNatClampNeg (0 : Int32).toNatClampNeg (10 : Int32).toNatClampNeg))) fun u18 =>
  some ((0 : Int32), u18)
set_option maxRecDepth 100000 in
set_option maxHeartbeats 4000000 in
theorem c_X5_takeFrom_tk {u0 : XS} {r : Int32} {u' : XS} (h : f_X5_takeFrom_tk  u0 = some (r, u')) : MV l D cI cZ cQ adK adV A yX5_takeFrom cX5_takeFrom 2 { frames := 1, cells := 0, slots := 0, locals := 18 } [.ref (ad 1), .ref (ad 8)] (wX cI cZ cQ ad) u0 u' := by
  unfold f_X5_takeFrom_tk at h
  refine entV (by decide) (Nat.le_of_ble_eq_true rfl) (fun p e s m below meth c ls X K G hl => ?_)
  have hl : lv_has ls 2 [(0, .ref (ad 1)), (1, .ref (ad 8))] := hl
  obtain ⟨hx, hb, -⟩ := id X
  generalize hH : s.heap = H at G
  subst hH
  refine lv_aload_n hx hb dX5_takeFrom_0 rfl (lv_at hl 0 rfl) ?_
  refine lv_aload_n hx hb dX5_takeFrom_1 rfl (lv_at hl 1 rfl) ?_
  refine gX_8_0 X K G q_101 dX5_takeFrom_2 ?_
  refine lv_topi (fun x1 ex1 => ?_)
  have h := nm_at ex1 h
  refine pX_1_0 X K G q_101 dX5_takeFrom_5 (fun H locs G => ?_)
  obtain ⟨u2, eu2⟩ : ∃ z : XS, z = sT u0 (uRound (xT u0) x1) := ⟨_, rfl⟩
  have G : wg D A s.heap H locs (wX cI cZ cQ ad u2) := by rw [eu2]; exact G
  have h := nm_at eu2 h
  clear eu2
  refine lv_aload_n hx hb dX5_takeFrom_8 rfl (lv_at hl 0 rfl) ?_
  refine lv_aload_n hx hb dX5_takeFrom_9 rfl (lv_at hl 1 rfl) ?_
  refine gX_8_1 X K G q_106 dX5_takeFrom_10 ?_
  refine lv_topi (fun x3 ex3 => ?_)
  have h := nm_at ex3 h
  refine pX_1_1 X K G q_106 dX5_takeFrom_13 (fun H locs G => ?_)
  obtain ⟨u4, eu4⟩ : ∃ z : XS, z = sT u2 (uNear (xT u2) x3) := ⟨_, rfl⟩
  have G : wg D A s.heap H locs (wX cI cZ cQ ad u4) := by rw [eu4]; exact G
  have h := nm_at eu4 h
  clear eu4
  refine lv_aload_n hx hb dX5_takeFrom_16 rfl (lv_at hl 0 rfl) ?_
  refine lv_aload_n hx hb dX5_takeFrom_17 rfl (lv_at hl 1 rfl) ?_
  refine gX_8_2 X K G q_110 dX5_takeFrom_18 ?_
  refine lv_topi (fun x5 ex5 => ?_)
  have h := nm_at ex5 h
  refine pX_1_2 X K G q_110 dX5_takeFrom_21 (fun H locs G => ?_)
  obtain ⟨u6, eu6⟩ : ∃ z : XS, z = sT u4 (uZ (xT u4) x5) := ⟨_, rfl⟩
  have G : wg D A s.heap H locs (wX cI cZ cQ ad u6) := by rw [eu6]; exact G
  have h := nm_at eu6 h
  clear eu6
  refine lv_aload_n hx hb dX5_takeFrom_24 rfl (lv_at hl 0 rfl) ?_
  refine lv_aload_n hx hb dX5_takeFrom_25 rfl (lv_at hl 1 rfl) ?_
  refine gX_8_3 X K G q_112 dX5_takeFrom_26 ?_
  refine lv_topi (fun x7 ex7 => ?_)
  have h := nm_at ex7 h
  refine pX_1_3 X K G q_112 dX5_takeFrom_29 (fun H locs G => ?_)
  obtain ⟨u8, eu8⟩ : ∃ z : XS, z = sT u6 (uTools (xT u6) x7) := ⟨_, rfl⟩
  have G : wg D A s.heap H locs (wX cI cZ cQ ad u8) := by rw [eu8]; exact G
  have h := nm_at eu8 h
  clear eu8
  refine lv_aload_n hx hb dX5_takeFrom_32 rfl (lv_at hl 0 rfl) ?_
  refine lv_aload_n hx hb dX5_takeFrom_33 rfl (lv_at hl 1 rfl) ?_
  refine gX_8_4 X K G q_115 dX5_takeFrom_34 ?_
  refine lv_topi (fun x9 ex9 => ?_)
  have h := nm_at ex9 h
  refine pX_1_4 X K G q_115 dX5_takeFrom_37 (fun H locs G => ?_)
  obtain ⟨u10, eu10⟩ : ∃ z : XS, z = sT u8 (uThings (xT u8) x9) := ⟨_, rfl⟩
  have G : wg D A s.heap H locs (wX cI cZ cQ ad u10) := by rw [eu10]; exact G
  have h := nm_at eu10 h
  clear eu10
  refine lv_aload_n hx hb dX5_takeFrom_40 rfl (lv_at hl 0 rfl) ?_
  refine lv_aload_n hx hb dX5_takeFrom_41 rfl (lv_at hl 1 rfl) ?_
  refine gX_8_5 X K G q_118 dX5_takeFrom_42 ?_
  refine lv_topi (fun x11 ex11 => ?_)
  have h := nm_at ex11 h
  refine pX_1_5 X K G q_118 dX5_takeFrom_45 (fun H locs G => ?_)
  obtain ⟨u12, eu12⟩ : ∃ z : XS, z = sT u10 (uOrders (xT u10) x11) := ⟨_, rfl⟩
  have G : wg D A s.heap H locs (wX cI cZ cQ ad u12) := by rw [eu12]; exact G
  have h := nm_at eu12 h
  clear eu12
  refine lv_aload_n hx hb dX5_takeFrom_48 rfl (lv_at hl 1 rfl) ?_
  refine gX_8_6 X K G q_122 dX5_takeFrom_49 ?_
  refine lv_iconst (v := 0) hx hb dX5_takeFrom_52 (by decide) ?_
  refine lv_aload_n hx hb dX5_takeFrom_53 rfl (lv_at hl 0 rfl) ?_
  refine gX_1_6 X K G q_122 dX5_takeFrom_54 ?_
  refine lv_iconst (v := 0) hx hb dX5_takeFrom_57 (by decide) ?_
  refine lv_bipush (v := 8) hx hb dX5_takeFrom_58 (by decide) ?_
  refine gcpy X K G hl.1 q_359 9 2 rfl rfl cp_w (by decide) (Nat.le_of_ble_eq_true rfl) (Nat.le_of_ble_eq_true rfl) rfl dX5_takeFrom_60 (fun H locs G => ?_)
  obtain ⟨u13, eu13⟩ : ∃ z : XS, z = sT u12 (uDays (xT u12) (va_cpy (tDays (xK u12)) (tDays (xT u12)) (0 : Int32).toNatClampNeg (0 : Int32).toNatClampNeg (8 : Int32).toNatClampNeg)) := ⟨_, rfl⟩
  have G : wg D A s.heap H locs (wX cI cZ cQ ad u13) := by rw [eu13]; exact G
  have h := nm_at eu13 h
  clear eu13
  refine lv_aload_n hx hb dX5_takeFrom_63 rfl (lv_at hl 1 rfl) ?_
  refine gX_8_7 X K G q_125 dX5_takeFrom_64 ?_
  refine lv_iconst (v := 0) hx hb dX5_takeFrom_67 (by decide) ?_
  refine lv_aload_n hx hb dX5_takeFrom_68 rfl (lv_at hl 0 rfl) ?_
  refine gX_1_7 X K G q_125 dX5_takeFrom_69 ?_
  refine lv_iconst (v := 0) hx hb dX5_takeFrom_72 (by decide) ?_
  refine lv_bipush (v := 8) hx hb dX5_takeFrom_73 (by decide) ?_
  refine gcpy X K G hl.1 q_359 10 3 rfl rfl cp_w (by decide) (Nat.le_of_ble_eq_true rfl) (Nat.le_of_ble_eq_true rfl) rfl dX5_takeFrom_75 (fun H locs G => ?_)
  obtain ⟨u14, eu14⟩ : ∃ z : XS, z = sT u13 (uKinds (xT u13) (va_cpy (tKinds (xK u13)) (tKinds (xT u13)) (0 : Int32).toNatClampNeg (0 : Int32).toNatClampNeg (8 : Int32).toNatClampNeg)) := ⟨_, rfl⟩
  have G : wg D A s.heap H locs (wX cI cZ cQ ad u14) := by rw [eu14]; exact G
  have h := nm_at eu14 h
  clear eu14
  refine lv_aload_n hx hb dX5_takeFrom_78 rfl (lv_at hl 1 rfl) ?_
  refine gX_8_8 X K G q_128 dX5_takeFrom_79 ?_
  refine lv_iconst (v := 0) hx hb dX5_takeFrom_82 (by decide) ?_
  refine lv_aload_n hx hb dX5_takeFrom_83 rfl (lv_at hl 0 rfl) ?_
  refine gX_1_8 X K G q_128 dX5_takeFrom_84 ?_
  refine lv_iconst (v := 0) hx hb dX5_takeFrom_87 (by decide) ?_
  refine lv_bipush (v := 8) hx hb dX5_takeFrom_88 (by decide) ?_
  refine gcpy X K G hl.1 q_359 11 4 rfl rfl cp_w (by decide) (Nat.le_of_ble_eq_true rfl) (Nat.le_of_ble_eq_true rfl) rfl dX5_takeFrom_90 (fun H locs G => ?_)
  obtain ⟨u15, eu15⟩ : ∃ z : XS, z = sT u14 (uCounts (xT u14) (va_cpy (tCounts (xK u14)) (tCounts (xT u14)) (0 : Int32).toNatClampNeg (0 : Int32).toNatClampNeg (8 : Int32).toNatClampNeg)) := ⟨_, rfl⟩
  have G : wg D A s.heap H locs (wX cI cZ cQ ad u15) := by rw [eu15]; exact G
  have h := nm_at eu15 h
  clear eu15
  refine lv_aload_n hx hb dX5_takeFrom_93 rfl (lv_at hl 1 rfl) ?_
  refine gX_8_9 X K G q_132 dX5_takeFrom_94 ?_
  refine lv_iconst (v := 0) hx hb dX5_takeFrom_97 (by decide) ?_
  refine lv_aload_n hx hb dX5_takeFrom_98 rfl (lv_at hl 0 rfl) ?_
  refine gX_1_9 X K G q_132 dX5_takeFrom_99 ?_
  refine lv_iconst (v := 0) hx hb dX5_takeFrom_102 (by decide) ?_
  refine lv_sipush (v := 192) hx hb dX5_takeFrom_103 (by decide) ?_
  refine gcpy X K G hl.1 q_359 12 5 rfl rfl cp_w (by decide) (Nat.le_of_ble_eq_true rfl) (Nat.le_of_ble_eq_true rfl) rfl dX5_takeFrom_106 (fun H locs G => ?_)
  obtain ⟨u16, eu16⟩ : ∃ z : XS, z = sT u15 (uNums (xT u15) (va_cpy (tNums (xK u15)) (tNums (xT u15)) (0 : Int32).toNatClampNeg (0 : Int32).toNatClampNeg (192 : Int32).toNatClampNeg)) := ⟨_, rfl⟩
  have G : wg D A s.heap H locs (wX cI cZ cQ ad u16) := by rw [eu16]; exact G
  have h := nm_at eu16 h
  clear eu16
  refine lv_aload_n hx hb dX5_takeFrom_109 rfl (lv_at hl 1 rfl) ?_
  refine gX_8_10 X K G q_133 dX5_takeFrom_110 ?_
  refine lv_iconst (v := 0) hx hb dX5_takeFrom_113 (by decide) ?_
  refine lv_aload_n hx hb dX5_takeFrom_114 rfl (lv_at hl 0 rfl) ?_
  refine gX_1_10 X K G q_133 dX5_takeFrom_115 ?_
  refine lv_iconst (v := 0) hx hb dX5_takeFrom_118 (by decide) ?_
  refine lv_bipush (v := 15) hx hb dX5_takeFrom_119 (by decide) ?_
  refine gcpy X K G hl.1 q_359 13 6 rfl rfl cp_w (by decide) (Nat.le_of_ble_eq_true rfl) (Nat.le_of_ble_eq_true rfl) rfl dX5_takeFrom_121 (fun H locs G => ?_)
  obtain ⟨u17, eu17⟩ : ∃ z : XS, z = sT u16 (uOrd (xT u16) (va_cpy (tOrd (xK u16)) (tOrd (xT u16)) (0 : Int32).toNatClampNeg (0 : Int32).toNatClampNeg (15 : Int32).toNatClampNeg)) := ⟨_, rfl⟩
  have G : wg D A s.heap H locs (wX cI cZ cQ ad u17) := by rw [eu17]; exact G
  have h := nm_at eu17 h
  clear eu17
  refine lv_aload_n hx hb dX5_takeFrom_124 rfl (lv_at hl 1 rfl) ?_
  refine gX_8_11 X K G q_134 dX5_takeFrom_125 ?_
  refine lv_iconst (v := 0) hx hb dX5_takeFrom_128 (by decide) ?_
  refine lv_aload_n hx hb dX5_takeFrom_129 rfl (lv_at hl 0 rfl) ?_
  refine gX_1_11 X K G q_134 dX5_takeFrom_130 ?_
  refine lv_iconst (v := 0) hx hb dX5_takeFrom_133 (by decide) ?_
  refine lv_bipush (v := 10) hx hb dX5_takeFrom_134 (by decide) ?_
  refine gcpy X K G hl.1 q_359 14 7 rfl rfl cp_w (by decide) (Nat.le_of_ble_eq_true rfl) (Nat.le_of_ble_eq_true rfl) rfl dX5_takeFrom_136 (fun H locs G => ?_)
  obtain ⟨u18, eu18⟩ : ∃ z : XS, z = sT u17 (uSpots (xT u17) (va_cpy (tSpots (xK u17)) (tSpots (xT u17)) (0 : Int32).toNatClampNeg (0 : Int32).toNatClampNeg (10 : Int32).toNatClampNeg)) := ⟨_, rfl⟩
  have G : wg D A s.heap H locs (wX cI cZ cQ ad u18) := by rw [eu18]; exact G
  have h := nm_at eu18 h
  clear eu18
  obtain ⟨rfl, rfl⟩ := pair_at h
  exact reV X G dX5_takeFrom_139
noncomputable def f_X6_undo (u0 : XS) : Option (Int32 × XS) :=
  (if (xI u0) = 0 then
    bnd (f_X6_found (3 : Int32) u0) fun r4 u5 =>
    some (r4, u5)
  else
    bnd (f_X5_takeFrom_tk  u0) fun r2 u3 =>
    some (tThings (xT u3), u3))
set_option maxRecDepth 100000 in
set_option maxHeartbeats 4000000 in
theorem c_X6_undo {u0 : XS} {r : Int32} {u' : XS} (h : f_X6_undo  u0 = some (r, u')) : MI l D cI cZ cQ adK adV A yX6_undo cX6_undo 1 (some .int) { frames := 2, cells := 0, slots := 0, locals := 43 } [.ref (ad 0)] (wX cI cZ cQ ad) u0 r u' := by
  unfold f_X6_undo at h
  refine entI (by decide) (Nat.le_of_ble_eq_true rfl) (fun p e s m below meth c ls X K G hl => ?_)
  have hl : lv_has ls 1 [(0, .ref (ad 0))] := hl
  obtain ⟨hx, hb, -⟩ := id X
  generalize hH : s.heap = H at G
  subst hH
  refine lv_aload_n hx hb dX6_undo_0 rfl (lv_at hl 0 rfl) ?_
  refine gX_0_9 X K G q_309 dX6_undo_1 ?_
  refine lv_if_ne (tgt := 13) hx hb dX6_undo_4 (by decide) (fun c1 => ?_) (fun c1 => ?_)
  · have h := if_at c1 h
    refine lv_aload_n hx hb dX6_undo_13 rfl (lv_at hl 0 rfl) ?_
    refine gX_0_0 X K G q_300 dX6_undo_14 ?_
    refine lv_aload_n hx hb dX6_undo_17 rfl (lv_at hl 0 rfl) ?_
    refine gX_0_1 X K G q_301 dX6_undo_18 ?_
    obtain ⟨r2, u3, er2, h⟩ := bnd_at h
    refine cvV (rest := []) X K G (c_X5_takeFrom_tk er2) q_355 my_X5_takeFrom ⟨rfl, rfl⟩ ⟨Nat.le_of_ble_eq_true rfl, Nat.le_of_ble_eq_true rfl⟩ ⟨Nat.zero_le _, Nat.zero_le _⟩ 1 5 rfl rfl rfl rfl hl.1 rfl (Nat.le_of_ble_eq_true rfl) dX6_undo_21 (fun H locs G => ?_)
    clear er2
    refine lv_aload_n hx hb dX6_undo_24 rfl (lv_at hl 0 rfl) ?_
    refine gX_0_0 X K G q_300 dX6_undo_25 ?_
    refine gX_1_4 X K G q_117 dX6_undo_28 ?_
    obtain ⟨rfl, rfl⟩ := pair_at h
    exact reI X G dX6_undo_31
  · have h := it_at c1 h
    refine lv_aload_n hx hb dX6_undo_7 rfl (lv_at hl 0 rfl) ?_
    refine lv_iconst (v := 3) hx hb dX6_undo_8 (by decide) ?_
    obtain ⟨r4, u5, er4, h⟩ := bnd_at h
    refine cvI (rest := []) X K G (c_X6_found er4) q_338 my_X6_found ⟨rfl, rfl⟩ ⟨Nat.le_of_ble_eq_true rfl, Nat.le_of_ble_eq_true rfl⟩ ⟨Nat.zero_le _, Nat.zero_le _⟩ 0 6 rfl rfl rfl rfl hl.1 rfl (Nat.le_of_ble_eq_true rfl) dX6_undo_9 (fun H locs G => ?_)
    clear er4
    obtain ⟨rfl, rfl⟩ := pair_at h
    exact reI X G dX6_undo_12
noncomputable def f_X6_tear (u0 : XS) : Option (Int32 × XS) :=
  (if (xI u0) = 0 then
    nmv (sI u0 (0 : Int32)) fun u2 =>
    some ((0 : Int32), u2)
  else
    nmv (sI u0 (0 : Int32)) fun u3 =>
    some ((1 : Int32), u3))
set_option maxRecDepth 100000 in
set_option maxHeartbeats 4000000 in
theorem c_X6_tear {u0 : XS} {r : Int32} {u' : XS} (h : f_X6_tear  u0 = some (r, u')) : MI l D cI cZ cQ adK adV A yX6_tear cX6_tear 2 (some .int) { frames := 0, cells := 0, slots := 0, locals := 0 } [.ref (ad 0)] (wX cI cZ cQ ad) u0 r u' := by
  unfold f_X6_tear at h
  refine entI (by decide) (Nat.le_of_ble_eq_true rfl) (fun p e s m below meth c ls X K G hl => ?_)
  have hl : lv_has ls 2 [(0, .ref (ad 0))] := hl
  obtain ⟨hx, hb, -⟩ := id X
  generalize hH : s.heap = H at G
  subst hH
  refine lv_aload_n hx hb dX6_tear_0 rfl (lv_at hl 0 rfl) ?_
  refine gX_0_9 X K G q_309 dX6_tear_1 ?_
  refine lv_if_eq (tgt := 11) hx hb dX6_tear_4 (by decide) (fun c1 => ?_) (fun c1 => ?_)
  · have h := it_at c1 h
    refine lv_iconst (v := 0) hx hb dX6_tear_11 (by decide) ?_
    refine lv_istore_n (lv' := [(1, .int (0 : Int32)), (0, .ref (ad 0))]) hx hb dX6_tear_12 rfl hl (by decide) rfl (fun ls hl => ?_)
    refine lv_aload_n hx hb dX6_tear_13 rfl (lv_at hl 1 rfl) ?_
    refine lv_iconst (v := 0) hx hb dX6_tear_14 (by decide) ?_
    refine pX_0_9 X K G (Or.inl rfl) q_309 dX6_tear_15 (fun H locs G => ?_)
    obtain ⟨u2, eu2⟩ : ∃ z : XS, z = sI u0 (0 : Int32) := ⟨_, rfl⟩
    have G : wg D A s.heap H locs (wX cI cZ cQ ad u2) := by rw [eu2]; exact G
    have h := nm_at eu2 h
    clear eu2
    refine lv_iload_n hx hb dX6_tear_18 rfl (lv_at hl 0 rfl) ?_
    obtain ⟨rfl, rfl⟩ := pair_at h
    exact reI X G dX6_tear_19
  · have h := if_at c1 h
    refine lv_iconst (v := 1) hx hb dX6_tear_7 (by decide) ?_
    refine lv_goto (tgt := 12) hx hb dX6_tear_8 (by decide) ?_
    refine lv_istore_n (lv' := [(1, .int (1 : Int32)), (0, .ref (ad 0))]) hx hb dX6_tear_12 rfl hl (by decide) rfl (fun ls hl => ?_)
    refine lv_aload_n hx hb dX6_tear_13 rfl (lv_at hl 1 rfl) ?_
    refine lv_iconst (v := 0) hx hb dX6_tear_14 (by decide) ?_
    refine pX_0_9 X K G (Or.inl rfl) q_309 dX6_tear_15 (fun H locs G => ?_)
    obtain ⟨u3, eu3⟩ : ∃ z : XS, z = sI u0 (0 : Int32) := ⟨_, rfl⟩
    have G : wg D A s.heap H locs (wX cI cZ cQ ad u3) := by rw [eu3]; exact G
    have h := nm_at eu3 h
    clear eu3
    refine lv_iload_n hx hb dX6_tear_18 rfl (lv_at hl 0 rfl) ?_
    obtain ⟨rfl, rfl⟩ := pair_at h
    exact reI X G dX6_tear_19
noncomputable def f_X5_heldSpots_L4_4 (v1 : Int32) (v2 : Int32) (u0 : XS) : Option ((Int32 × Int32 × XS) ⊕ ((Int32 × XS) ⊕ (Int32 × XS))) :=
  (if (10 : Int32) ≤ v2 then
    some (.inr (.inr (v1, u0)))
  else
    if v2 < 0 ∨ 10 ≤ v2.toNatClampNeg then none else
    (if ((tSpots (xT u0)) v2.toNatClampNeg) < 0 then
      nmv (v2 + (1 : Int32)) fun x4 =>
      some (.inl (v1, x4, u0))
    else
      nmv (v1 + (1 : Int32)) fun x5 =>
      nmv (v2 + (1 : Int32)) fun x6 =>
      some (.inl (x5, x6, u0))))
set_option maxRecDepth 100000 in
set_option maxHeartbeats 4000000 in
theorem b_X5_heldSpots_L4_4 (X : cx p s m args meth c cX5_heldSpots 3 RX5 (some .int)) (K : kx D cI cZ cQ adK adV A s s.heap) {v1 : Int32} {v2 : Int32} {u0 : XS} (G : wg D A s.heap H locs (wX cI cZ cQ ad u0)) (hl : lv_has ls 3 [(0, .ref (ad 1)), (1, .int v1), (2, .int v2)]) {q : ((Int32 × Int32 × XS) ⊕ ((Int32 × XS) ⊕ (Int32 × XS)))} (h : f_X5_heldSpots_L4_4 v1 v2 u0 = some q) (hB : ∀ (v1 : Int32) (v2 : Int32) (u : XS), q = .inl (v1, v2, u) → ∀ (H : Heap) (locs : List Loc) (ls : Array Slot), wg D A s.heap H locs (wX cI cZ cQ ad u) → lv_has ls 3 [(0, .ref (ad 1)), (1, .int v1), (2, .int v2)] → W p l e { frames := 0, cells := 0, slots := 0, locals := 0 } s m args below meth c H locs 0 0 Q (F0 m 4 ls [])) (hX : ∀ (v1 : Int32) (u : XS), q = .inr (.inr (v1, u)) → ∀ (H : Heap) (locs : List Loc) (ls : Array Slot), wg D A s.heap H locs (wX cI cZ cQ ad u) → lv_has ls 3 [(1, .int v1)] → W p l e { frames := 0, cells := 0, slots := 0, locals := 0 } s m args below meth c H locs 0 0 Q (F0 m 28 ls [])) (hR : ∀ (r : Int32) (u : XS), q = .inr (.inl (r, u)) → Q = (qI D A (wX cI cZ cQ ad) below args s r u)) : W p l e { frames := 0, cells := 0, slots := 0, locals := 0 } s m args below meth c H locs 0 0 Q (F0 m 4 ls []) := by
  unfold f_X5_heldSpots_L4_4 at h
  obtain ⟨hx, hb, -⟩ := id X
  refine lv_iload_n hx hb dX5_heldSpots_4 rfl (lv_at hl 2 rfl) ?_
  refine lv_bipush (v := 10) hx hb dX5_heldSpots_5 (by decide) ?_
  refine lv_icmp_ge (tgt := 28) hx hb dX5_heldSpots_7 (by decide) (fun c1 => ?_) (fun c1 => ?_)
  · have h := it_at c1 h
    exact hX _ _ (Option.some.inj h).symm _ _ _ G (lv_sub hl [1] rfl)
  · have h := if_at c1 h
    refine lv_aload_n hx hb dX5_heldSpots_10 rfl (lv_at hl 0 rfl) ?_
    refine gX_1_11 X K G q_134 dX5_heldSpots_11 ?_
    refine lv_iload_n hx hb dX5_heldSpots_14 rfl (lv_at hl 2 rfl) ?_
    obtain ⟨g2, h⟩ := ck_at h
    refine lX_7 X K G g2 dX5_heldSpots_15 ?_
    refine lv_if_lt (tgt := 22) hx hb dX5_heldSpots_16 (by decide) (fun c3 => ?_) (fun c3 => ?_)
    · have h := it_at c3 h
      obtain ⟨x4, ex4⟩ : ∃ z : Int32, z = v2 + (1 : Int32) := ⟨_, rfl⟩
      have h := nm_at ex4 h
      refine lv_iinc (v := x4) (lv' := [(2, .int x4), (0, .ref (ad 1)), (1, .int v1)]) hx hb dX5_heldSpots_22 hl (k := 2) rfl (by rw [ex4]; rfl) (by decide) rfl (fun ls hl => ?_)
      refine lv_goto (tgt := 4) hx hb dX5_heldSpots_25 (by decide) ?_
      exact hB _ _ _ (Option.some.inj h).symm _ _ _ G (lv_sub hl [1, 2, 0] rfl)
    · have h := if_at c3 h
      obtain ⟨x5, ex5⟩ : ∃ z : Int32, z = v1 + (1 : Int32) := ⟨_, rfl⟩
      have h := nm_at ex5 h
      refine lv_iinc (v := x5) (lv' := [(1, .int x5), (0, .ref (ad 1)), (2, .int v2)]) hx hb dX5_heldSpots_19 hl (k := 1) rfl (by rw [ex5]; rfl) (by decide) rfl (fun ls hl => ?_)
      obtain ⟨x6, ex6⟩ : ∃ z : Int32, z = v2 + (1 : Int32) := ⟨_, rfl⟩
      have h := nm_at ex6 h
      refine lv_iinc (v := x6) (lv' := [(2, .int x6), (1, .int x5), (0, .ref (ad 1))]) hx hb dX5_heldSpots_22 hl (k := 2) rfl (by rw [ex6]; rfl) (by decide) rfl (fun ls hl => ?_)
      refine lv_goto (tgt := 4) hx hb dX5_heldSpots_25 (by decide) ?_
      exact hB _ _ _ (Option.some.inj h).symm _ _ _ G (lv_sub hl [2, 1, 0] rfl)
noncomputable def f_X5_heldSpots_L4_4s (q : Int32 × Int32 × XS) : Option ((Int32 × Int32 × XS) ⊕ ((Int32 × XS) ⊕ (Int32 × XS))) := f_X5_heldSpots_L4_4 q.1 q.2.1 q.2.2
set_option maxRecDepth 100000 in
set_option maxHeartbeats 4000000 in
theorem w_X5_heldSpots_L4_4 (X : cx p s m args meth c cX5_heldSpots 3 RX5 (some .int)) (K : kx D cI cZ cQ adK adV A s s.heap) {e0 : (Int32 × XS) ⊕ (Int32 × XS)} : ∀ (n : Nat) (v1 : Int32) (v2 : Int32) (u : XS) {H : Heap} {locs : List Loc} {ls : Array Slot}, wh f_X5_heldSpots_L4_4s n (v1, v2, u) = some e0 → wg D A s.heap H locs (wX cI cZ cQ ad u) → lv_has ls 3 [(0, .ref (ad 1)), (1, .int v1), (2, .int v2)] → (∀ (v1 : Int32) (u : XS), e0 = .inr (v1, u) → ∀ (H : Heap) (locs : List Loc) (ls : Array Slot), wg D A s.heap H locs (wX cI cZ cQ ad u) → lv_has ls 3 [(1, .int v1)] → W p l e { frames := 0, cells := 0, slots := 0, locals := 0 } s m args below meth c H locs 0 0 Q (F0 m 28 ls [])) → (∀ (r : Int32) (u : XS), e0 = .inl (r, u) → Q = (qI D A (wX cI cZ cQ ad) below args s r u)) → W p l e { frames := 0, cells := 0, slots := 0, locals := 0 } s m args below meth c H locs 0 0 Q (F0 m 4 ls []) := by
  intro n
  induction n with
  | zero => intro v1 v2 u H locs ls h; cases h
  | succ n ih =>
    intro v1 v2 u H locs ls h G hl hX hR
    obtain ⟨q, h1, h2, h3⟩ := wh_at h
    exact b_X5_heldSpots_L4_4 X K G hl (show f_X5_heldSpots_L4_4 v1 v2 u = some q from h1) (fun b0 b1 b2 ee H locs ls G hl => ih b0 b1 b2 (h2 _ ee) G hl hX hR) (fun z0 z1 ee => hX z0 z1 (h3 _ ee).symm) (fun r u ee => hR r u (h3 _ ee).symm)
noncomputable def f_X5_heldSpots (u0 : XS) : Option (Int32 × XS) :=
  bne (wl f_X5_heldSpots_L4_4s ((0 : Int32), (0 : Int32), u0)) (fun a => some a) fun b =>
    nmv b.1 fun y4 =>
    nmv b.2 fun u3 =>
    some (y4, u3)
set_option maxRecDepth 100000 in
set_option maxHeartbeats 4000000 in
theorem c_X5_heldSpots {u0 : XS} {r : Int32} {u' : XS} (h : f_X5_heldSpots  u0 = some (r, u')) : MI l D cI cZ cQ adK adV A yX5_heldSpots cX5_heldSpots 3 (some .int) { frames := 0, cells := 0, slots := 0, locals := 0 } [.ref (ad 1)] (wX cI cZ cQ ad) u0 r u' := by
  unfold f_X5_heldSpots at h
  refine entI (by decide) (Nat.le_of_ble_eq_true rfl) (fun p e s m below meth c ls X K G hl => ?_)
  have hl : lv_has ls 3 [(0, .ref (ad 1))] := hl
  obtain ⟨hx, hb, -⟩ := id X
  generalize hH : s.heap = H at G
  subst hH
  refine lv_iconst (v := 0) hx hb dX5_heldSpots_0 (by decide) ?_
  refine lv_istore_n (lv' := [(1, .int (0 : Int32)), (0, .ref (ad 1))]) hx hb dX5_heldSpots_1 rfl hl (by decide) rfl (fun ls hl => ?_)
  refine lv_iconst (v := 0) hx hb dX5_heldSpots_2 (by decide) ?_
  refine lv_istore_n (lv' := [(2, .int (0 : Int32)), (1, .int (0 : Int32)), (0, .ref (ad 1))]) hx hb dX5_heldSpots_3 rfl hl (by decide) rfl (fun ls hl => ?_)
  obtain ⟨q2, hq2, ha, hb1⟩ := bne_at h
  obtain ⟨n1, hn1⟩ := wl_iff.mp hq2
  refine w_X5_heldSpots_L4_4 X K n1 _ _ _ hn1 G (lv_sub hl [2, 1, 0] rfl) (fun y4 u3 ee H locs ls G hl => ?_) (fun r u1 ee => by obtain ⟨rfl, rfl⟩ := pair_at (ha _ ee); rfl)
  have h := hb1 _ ee
  clear ee ha hb1 hq2 hn1
  have h := nm_at (x := y4) rfl h
  have h := nm_at (x := u3) rfl h
  refine lv_iload_n hx hb dX5_heldSpots_28 rfl (lv_at hl 0 rfl) ?_
  obtain ⟨rfl, rfl⟩ := pair_at h
  exact reI X G dX5_heldSpots_29
noncomputable def f_X6_count (a1 : Int32) (u0 : XS) : Option (Int32 × XS) :=
  (if a1 = (0 : Int32) then
    some (tRound (xT u0), u0)
  else
  (if a1 = (1 : Int32) then
    some (tNear (xT u0), u0)
  else
  (if a1 = (2 : Int32) then
    some (tTools (xT u0), u0)
  else
  (if a1 = (3 : Int32) then
    some (tThings (xT u0), u0)
  else
  (if a1 = (4 : Int32) then
    some (tOrders (xT u0), u0)
  else
  (if a1 = (5 : Int32) then
    some ((xP u0).2, u0)
  else
  (if a1 = (6 : Int32) then
    some (tZ (xT u0), u0)
  else
  (if a1 = (7 : Int32) then
    bnd (f_X5_heldSpots  u0) fun r9 u10 =>
    some (r9, u10)
  else
  bnd (f_X6_found (0 : Int32) u0) fun r11 u12 =>
  some (r11, u12)))))))))
set_option maxRecDepth 100000 in
set_option maxHeartbeats 4000000 in
theorem c_X6_count {a1 : Int32} {u0 : XS} {r : Int32} {u' : XS} (h : f_X6_count a1 u0 = some (r, u')) : MI l D cI cZ cQ adK adV A yX6_count cX6_count 2 (some .int) { frames := 2, cells := 0, slots := 0, locals := 43 } [.ref (ad 0), .int a1] (wX cI cZ cQ ad) u0 r u' := by
  unfold f_X6_count at h
  refine entI (by decide) (Nat.le_of_ble_eq_true rfl) (fun p e s m below meth c ls X K G hl => ?_)
  have hl : lv_has ls 2 [(0, .ref (ad 0)), (1, .int a1)] := hl
  obtain ⟨hx, hb, -⟩ := id X
  generalize hH : s.heap = H at G
  subst hH
  refine lv_iload_n hx hb dX6_count_0 rfl (lv_at hl 1 rfl) ?_
  by_cases c1 : a1 = (0 : Int32)
  · have h := it_at c1 h
    refine tswI X (0 : Int32) c1 dX6_count_1 (off := 47) (tgt := 48) (by decide) ?_
    refine lv_aload_n hx hb dX6_count_48 rfl (lv_at hl 0 rfl) ?_
    refine gX_0_0 X K G q_300 dX6_count_49 ?_
    refine gX_1_0 X K G q_105 dX6_count_52 ?_
    obtain ⟨rfl, rfl⟩ := pair_at h
    exact reI X G dX6_count_55
  have h := if_at c1 h
  by_cases c2 : a1 = (1 : Int32)
  · have h := it_at c2 h
    refine tswI X (1 : Int32) c2 dX6_count_1 (off := 55) (tgt := 56) (by decide) ?_
    refine lv_aload_n hx hb dX6_count_56 rfl (lv_at hl 0 rfl) ?_
    refine gX_0_0 X K G q_300 dX6_count_57 ?_
    refine gX_1_1 X K G q_109 dX6_count_60 ?_
    obtain ⟨rfl, rfl⟩ := pair_at h
    exact reI X G dX6_count_63
  have h := if_at c2 h
  by_cases c3 : a1 = (2 : Int32)
  · have h := it_at c3 h
    refine tswI X (2 : Int32) c3 dX6_count_1 (off := 63) (tgt := 64) (by decide) ?_
    refine lv_aload_n hx hb dX6_count_64 rfl (lv_at hl 0 rfl) ?_
    refine gX_0_0 X K G q_300 dX6_count_65 ?_
    refine gX_1_3 X K G q_114 dX6_count_68 ?_
    obtain ⟨rfl, rfl⟩ := pair_at h
    exact reI X G dX6_count_71
  have h := if_at c3 h
  by_cases c4 : a1 = (3 : Int32)
  · have h := it_at c4 h
    refine tswI X (3 : Int32) c4 dX6_count_1 (off := 71) (tgt := 72) (by decide) ?_
    refine lv_aload_n hx hb dX6_count_72 rfl (lv_at hl 0 rfl) ?_
    refine gX_0_0 X K G q_300 dX6_count_73 ?_
    refine gX_1_4 X K G q_117 dX6_count_76 ?_
    obtain ⟨rfl, rfl⟩ := pair_at h
    exact reI X G dX6_count_79
  have h := if_at c4 h
  by_cases c5 : a1 = (4 : Int32)
  · have h := it_at c5 h
    refine tswI X (4 : Int32) c5 dX6_count_1 (off := 79) (tgt := 80) (by decide) ?_
    refine lv_aload_n hx hb dX6_count_80 rfl (lv_at hl 0 rfl) ?_
    refine gX_0_0 X K G q_300 dX6_count_81 ?_
    refine gX_1_5 X K G q_121 dX6_count_84 ?_
    obtain ⟨rfl, rfl⟩ := pair_at h
    exact reI X G dX6_count_87
  have h := if_at c5 h
  by_cases c6 : a1 = (5 : Int32)
  · have h := it_at c6 h
    refine tswI X (5 : Int32) c6 dX6_count_1 (off := 87) (tgt := 88) (by decide) ?_
    refine lv_aload_n hx hb dX6_count_88 rfl (lv_at hl 0 rfl) ?_
    refine gX_0_3 X K G q_303 dX6_count_89 ?_
    refine gX_22_1 X K G q_171 dX6_count_92 ?_
    obtain ⟨rfl, rfl⟩ := pair_at h
    exact reI X G dX6_count_95
  have h := if_at c6 h
  by_cases c7 : a1 = (6 : Int32)
  · have h := it_at c7 h
    refine tswI X (6 : Int32) c7 dX6_count_1 (off := 95) (tgt := 96) (by decide) ?_
    refine lv_aload_n hx hb dX6_count_96 rfl (lv_at hl 0 rfl) ?_
    refine gX_0_0 X K G q_300 dX6_count_97 ?_
    refine gX_1_2 X K G q_111 dX6_count_100 ?_
    obtain ⟨rfl, rfl⟩ := pair_at h
    exact reI X G dX6_count_103
  have h := if_at c7 h
  by_cases c8 : a1 = (7 : Int32)
  · have h := it_at c8 h
    refine tswI X (7 : Int32) c8 dX6_count_1 (off := 103) (tgt := 104) (by decide) ?_
    refine lv_aload_n hx hb dX6_count_104 rfl (lv_at hl 0 rfl) ?_
    refine gX_0_0 X K G q_300 dX6_count_105 ?_
    obtain ⟨r9, u10, er9, h⟩ := bnd_at h
    refine cvI (rest := []) X K G (c_X5_heldSpots er9) q_892 my_X5_heldSpots ⟨rfl, rfl⟩ ⟨Nat.le_of_ble_eq_true rfl, Nat.le_of_ble_eq_true rfl⟩ ⟨Nat.zero_le _, Nat.zero_le _⟩ 1 5 rfl rfl rfl rfl hl.1 rfl (Nat.le_of_ble_eq_true rfl) dX6_count_108 (fun H locs G => ?_)
    clear er9
    obtain ⟨rfl, rfl⟩ := pair_at h
    exact reI X G dX6_count_111
  have h := if_at c8 h
  have tc1 := lv_neT (a := 0) c1 rfl
  have tc2 := lv_neT (a := 1) c2 rfl
  have tc3 := lv_neT (a := 2) c3 rfl
  have tc4 := lv_neT (a := 3) c4 rfl
  have tc5 := lv_neT (a := 4) c5 rfl
  have tc6 := lv_neT (a := 5) c6 rfl
  have tc7 := lv_neT (a := 6) c7 rfl
  have tc8 := lv_neT (a := 7) c8 rfl
  refine tswO X (by omega) dX6_count_1 (tgt := 112) (by decide) ?_
  refine lv_aload_n hx hb dX6_count_112 rfl (lv_at hl 0 rfl) ?_
  refine lv_iconst (v := 0) hx hb dX6_count_113 (by decide) ?_
  obtain ⟨r11, u12, er11, h⟩ := bnd_at h
  refine cvI (rest := []) X K G (c_X6_found er11) q_338 my_X6_found ⟨rfl, rfl⟩ ⟨Nat.le_of_ble_eq_true rfl, Nat.le_of_ble_eq_true rfl⟩ ⟨Nat.zero_le _, Nat.zero_le _⟩ 0 6 rfl rfl rfl rfl hl.1 rfl (Nat.le_of_ble_eq_true rfl) dX6_count_114 (fun H locs G => ?_)
  clear er11
  obtain ⟨rfl, rfl⟩ := pair_at h
  exact reI X G dX6_count_117
noncomputable def f_X6_status_L31_31 (v2 : Int32) (v3 : Int32) (u0 : XS) : Option ((Int32 × Int32 × XS) ⊕ ((Int32 × XS) ⊕ (Int32 × XS))) :=
  (if (7 : Int32) ≤ v3 then
    some (.inr (.inr (v2, u0)))
  else
    if v3 < 0 ∨ 7 ≤ v3.toNatClampNeg then none else
    nmv (v2 + ((xF u0) v3.toNatClampNeg)) fun x3 =>
    nmv (v3 + (1 : Int32)) fun x4 =>
    some (.inl (x3, x4, u0)))
set_option maxRecDepth 100000 in
set_option maxHeartbeats 4000000 in
theorem b_X6_status_L31_31 (X : cx p s m args meth c cX6_status 4 RX6 (some .int)) (K : kx D cI cZ cQ adK adV A s s.heap) {v2 : Int32} {v3 : Int32} {u0 : XS} (G : wg D A s.heap H locs (wX cI cZ cQ ad u0)) (hl : lv_has ls 4 [(0, .ref (ad 0)), (2, .int v2), (3, .int v3)]) {q : ((Int32 × Int32 × XS) ⊕ ((Int32 × XS) ⊕ (Int32 × XS)))} (h : f_X6_status_L31_31 v2 v3 u0 = some q) (hB : ∀ (v2 : Int32) (v3 : Int32) (u : XS), q = .inl (v2, v3, u) → ∀ (H : Heap) (locs : List Loc) (ls : Array Slot), wg D A s.heap H locs (wX cI cZ cQ ad u) → lv_has ls 4 [(0, .ref (ad 0)), (2, .int v2), (3, .int v3)] → W p l e { frames := 2, cells := 0, slots := 0, locals := 43 } s m args below meth c H locs 0 0 Q (F0 m 31 ls [])) (hX : ∀ (v2 : Int32) (u : XS), q = .inr (.inr (v2, u)) → ∀ (H : Heap) (locs : List Loc) (ls : Array Slot), wg D A s.heap H locs (wX cI cZ cQ ad u) → lv_has ls 4 [(2, .int v2)] → W p l e { frames := 2, cells := 0, slots := 0, locals := 43 } s m args below meth c H locs 0 0 Q (F0 m 52 ls [])) (hR : ∀ (r : Int32) (u : XS), q = .inr (.inl (r, u)) → Q = (qI D A (wX cI cZ cQ ad) below args s r u)) : W p l e { frames := 2, cells := 0, slots := 0, locals := 43 } s m args below meth c H locs 0 0 Q (F0 m 31 ls []) := by
  unfold f_X6_status_L31_31 at h
  obtain ⟨hx, hb, -⟩ := id X
  refine lv_iload_n hx hb dX6_status_31 rfl (lv_at hl 2 rfl) ?_
  refine lv_bipush (v := 7) hx hb dX6_status_32 (by decide) ?_
  refine lv_icmp_ge (tgt := 52) hx hb dX6_status_34 (by decide) (fun c1 => ?_) (fun c1 => ?_)
  · have h := it_at c1 h
    exact hX _ _ (Option.some.inj h).symm _ _ _ G (lv_sub hl [1] rfl)
  · have h := if_at c1 h
    refine lv_iload_n hx hb dX6_status_37 rfl (lv_at hl 1 rfl) ?_
    refine lv_aload_n hx hb dX6_status_38 rfl (lv_at hl 0 rfl) ?_
    refine gX_0_8 X K G q_308 dX6_status_39 ?_
    refine lv_iload_n hx hb dX6_status_42 rfl (lv_at hl 2 rfl) ?_
    obtain ⟨g2, h⟩ := ck_at h
    refine lX_43 X K G g2 dX6_status_43 ?_
    refine lv_iadd hx hb dX6_status_44 ?_
    refine lv_topi (fun x3 ex3 => ?_)
    have h := nm_at ex3 h
    refine lv_istore_n (lv' := [(2, .int x3), (0, .ref (ad 0)), (3, .int v3)]) hx hb dX6_status_45 rfl hl (by decide) rfl (fun ls hl => ?_)
    obtain ⟨x4, ex4⟩ : ∃ z : Int32, z = v3 + (1 : Int32) := ⟨_, rfl⟩
    have h := nm_at ex4 h
    refine lv_iinc (v := x4) (lv' := [(3, .int x4), (2, .int x3), (0, .ref (ad 0))]) hx hb dX6_status_46 hl (k := 2) rfl (by rw [ex4]; rfl) (by decide) rfl (fun ls hl => ?_)
    refine lv_goto (tgt := 31) hx hb dX6_status_49 (by decide) ?_
    exact hB _ _ _ (Option.some.inj h).symm _ _ _ G (lv_sub hl [2, 1, 0] rfl)
noncomputable def f_X6_status_L31_31s (q : Int32 × Int32 × XS) : Option ((Int32 × Int32 × XS) ⊕ ((Int32 × XS) ⊕ (Int32 × XS))) := f_X6_status_L31_31 q.1 q.2.1 q.2.2
set_option maxRecDepth 100000 in
set_option maxHeartbeats 4000000 in
theorem w_X6_status_L31_31 (X : cx p s m args meth c cX6_status 4 RX6 (some .int)) (K : kx D cI cZ cQ adK adV A s s.heap) {e0 : (Int32 × XS) ⊕ (Int32 × XS)} : ∀ (n : Nat) (v2 : Int32) (v3 : Int32) (u : XS) {H : Heap} {locs : List Loc} {ls : Array Slot}, wh f_X6_status_L31_31s n (v2, v3, u) = some e0 → wg D A s.heap H locs (wX cI cZ cQ ad u) → lv_has ls 4 [(0, .ref (ad 0)), (2, .int v2), (3, .int v3)] → (∀ (v2 : Int32) (u : XS), e0 = .inr (v2, u) → ∀ (H : Heap) (locs : List Loc) (ls : Array Slot), wg D A s.heap H locs (wX cI cZ cQ ad u) → lv_has ls 4 [(2, .int v2)] → W p l e { frames := 2, cells := 0, slots := 0, locals := 43 } s m args below meth c H locs 0 0 Q (F0 m 52 ls [])) → (∀ (r : Int32) (u : XS), e0 = .inl (r, u) → Q = (qI D A (wX cI cZ cQ ad) below args s r u)) → W p l e { frames := 2, cells := 0, slots := 0, locals := 43 } s m args below meth c H locs 0 0 Q (F0 m 31 ls []) := by
  intro n
  induction n with
  | zero => intro v2 v3 u H locs ls h; cases h
  | succ n ih =>
    intro v2 v3 u H locs ls h G hl hX hR
    obtain ⟨q, h1, h2, h3⟩ := wh_at h
    exact b_X6_status_L31_31 X K G hl (show f_X6_status_L31_31 v2 v3 u = some q from h1) (fun b0 b1 b2 ee H locs ls G hl => ih b0 b1 b2 (h2 _ ee) G hl hX hR) (fun z0 z1 ee => hX z0 z1 (h3 _ ee).symm) (fun r u ee => hR r u (h3 _ ee).symm)
noncomputable def f_X6_status (a1 : Int32) (u0 : XS) : Option (Int32 × XS) :=
  bnd (f_X6_within a1 (-1 : Int32) (6 : Int32) u0) fun r1 u2 =>
  (if r1 = 0 then
    bnd (f_X6_found (0 : Int32) u2) fun r10 u11 =>
    some (r10, u11)
  else
    (if a1 < 0 then
      bne (wl f_X6_status_L31_31s ((0 : Int32), (0 : Int32), u2)) (fun a => some a) fun b =>
        nmv b.1 fun y8 =>
        nmv b.2 fun u7 =>
        some (y8, u7)
    else
      if a1 < 0 ∨ 7 ≤ a1.toNatClampNeg then none else
      some ((xF u2) a1.toNatClampNeg, u2)))
set_option maxRecDepth 100000 in
set_option maxHeartbeats 4000000 in
theorem c_X6_status {a1 : Int32} {u0 : XS} {r : Int32} {u' : XS} (h : f_X6_status a1 u0 = some (r, u')) : MI l D cI cZ cQ adK adV A yX6_status cX6_status 4 (some .int) { frames := 2, cells := 0, slots := 0, locals := 43 } [.ref (ad 0), .int a1] (wX cI cZ cQ ad) u0 r u' := by
  unfold f_X6_status at h
  refine entI (by decide) (Nat.le_of_ble_eq_true rfl) (fun p e s m below meth c ls X K G hl => ?_)
  have hl : lv_has ls 4 [(0, .ref (ad 0)), (1, .int a1)] := hl
  obtain ⟨hx, hb, -⟩ := id X
  generalize hH : s.heap = H at G
  subst hH
  refine lv_iload_n hx hb dX6_status_0 rfl (lv_at hl 1 rfl) ?_
  refine lv_iconst (v := -1) hx hb dX6_status_1 (by decide) ?_
  refine lv_bipush (v := 6) hx hb dX6_status_2 (by decide) ?_
  obtain ⟨r1, u2, er1, h⟩ := bnd_at h
  refine csI (rest := []) X K G (c_X6_within er1) q_335 my_X6_within ⟨rfl, rfl⟩ ⟨Nat.le_of_ble_eq_true rfl, Nat.le_of_ble_eq_true rfl⟩ ⟨Nat.zero_le _, Nat.zero_le _⟩ rfl hl.1 rfl (Nat.le_of_ble_eq_true rfl) dX6_status_4 (fun H locs G => ?_)
  clear er1
  refine lv_if_ne (tgt := 16) hx hb dX6_status_7 (by decide) (fun c3 => ?_) (fun c3 => ?_)
  · have h := if_at c3 h
    refine lv_iload_n hx hb dX6_status_16 rfl (lv_at hl 1 rfl) ?_
    refine lv_if_lt (tgt := 27) hx hb dX6_status_17 (by decide) (fun c4 => ?_) (fun c4 => ?_)
    · have h := it_at c4 h
      refine lv_iconst (v := 0) hx hb dX6_status_27 (by decide) ?_
      refine lv_istore_n (lv' := [(2, .int (0 : Int32)), (0, .ref (ad 0)), (1, .int a1)]) hx hb dX6_status_28 rfl hl (by decide) rfl (fun ls hl => ?_)
      refine lv_iconst (v := 0) hx hb dX6_status_29 (by decide) ?_
      refine lv_istore_n (lv' := [(3, .int (0 : Int32)), (2, .int (0 : Int32)), (0, .ref (ad 0)), (1, .int a1)]) hx hb dX6_status_30 rfl hl (by decide) rfl (fun ls hl => ?_)
      obtain ⟨q6, hq6, ha, hb1⟩ := bne_at h
      obtain ⟨n5, hn5⟩ := wl_iff.mp hq6
      refine w_X6_status_L31_31 X K n5 _ _ _ hn5 G (lv_sub hl [2, 1, 0] rfl) (fun y8 u7 ee H locs ls G hl => ?_) (fun r u1 ee => by obtain ⟨rfl, rfl⟩ := pair_at (ha _ ee); rfl)
      have h := hb1 _ ee
      clear ee ha hb1 hq6 hn5
      have h := nm_at (x := y8) rfl h
      have h := nm_at (x := u7) rfl h
      refine lv_iload_n hx hb dX6_status_52 rfl (lv_at hl 0 rfl) ?_
      obtain ⟨rfl, rfl⟩ := pair_at h
      exact reI X G dX6_status_53
    · have h := if_at c4 h
      refine lv_aload_n hx hb dX6_status_20 rfl (lv_at hl 0 rfl) ?_
      refine gX_0_8 X K G q_308 dX6_status_21 ?_
      refine lv_iload_n hx hb dX6_status_24 rfl (lv_at hl 1 rfl) ?_
      obtain ⟨g9, h⟩ := ck_at h
      refine lX_43 X K G g9 dX6_status_25 ?_
      obtain ⟨rfl, rfl⟩ := pair_at h
      exact reI X G dX6_status_26
  · have h := it_at c3 h
    refine lv_aload_n hx hb dX6_status_10 rfl (lv_at hl 0 rfl) ?_
    refine lv_iconst (v := 0) hx hb dX6_status_11 (by decide) ?_
    obtain ⟨r10, u11, er10, h⟩ := bnd_at h
    refine cvI (rest := []) X K G (c_X6_found er10) q_338 my_X6_found ⟨rfl, rfl⟩ ⟨Nat.le_of_ble_eq_true rfl, Nat.le_of_ble_eq_true rfl⟩ ⟨Nat.zero_le _, Nat.zero_le _⟩ 0 6 rfl rfl rfl rfl hl.1 rfl (Nat.le_of_ble_eq_true rfl) dX6_status_12 (fun H locs G => ?_)
    clear er10
    obtain ⟨rfl, rfl⟩ := pair_at h
    exact reI X G dX6_status_15
end WALK_cls6
