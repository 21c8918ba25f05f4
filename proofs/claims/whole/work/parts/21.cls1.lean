section WALK_cls1
variable {p : Program} {l : Launch} {e : Env} {s : State} {m : MethodId} {args : Array Value} {below : List Frame} {meth : Method} {c : Code} {H : Heap} {locs : List Loc} {Q : State → Prop} {D : va_G} {cI cZ cQ : ClassId} {adK adV ad : Nat → Nat} {A : Nat → Prop} {ls : Array Slot}
noncomputable def f_X5_addOrder (a1 : Int32) (a2 : Int32) (a3 : Int32) (u0 : XS) : Option (Int32 × XS) :=
  (if (tOrders (xT u0)) < (5 : Int32) then
    nmv ((tOrders (xT u0)) * (3 : Int32)) fun x2 =>
    nmv (x2 + (0 : Int32)) fun x3 =>
    if x3 < 0 ∨ 15 ≤ x3.toNatClampNeg then none else
    nmv (sT u0 (uOrd (xT u0) (upd (tOrd (xT u0)) x3.toNatClampNeg a1))) fun u5 =>
    nmv (x2 + (1 : Int32)) fun x6 =>
    if x6 < 0 ∨ 15 ≤ x6.toNatClampNeg then none else
    nmv (sT u5 (uOrd (xT u5) (upd (tOrd (xT u5)) x6.toNatClampNeg a2))) fun u8 =>
    nmv (x2 + (2 : Int32)) fun x9 =>
    if x9 < 0 ∨ 15 ≤ x9.toNatClampNeg then none else
    nmv (sT u8 (uOrd (xT u8) (upd (tOrd (xT u8)) x9.toNatClampNeg a3))) fun u11 =>
    nmv ((tOrders (xT u11)) + (1 : Int32)) fun x12 =>
    nmv (sT u11 (uOrders (xT u11) x12)) fun u13 =>
    some ((tOrders (xT u13)) - (1 : Int32), u13)
  else
    some ((-1 : Int32), u0))
set_option maxRecDepth 100000 in
set_option maxHeartbeats 4000000 in
theorem c_X5_addOrder {a1 : Int32} {a2 : Int32} {a3 : Int32} {u0 : XS} {r : Int32} {u' : XS} (h : f_X5_addOrder a1 a2 a3 u0 = some (r, u')) : MI l D cI cZ cQ adK adV A yX5_addOrder cX5_addOrder 5 (some .int) { frames := 0, cells := 0, slots := 0, locals := 0 } [.ref (ad 1), .int a1, .int a2, .int a3] (wX cI cZ cQ ad) u0 r u' := by
  unfold f_X5_addOrder at h
  refine entI (by decide) (Nat.le_of_ble_eq_true rfl) (fun p e s m below meth c ls X K G hl => ?_)
  have hl : lv_has ls 5 [(0, .ref (ad 1)), (1, .int a1), (2, .int a2), (3, .int a3)] := hl
  obtain ⟨hx, hb, -⟩ := id X
  generalize hH : s.heap = H at G
  subst hH
  refine lv_aload_n hx hb dX5_addOrder_0 rfl (lv_at hl 0 rfl) ?_
  refine gX_1_5 X K G q_118 dX5_addOrder_1 ?_
  refine lv_iconst (v := 5) hx hb dX5_addOrder_4 (by decide) ?_
  refine lv_icmp_lt (tgt := 10) hx hb dX5_addOrder_5 (by decide) (fun c1 => ?_) (fun c1 => ?_)
  · have h := it_at c1 h
    refine lv_aload_n hx hb dX5_addOrder_10 rfl (lv_at hl 0 rfl) ?_
    refine gX_1_5 X K G q_118 dX5_addOrder_11 ?_
    refine lv_iconst (v := 3) hx hb dX5_addOrder_14 (by decide) ?_
    refine lv_imul hx hb dX5_addOrder_15 ?_
    refine lv_topi (fun x2 ex2 => ?_)
    have h := nm_at ex2 h
    refine lv_istore (lv' := [(4, .int x2), (0, .ref (ad 1)), (1, .int a1), (2, .int a2), (3, .int a3)]) hx hb dX5_addOrder_16 hl (by decide) rfl (fun ls hl => ?_)
    refine lv_aload_n hx hb dX5_addOrder_18 rfl (lv_at hl 1 rfl) ?_
    refine gX_1_10 X K G q_133 dX5_addOrder_19 ?_
    refine lv_iload hx hb dX5_addOrder_22 (lv_at hl 0 rfl) ?_
    refine lv_iconst (v := 0) hx hb dX5_addOrder_24 (by decide) ?_
    refine lv_iadd hx hb dX5_addOrder_25 ?_
    refine lv_iload_n hx hb dX5_addOrder_26 rfl (lv_at hl 2 rfl) ?_
    refine nm2 (fun x3 ex3 => ?_)
    have h := nm_at ex3 h
    obtain ⟨g4, h⟩ := ck_at h
    refine aX_6 X K G g4 dX5_addOrder_27 (fun H locs G => ?_)
    obtain ⟨u5, eu5⟩ : ∃ z : XS, z = sT u0 (uOrd (xT u0) (upd (tOrd (xT u0)) x3.toNatClampNeg a1)) := ⟨_, rfl⟩
    have G : wg D A s.heap H locs (wX cI cZ cQ ad u5) := by rw [eu5]; exact G
    have h := nm_at eu5 h
    clear eu5
    refine lv_aload_n hx hb dX5_addOrder_28 rfl (lv_at hl 1 rfl) ?_
    refine gX_1_10 X K G q_133 dX5_addOrder_29 ?_
    refine lv_iload hx hb dX5_addOrder_32 (lv_at hl 0 rfl) ?_
    refine lv_iconst (v := 1) hx hb dX5_addOrder_34 (by decide) ?_
    refine lv_iadd hx hb dX5_addOrder_35 ?_
    refine lv_iload_n hx hb dX5_addOrder_36 rfl (lv_at hl 3 rfl) ?_
    refine nm2 (fun x6 ex6 => ?_)
    have h := nm_at ex6 h
    obtain ⟨g7, h⟩ := ck_at h
    refine aX_6 X K G g7 dX5_addOrder_37 (fun H locs G => ?_)
    obtain ⟨u8, eu8⟩ : ∃ z : XS, z = sT u5 (uOrd (xT u5) (upd (tOrd (xT u5)) x6.toNatClampNeg a2)) := ⟨_, rfl⟩
    have G : wg D A s.heap H locs (wX cI cZ cQ ad u8) := by rw [eu8]; exact G
    have h := nm_at eu8 h
    clear eu8
    refine lv_aload_n hx hb dX5_addOrder_38 rfl (lv_at hl 1 rfl) ?_
    refine gX_1_10 X K G q_133 dX5_addOrder_39 ?_
    refine lv_iload hx hb dX5_addOrder_42 (lv_at hl 0 rfl) ?_
    refine lv_iconst (v := 2) hx hb dX5_addOrder_44 (by decide) ?_
    refine lv_iadd hx hb dX5_addOrder_45 ?_
    refine lv_iload_n hx hb dX5_addOrder_46 rfl (lv_at hl 4 rfl) ?_
    refine nm2 (fun x9 ex9 => ?_)
    have h := nm_at ex9 h
    obtain ⟨g10, h⟩ := ck_at h
    refine aX_6 X K G g10 dX5_addOrder_47 (fun H locs G => ?_)
    obtain ⟨u11, eu11⟩ : ∃ z : XS, z = sT u8 (uOrd (xT u8) (upd (tOrd (xT u8)) x9.toNatClampNeg a3)) := ⟨_, rfl⟩
    have G : wg D A s.heap H locs (wX cI cZ cQ ad u11) := by rw [eu11]; exact G
    have h := nm_at eu11 h
    clear eu11
    refine lv_aload_n hx hb dX5_addOrder_48 rfl (lv_at hl 1 rfl) ?_
    refine lv_dup hx hb dX5_addOrder_49 rfl ?_
    refine gX_1_5 X K G q_118 dX5_addOrder_50 ?_
    refine lv_iconst (v := 1) hx hb dX5_addOrder_53 (by decide) ?_
    refine lv_iadd hx hb dX5_addOrder_54 ?_
    refine lv_topi (fun x12 ex12 => ?_)
    have h := nm_at ex12 h
    refine pX_1_5 X K G q_118 dX5_addOrder_55 (fun H locs G => ?_)
    obtain ⟨u13, eu13⟩ : ∃ z : XS, z = sT u11 (uOrders (xT u11) x12) := ⟨_, rfl⟩
    have G : wg D A s.heap H locs (wX cI cZ cQ ad u13) := by rw [eu13]; exact G
    have h := nm_at eu13 h
    clear eu13
    refine lv_aload_n hx hb dX5_addOrder_58 rfl (lv_at hl 1 rfl) ?_
    refine gX_1_5 X K G q_118 dX5_addOrder_59 ?_
    refine lv_iconst (v := 1) hx hb dX5_addOrder_62 (by decide) ?_
    refine lv_isub hx hb dX5_addOrder_63 ?_
    obtain ⟨rfl, rfl⟩ := pair_at h
    exact reI X G dX5_addOrder_64
  · have h := if_at c1 h
    refine lv_iconst (v := -1) hx hb dX5_addOrder_8 (by decide) ?_
    obtain ⟨rfl, rfl⟩ := pair_at h
    exact reI X G dX5_addOrder_9
noncomputable def f_X4_readOrder (u0 : XS) : Option (Int32 × XS) :=
  (if (tOrders (xT u0)) < (5 : Int32) then
    bnd (f_X4_goOn  u0) fun r2 u3 =>
    bnd (f_X4_isNumber (0 : Int32) ((tThings (xT u3)) - (1 : Int32)) u3) fun r4 u5 =>
    (if r4 = 0 then
      some ((0 : Int32), u5)
    else
      nmv (r_value (xR u5)) fun x7 =>
      bnd (f_X4_goOn  u5) fun r8 u9 =>
      bnd (f_X4_readBehindWord (5) (0 : Int32) (399 : Int32) u9) fun r10 u11 =>
      (if r10 = 0 then
        some ((0 : Int32), u11)
      else
        nmv (r_value (xR u11)) fun x13 =>
        bnd (f_X4_goOn  u11) fun r14 u15 =>
        bnd (f_X4_readBehindWord (6) (1 : Int32) (99 : Int32) u15) fun r16 u17 =>
        (if r16 = 0 then
          some ((0 : Int32), u17)
        else
          bnd (f_X5_addOrder x7 x13 (r_value (xR u17)) u17) fun r19 u20 =>
          bnd (f_X4_goOn  u20) fun r21 u22 =>
          some ((1 : Int32), u22))))
  else
    some ((0 : Int32), u0))
set_option maxRecDepth 100000 in
set_option maxHeartbeats 4000000 in
theorem c_X4_readOrder {u0 : XS} {r : Int32} {u' : XS} (h : f_X4_readOrder  u0 = some (r, u')) : MI l D cI cZ cQ adK adV A yX4_readOrder cX4_readOrder 3 (some .boolean) { frames := 6, cells := 0, slots := 0, locals := 130 } [.ref (ad 33)] (wX cI cZ cQ ad) u0 r u' := by
  unfold f_X4_readOrder at h
  refine entI (by decide) (Nat.le_of_ble_eq_true rfl) (fun p e s m below meth c ls X K G hl => ?_)
  have hl : lv_has ls 3 [(0, .ref (ad 33))] := hl
  obtain ⟨hx, hb, -⟩ := id X
  generalize hH : s.heap = H at G
  subst hH
  refine lv_aload_n hx hb dX4_readOrder_0 rfl (lv_at hl 0 rfl) ?_
  refine gX_33_1 X K G q_260 dX4_readOrder_1 ?_
  refine gX_1_5 X K G q_120 dX4_readOrder_4 ?_
  refine lv_iconst (v := 5) hx hb dX4_readOrder_7 (by decide) ?_
  refine lv_icmp_lt (tgt := 13) hx hb dX4_readOrder_8 (by decide) (fun c1 => ?_) (fun c1 => ?_)
  · have h := it_at c1 h
    refine lv_aload_n hx hb dX4_readOrder_13 rfl (lv_at hl 0 rfl) ?_
    obtain ⟨r2, u3, er2, h⟩ := bnd_at h
    refine cvV (rest := []) X K G (c_X4_goOn er2) q_366 my_X4_goOn ⟨rfl, rfl⟩ ⟨Nat.le_of_ble_eq_true rfl, Nat.le_of_ble_eq_true rfl⟩ ⟨Nat.zero_le _, Nat.zero_le _⟩ 33 4 rfl rfl rfl rfl hl.1 rfl (Nat.le_of_ble_eq_true rfl) dX4_readOrder_14 (fun H locs G => ?_)
    clear er2
    refine lv_aload_n hx hb dX4_readOrder_17 rfl (lv_at hl 0 rfl) ?_
    refine lv_iconst (v := 0) hx hb dX4_readOrder_18 (by decide) ?_
    refine lv_aload_n hx hb dX4_readOrder_19 rfl (lv_at hl 0 rfl) ?_
    refine gX_33_1 X K G q_260 dX4_readOrder_20 ?_
    refine gX_1_4 X K G q_116 dX4_readOrder_23 ?_
    refine lv_iconst (v := 1) hx hb dX4_readOrder_26 (by decide) ?_
    refine lv_isub hx hb dX4_readOrder_27 ?_
    obtain ⟨r4, u5, er4, h⟩ := bnd_at h
    refine cvI (rest := []) X K G (c_X4_isNumber er4) q_439 my_X4_isNumber ⟨rfl, rfl⟩ ⟨Nat.le_of_ble_eq_true rfl, Nat.le_of_ble_eq_true rfl⟩ ⟨Nat.zero_le _, Nat.zero_le _⟩ 33 4 rfl rfl rfl rfl hl.1 rfl (Nat.le_of_ble_eq_true rfl) dX4_readOrder_28 (fun H locs G => ?_)
    clear er4
    refine lv_if_ne (tgt := 36) hx hb dX4_readOrder_31 (by decide) (fun c6 => ?_) (fun c6 => ?_)
    · have h := if_at c6 h
      refine lv_aload_n hx hb dX4_readOrder_36 rfl (lv_at hl 0 rfl) ?_
      refine gX_33_5 X K G q_264 dX4_readOrder_37 ?_
      refine lv_topi (fun x7 ex7 => ?_)
      have h := nm_at ex7 h
      refine lv_istore_n (lv' := [(1, .int x7), (0, .ref (ad 33))]) hx hb dX4_readOrder_40 rfl hl (by decide) rfl (fun ls hl => ?_)
      refine lv_aload_n hx hb dX4_readOrder_41 rfl (lv_at hl 1 rfl) ?_
      obtain ⟨r8, u9, er8, h⟩ := bnd_at h
      refine cvV (rest := []) X K G (c_X4_goOn er8) q_366 my_X4_goOn ⟨rfl, rfl⟩ ⟨Nat.le_of_ble_eq_true rfl, Nat.le_of_ble_eq_true rfl⟩ ⟨Nat.zero_le _, Nat.zero_le _⟩ 33 4 rfl rfl rfl rfl hl.1 rfl (Nat.le_of_ble_eq_true rfl) dX4_readOrder_42 (fun H locs G => ?_)
      clear er8
      refine lv_aload_n hx hb dX4_readOrder_45 rfl (lv_at hl 1 rfl) ?_
      refine va_ldcS (q := adK 5) hx hb X.2.2.2.1 (K.2.2.2.1 5 (by decide)).1 dX4_readOrder_46 ?_
      refine lv_iconst (v := 0) hx hb dX4_readOrder_48 (by decide) ?_
      refine lv_sipush (v := 399) hx hb dX4_readOrder_49 (by decide) ?_
      obtain ⟨r10, u11, er10, h⟩ := bnd_at h
      refine cvI (rest := []) X K G (c_X4_readBehindWord er10) q_464 my_X4_readBehindWord ⟨rfl, rfl⟩ ⟨Nat.le_of_ble_eq_true rfl, Nat.le_of_ble_eq_true rfl⟩ ⟨Nat.zero_le _, Nat.zero_le _⟩ 33 4 rfl rfl rfl rfl hl.1 rfl (Nat.le_of_ble_eq_true rfl) dX4_readOrder_52 (fun H locs G => ?_)
      clear er10
      refine lv_if_ne (tgt := 60) hx hb dX4_readOrder_55 (by decide) (fun c12 => ?_) (fun c12 => ?_)
      · have h := if_at c12 h
        refine lv_aload_n hx hb dX4_readOrder_60 rfl (lv_at hl 1 rfl) ?_
        refine gX_33_5 X K G q_264 dX4_readOrder_61 ?_
        refine lv_topi (fun x13 ex13 => ?_)
        have h := nm_at ex13 h
        refine lv_istore_n (lv' := [(2, .int x13), (1, .int x7), (0, .ref (ad 33))]) hx hb dX4_readOrder_64 rfl hl (by decide) rfl (fun ls hl => ?_)
        refine lv_aload_n hx hb dX4_readOrder_65 rfl (lv_at hl 2 rfl) ?_
        obtain ⟨r14, u15, er14, h⟩ := bnd_at h
        refine cvV (rest := []) X K G (c_X4_goOn er14) q_366 my_X4_goOn ⟨rfl, rfl⟩ ⟨Nat.le_of_ble_eq_true rfl, Nat.le_of_ble_eq_true rfl⟩ ⟨Nat.zero_le _, Nat.zero_le _⟩ 33 4 rfl rfl rfl rfl hl.1 rfl (Nat.le_of_ble_eq_true rfl) dX4_readOrder_66 (fun H locs G => ?_)
        clear er14
        refine lv_aload_n hx hb dX4_readOrder_69 rfl (lv_at hl 2 rfl) ?_
        refine va_ldcS (q := adK 6) hx hb X.2.2.2.1 (K.2.2.2.1 6 (by decide)).1 dX4_readOrder_70 ?_
        refine lv_iconst (v := 1) hx hb dX4_readOrder_72 (by decide) ?_
        refine lv_bipush (v := 99) hx hb dX4_readOrder_73 (by decide) ?_
        obtain ⟨r16, u17, er16, h⟩ := bnd_at h
        refine cvI (rest := []) X K G (c_X4_readBehindWord er16) q_464 my_X4_readBehindWord ⟨rfl, rfl⟩ ⟨Nat.le_of_ble_eq_true rfl, Nat.le_of_ble_eq_true rfl⟩ ⟨Nat.zero_le _, Nat.zero_le _⟩ 33 4 rfl rfl rfl rfl hl.1 rfl (Nat.le_of_ble_eq_true rfl) dX4_readOrder_75 (fun H locs G => ?_)
        clear er16
        refine lv_if_ne (tgt := 83) hx hb dX4_readOrder_78 (by decide) (fun c18 => ?_) (fun c18 => ?_)
        · have h := if_at c18 h
          refine lv_aload_n hx hb dX4_readOrder_83 rfl (lv_at hl 2 rfl) ?_
          refine gX_33_1 X K G q_260 dX4_readOrder_84 ?_
          refine lv_iload_n hx hb dX4_readOrder_87 rfl (lv_at hl 1 rfl) ?_
          refine lv_iload_n hx hb dX4_readOrder_88 rfl (lv_at hl 0 rfl) ?_
          refine lv_aload_n hx hb dX4_readOrder_89 rfl (lv_at hl 2 rfl) ?_
          refine gX_33_5 X K G q_264 dX4_readOrder_90 ?_
          obtain ⟨r19, u20, er19, h⟩ := bnd_at h
          refine cvI (rest := []) X K G (c_X5_addOrder er19) q_469 my_X5_addOrder ⟨rfl, rfl⟩ ⟨Nat.le_of_ble_eq_true rfl, Nat.le_of_ble_eq_true rfl⟩ ⟨Nat.zero_le _, Nat.zero_le _⟩ 1 5 rfl rfl rfl rfl hl.1 rfl (Nat.le_of_ble_eq_true rfl) dX4_readOrder_93 (fun H locs G => ?_)
          clear er19
          refine lv_pop hx hb dX4_readOrder_96 rfl ?_
          refine lv_aload_n hx hb dX4_readOrder_97 rfl (lv_at hl 2 rfl) ?_
          obtain ⟨r21, u22, er21, h⟩ := bnd_at h
          refine cvV (rest := []) X K G (c_X4_goOn er21) q_366 my_X4_goOn ⟨rfl, rfl⟩ ⟨Nat.le_of_ble_eq_true rfl, Nat.le_of_ble_eq_true rfl⟩ ⟨Nat.zero_le _, Nat.zero_le _⟩ 33 4 rfl rfl rfl rfl hl.1 rfl (Nat.le_of_ble_eq_true rfl) dX4_readOrder_98 (fun H locs G => ?_)
          clear er21
          refine lv_iconst (v := 1) hx hb dX4_readOrder_101 (by decide) ?_
          obtain ⟨rfl, rfl⟩ := pair_at h
          exact reZ X G (Or.inr rfl) dX4_readOrder_102
        · have h := it_at c18 h
          refine lv_iconst (v := 0) hx hb dX4_readOrder_81 (by decide) ?_
          obtain ⟨rfl, rfl⟩ := pair_at h
          exact reZ X G (Or.inl rfl) dX4_readOrder_82
      · have h := it_at c12 h
        refine lv_iconst (v := 0) hx hb dX4_readOrder_58 (by decide) ?_
        obtain ⟨rfl, rfl⟩ := pair_at h
        exact reZ X G (Or.inl rfl) dX4_readOrder_59
    · have h := it_at c6 h
      refine lv_iconst (v := 0) hx hb dX4_readOrder_34 (by decide) ?_
      obtain ⟨rfl, rfl⟩ := pair_at h
      exact reZ X G (Or.inl rfl) dX4_readOrder_35
  · have h := if_at c1 h
    refine lv_iconst (v := 0) hx hb dX4_readOrder_11 (by decide) ?_
    obtain ⟨rfl, rfl⟩ := pair_at h
    exact reZ X G (Or.inl rfl) dX4_readOrder_12
noncomputable def f_X5_addTool (a1 : Int32) (u0 : XS) : Option (Int32 × XS) :=
  (if (tTools (xT u0)) < (8 : Int32) then
    nmv (tTools (xT u0)) fun x2 =>
    if x2 < 0 ∨ 8 ≤ x2.toNatClampNeg then none else
    nmv (sT u0 (uDays (xT u0) (upd (tDays (xT u0)) x2.toNatClampNeg a1))) fun u4 =>
    nmv ((tTools (xT u4)) + (1 : Int32)) fun x5 =>
    nmv (sT u4 (uTools (xT u4) x5)) fun u6 =>
    some ((tTools (xT u6)) - (1 : Int32), u6)
  else
    some ((-1 : Int32), u0))
set_option maxRecDepth 100000 in
set_option maxHeartbeats 4000000 in
theorem c_X5_addTool {a1 : Int32} {u0 : XS} {r : Int32} {u' : XS} (h : f_X5_addTool a1 u0 = some (r, u')) : MI l D cI cZ cQ adK adV A yX5_addTool cX5_addTool 2 (some .int) { frames := 0, cells := 0, slots := 0, locals := 0 } [.ref (ad 1), .int a1] (wX cI cZ cQ ad) u0 r u' := by
  unfold f_X5_addTool at h
  refine entI (by decide) (Nat.le_of_ble_eq_true rfl) (fun p e s m below meth c ls X K G hl => ?_)
  have hl : lv_has ls 2 [(0, .ref (ad 1)), (1, .int a1)] := hl
  obtain ⟨hx, hb, -⟩ := id X
  generalize hH : s.heap = H at G
  subst hH
  refine lv_aload_n hx hb dX5_addTool_0 rfl (lv_at hl 0 rfl) ?_
  refine gX_1_3 X K G q_112 dX5_addTool_1 ?_
  refine lv_bipush (v := 8) hx hb dX5_addTool_4 (by decide) ?_
  refine lv_icmp_lt (tgt := 11) hx hb dX5_addTool_6 (by decide) (fun c1 => ?_) (fun c1 => ?_)
  · have h := it_at c1 h
    refine lv_aload_n hx hb dX5_addTool_11 rfl (lv_at hl 0 rfl) ?_
    refine gX_1_6 X K G q_122 dX5_addTool_12 ?_
    refine lv_aload_n hx hb dX5_addTool_15 rfl (lv_at hl 0 rfl) ?_
    refine gX_1_3 X K G q_112 dX5_addTool_16 ?_
    refine lv_iload_n hx hb dX5_addTool_19 rfl (lv_at hl 1 rfl) ?_
    refine nm2 (fun x2 ex2 => ?_)
    have h := nm_at ex2 h
    obtain ⟨g3, h⟩ := ck_at h
    refine aX_2 X K G g3 dX5_addTool_20 (fun H locs G => ?_)
    obtain ⟨u4, eu4⟩ : ∃ z : XS, z = sT u0 (uDays (xT u0) (upd (tDays (xT u0)) x2.toNatClampNeg a1)) := ⟨_, rfl⟩
    have G : wg D A s.heap H locs (wX cI cZ cQ ad u4) := by rw [eu4]; exact G
    have h := nm_at eu4 h
    clear eu4
    refine lv_aload_n hx hb dX5_addTool_21 rfl (lv_at hl 0 rfl) ?_
    refine lv_dup hx hb dX5_addTool_22 rfl ?_
    refine gX_1_3 X K G q_112 dX5_addTool_23 ?_
    refine lv_iconst (v := 1) hx hb dX5_addTool_26 (by decide) ?_
    refine lv_iadd hx hb dX5_addTool_27 ?_
    refine lv_topi (fun x5 ex5 => ?_)
    have h := nm_at ex5 h
    refine pX_1_3 X K G q_112 dX5_addTool_28 (fun H locs G => ?_)
    obtain ⟨u6, eu6⟩ : ∃ z : XS, z = sT u4 (uTools (xT u4) x5) := ⟨_, rfl⟩
    have G : wg D A s.heap H locs (wX cI cZ cQ ad u6) := by rw [eu6]; exact G
    have h := nm_at eu6 h
    clear eu6
    refine lv_aload_n hx hb dX5_addTool_31 rfl (lv_at hl 0 rfl) ?_
    refine gX_1_3 X K G q_112 dX5_addTool_32 ?_
    refine lv_iconst (v := 1) hx hb dX5_addTool_35 (by decide) ?_
    refine lv_isub hx hb dX5_addTool_36 ?_
    obtain ⟨rfl, rfl⟩ := pair_at h
    exact reI X G dX5_addTool_37
  · have h := if_at c1 h
    refine lv_iconst (v := -1) hx hb dX5_addTool_9 (by decide) ?_
    obtain ⟨rfl, rfl⟩ := pair_at h
    exact reI X G dX5_addTool_10
noncomputable def f_X4_readTool_L24_24 (v1 : Int32) (v2 : Int32) (v3 : Int32) (u0 : XS) : Option ((Int32 × Int32 × Int32 × XS) ⊕ ((Int32 × XS) ⊕ (Int32 × XS))) :=
  (if (12 : Int32) ≤ v3 then
    some (.inr (.inr (v1, u0)))
  else
    (if (r_token (xR u0)) = (2 : Int32) then
      bnd (f_X4_isNumber v2 (11 : Int32) u0) fun r3 u4 =>
      (if r3 = 0 then
        some (.inr (.inl ((0 : Int32), u4)))
      else
        nmv (v1 ||| ((1 : Int32) <<< ((r_value (xR u4)) &&& 31))) fun x6 =>
        nmv ((r_value (xR u4)) + (1 : Int32)) fun x7 =>
        bnd (f_X4_goOn  u4) fun r8 u9 =>
        nmv (v3 + (1 : Int32)) fun x10 =>
        some (.inl (x6, x7, x10, u9)))
    else
      some (.inr (.inr (v1, u0)))))
set_option maxRecDepth 100000 in
set_option maxHeartbeats 4000000 in
theorem b_X4_readTool_L24_24 (X : cx p s m args meth c cX4_readTool 4 RX4 (some .boolean)) (K : kx D cI cZ cQ adK adV A s s.heap) {v1 : Int32} {v2 : Int32} {v3 : Int32} {u0 : XS} (G : wg D A s.heap H locs (wX cI cZ cQ ad u0)) (hl : lv_has ls 4 [(0, .ref (ad 33)), (1, .int v1), (2, .int v2), (3, .int v3)]) {q : ((Int32 × Int32 × Int32 × XS) ⊕ ((Int32 × XS) ⊕ (Int32 × XS)))} (h : f_X4_readTool_L24_24 v1 v2 v3 u0 = some q) (hB : ∀ (v1 : Int32) (v2 : Int32) (v3 : Int32) (u : XS), q = .inl (v1, v2, v3, u) → ∀ (H : Heap) (locs : List Loc) (ls : Array Slot), wg D A s.heap H locs (wX cI cZ cQ ad u) → lv_has ls 4 [(0, .ref (ad 33)), (1, .int v1), (2, .int v2), (3, .int v3)] → W p l e { frames := 2, cells := 0, slots := 0, locals := 44 } s m args below meth c H locs 0 0 Q (F0 m 24 ls [])) (hX : ∀ (v1 : Int32) (u : XS), q = .inr (.inr (v1, u)) → ∀ (H : Heap) (locs : List Loc) (ls : Array Slot), wg D A s.heap H locs (wX cI cZ cQ ad u) → lv_has ls 4 [(0, .ref (ad 33)), (1, .int v1)] → W p l e { frames := 2, cells := 0, slots := 0, locals := 44 } s m args below meth c H locs 0 0 Q (F0 m 76 ls [])) (hR : ∀ (r : Int32) (u : XS), q = .inr (.inl (r, u)) → Q = (qI D A (wX cI cZ cQ ad) below args s r u)) : W p l e { frames := 2, cells := 0, slots := 0, locals := 44 } s m args below meth c H locs 0 0 Q (F0 m 24 ls []) := by
  unfold f_X4_readTool_L24_24 at h
  obtain ⟨hx, hb, -⟩ := id X
  refine lv_iload_n hx hb dX4_readTool_24 rfl (lv_at hl 3 rfl) ?_
  refine lv_bipush (v := 12) hx hb dX4_readTool_25 (by decide) ?_
  refine lv_icmp_ge (tgt := 76) hx hb dX4_readTool_27 (by decide) (fun c1 => ?_) (fun c1 => ?_)
  · have h := it_at c1 h
    exact hX _ _ (Option.some.inj h).symm _ _ _ G (lv_sub hl [0, 1] rfl)
  · have h := if_at c1 h
    refine lv_aload_n hx hb dX4_readTool_30 rfl (lv_at hl 0 rfl) ?_
    refine gX_33_2 X K G q_261 dX4_readTool_31 ?_
    refine lv_iconst (v := 2) hx hb dX4_readTool_34 (by decide) ?_
    refine lv_icmp_ne (tgt := 76) hx hb dX4_readTool_35 (by decide) (fun c2 => ?_) (fun c2 => ?_)
    · have h := if_at c2 h
      exact hX _ _ (Option.some.inj h).symm _ _ _ G (lv_sub hl [0, 1] rfl)
    · have h := it_at c2 h
      refine lv_aload_n hx hb dX4_readTool_38 rfl (lv_at hl 0 rfl) ?_
      refine lv_iload_n hx hb dX4_readTool_39 rfl (lv_at hl 2 rfl) ?_
      refine lv_bipush (v := 11) hx hb dX4_readTool_40 (by decide) ?_
      obtain ⟨r3, u4, er3, h⟩ := bnd_at h
      refine cvI (rest := []) X K G (c_X4_isNumber er3) q_439 my_X4_isNumber ⟨rfl, rfl⟩ ⟨Nat.le_of_ble_eq_true rfl, Nat.le_of_ble_eq_true rfl⟩ ⟨Nat.zero_le _, Nat.zero_le _⟩ 33 4 rfl rfl rfl rfl hl.1 rfl (Nat.le_of_ble_eq_true rfl) dX4_readTool_42 (fun H locs G => ?_)
      clear er3
      refine lv_if_ne (tgt := 50) hx hb dX4_readTool_45 (by decide) (fun c5 => ?_) (fun c5 => ?_)
      · have h := if_at c5 h
        refine lv_iload_n hx hb dX4_readTool_50 rfl (lv_at hl 1 rfl) ?_
        refine lv_iconst (v := 1) hx hb dX4_readTool_51 (by decide) ?_
        refine lv_aload_n hx hb dX4_readTool_52 rfl (lv_at hl 0 rfl) ?_
        refine gX_33_5 X K G q_264 dX4_readTool_53 ?_
        refine lv_ishl hx hb dX4_readTool_56 ?_
        refine lv_ior hx hb dX4_readTool_57 ?_
        refine lv_topi (fun x6 ex6 => ?_)
        have h := nm_at ex6 h
        refine lv_istore_n (lv' := [(1, .int x6), (0, .ref (ad 33)), (2, .int v2), (3, .int v3)]) hx hb dX4_readTool_58 rfl hl (by decide) rfl (fun ls hl => ?_)
        refine lv_aload_n hx hb dX4_readTool_59 rfl (lv_at hl 1 rfl) ?_
        refine gX_33_5 X K G q_264 dX4_readTool_60 ?_
        refine lv_iconst (v := 1) hx hb dX4_readTool_63 (by decide) ?_
        refine lv_iadd hx hb dX4_readTool_64 ?_
        refine lv_topi (fun x7 ex7 => ?_)
        have h := nm_at ex7 h
        refine lv_istore_n (lv' := [(2, .int x7), (1, .int x6), (0, .ref (ad 33)), (3, .int v3)]) hx hb dX4_readTool_65 rfl hl (by decide) rfl (fun ls hl => ?_)
        refine lv_aload_n hx hb dX4_readTool_66 rfl (lv_at hl 2 rfl) ?_
        obtain ⟨r8, u9, er8, h⟩ := bnd_at h
        refine cvV (rest := []) X K G (c_X4_goOn er8) q_366 my_X4_goOn ⟨rfl, rfl⟩ ⟨Nat.le_of_ble_eq_true rfl, Nat.le_of_ble_eq_true rfl⟩ ⟨Nat.zero_le _, Nat.zero_le _⟩ 33 4 rfl rfl rfl rfl hl.1 rfl (Nat.le_of_ble_eq_true rfl) dX4_readTool_67 (fun H locs G => ?_)
        clear er8
        obtain ⟨x10, ex10⟩ : ∃ z : Int32, z = v3 + (1 : Int32) := ⟨_, rfl⟩
        have h := nm_at ex10 h
        refine lv_iinc (v := x10) (lv' := [(3, .int x10), (2, .int x7), (1, .int x6), (0, .ref (ad 33))]) hx hb dX4_readTool_70 hl (k := 3) rfl (by rw [ex10]; rfl) (by decide) rfl (fun ls hl => ?_)
        refine lv_goto (tgt := 24) hx hb dX4_readTool_73 (by decide) ?_
        exact hB _ _ _ _ (Option.some.inj h).symm _ _ _ G (lv_sub hl [3, 2, 1, 0] rfl)
      · have h := it_at c5 h
        refine lv_iconst (v := 0) hx hb dX4_readTool_48 (by decide) ?_
        rw [hR _ _ (Option.some.inj h).symm]
        exact reZ X G (Or.inl rfl) dX4_readTool_49
noncomputable def f_X4_readTool_L24_24s (q : Int32 × Int32 × Int32 × XS) : Option ((Int32 × Int32 × Int32 × XS) ⊕ ((Int32 × XS) ⊕ (Int32 × XS))) := f_X4_readTool_L24_24 q.1 q.2.1 q.2.2.1 q.2.2.2
set_option maxRecDepth 100000 in
set_option maxHeartbeats 4000000 in
theorem w_X4_readTool_L24_24 (X : cx p s m args meth c cX4_readTool 4 RX4 (some .boolean)) (K : kx D cI cZ cQ adK adV A s s.heap) {e0 : (Int32 × XS) ⊕ (Int32 × XS)} : ∀ (n : Nat) (v1 : Int32) (v2 : Int32) (v3 : Int32) (u : XS) {H : Heap} {locs : List Loc} {ls : Array Slot}, wh f_X4_readTool_L24_24s n (v1, v2, v3, u) = some e0 → wg D A s.heap H locs (wX cI cZ cQ ad u) → lv_has ls 4 [(0, .ref (ad 33)), (1, .int v1), (2, .int v2), (3, .int v3)] → (∀ (v1 : Int32) (u : XS), e0 = .inr (v1, u) → ∀ (H : Heap) (locs : List Loc) (ls : Array Slot), wg D A s.heap H locs (wX cI cZ cQ ad u) → lv_has ls 4 [(0, .ref (ad 33)), (1, .int v1)] → W p l e { frames := 2, cells := 0, slots := 0, locals := 44 } s m args below meth c H locs 0 0 Q (F0 m 76 ls [])) → (∀ (r : Int32) (u : XS), e0 = .inl (r, u) → Q = (qI D A (wX cI cZ cQ ad) below args s r u)) → W p l e { frames := 2, cells := 0, slots := 0, locals := 44 } s m args below meth c H locs 0 0 Q (F0 m 24 ls []) := by
  intro n
  induction n with
  | zero => intro v1 v2 v3 u H locs ls h; cases h
  | succ n ih =>
    intro v1 v2 v3 u H locs ls h G hl hX hR
    obtain ⟨q, h1, h2, h3⟩ := wh_at h
    exact b_X4_readTool_L24_24 X K G hl (show f_X4_readTool_L24_24 v1 v2 v3 u = some q from h1) (fun b0 b1 b2 b3 ee H locs ls G hl => ih b0 b1 b2 b3 (h2 _ ee) G hl hX hR) (fun z0 z1 ee => hX z0 z1 (h3 _ ee).symm) (fun r u ee => hR r u (h3 _ ee).symm)
noncomputable def f_X4_readTool (u0 : XS) : Option (Int32 × XS) :=
  (if (tTools (xT u0)) < (8 : Int32) then
    bnd (f_X4_goOn  u0) fun r2 u3 =>
    bne (wl f_X4_readTool_L24_24s ((0 : Int32), (0 : Int32), (0 : Int32), u3)) (fun a => some a) fun b =>
      nmv b.1 fun y7 =>
      nmv b.2 fun u6 =>
      bnd (f_X5_addTool y7 u6) fun r8 u9 =>
      some ((1 : Int32), u9)
  else
    some ((0 : Int32), u0))
set_option maxRecDepth 100000 in
set_option maxHeartbeats 4000000 in
theorem c_X4_readTool {u0 : XS} {r : Int32} {u' : XS} (h : f_X4_readTool  u0 = some (r, u')) : MI l D cI cZ cQ adK adV A yX4_readTool cX4_readTool 4 (some .boolean) { frames := 2, cells := 0, slots := 0, locals := 44 } [.ref (ad 33)] (wX cI cZ cQ ad) u0 r u' := by
  unfold f_X4_readTool at h
  refine entI (by decide) (Nat.le_of_ble_eq_true rfl) (fun p e s m below meth c ls X K G hl => ?_)
  have hl : lv_has ls 4 [(0, .ref (ad 33))] := hl
  obtain ⟨hx, hb, -⟩ := id X
  generalize hH : s.heap = H at G
  subst hH
  refine lv_aload_n hx hb dX4_readTool_0 rfl (lv_at hl 0 rfl) ?_
  refine gX_33_1 X K G q_260 dX4_readTool_1 ?_
  refine gX_1_3 X K G q_113 dX4_readTool_4 ?_
  refine lv_bipush (v := 8) hx hb dX4_readTool_7 (by decide) ?_
  refine lv_icmp_lt (tgt := 14) hx hb dX4_readTool_9 (by decide) (fun c1 => ?_) (fun c1 => ?_)
  · have h := it_at c1 h
    refine lv_aload_n hx hb dX4_readTool_14 rfl (lv_at hl 0 rfl) ?_
    obtain ⟨r2, u3, er2, h⟩ := bnd_at h
    refine cvV (rest := []) X K G (c_X4_goOn er2) q_366 my_X4_goOn ⟨rfl, rfl⟩ ⟨Nat.le_of_ble_eq_true rfl, Nat.le_of_ble_eq_true rfl⟩ ⟨Nat.zero_le _, Nat.zero_le _⟩ 33 4 rfl rfl rfl rfl hl.1 rfl (Nat.le_of_ble_eq_true rfl) dX4_readTool_15 (fun H locs G => ?_)
    clear er2
    refine lv_iconst (v := 0) hx hb dX4_readTool_18 (by decide) ?_
    refine lv_istore_n (lv' := [(1, .int (0 : Int32)), (0, .ref (ad 33))]) hx hb dX4_readTool_19 rfl hl (by decide) rfl (fun ls hl => ?_)
    refine lv_iconst (v := 0) hx hb dX4_readTool_20 (by decide) ?_
    refine lv_istore_n (lv' := [(2, .int (0 : Int32)), (1, .int (0 : Int32)), (0, .ref (ad 33))]) hx hb dX4_readTool_21 rfl hl (by decide) rfl (fun ls hl => ?_)
    refine lv_iconst (v := 0) hx hb dX4_readTool_22 (by decide) ?_
    refine lv_istore_n (lv' := [(3, .int (0 : Int32)), (2, .int (0 : Int32)), (1, .int (0 : Int32)), (0, .ref (ad 33))]) hx hb dX4_readTool_23 rfl hl (by decide) rfl (fun ls hl => ?_)
    obtain ⟨q5, hq5, ha, hb1⟩ := bne_at h
    obtain ⟨n4, hn4⟩ := wl_iff.mp hq5
    refine w_X4_readTool_L24_24 X K n4 _ _ _ _ hn4 G (lv_sub hl [3, 2, 1, 0] rfl) (fun y7 u6 ee H locs ls G hl => ?_) (fun r u1 ee => by obtain ⟨rfl, rfl⟩ := pair_at (ha _ ee); rfl)
    have h := hb1 _ ee
    clear ee ha hb1 hq5 hn4
    have h := nm_at (x := y7) rfl h
    have h := nm_at (x := u6) rfl h
    refine lv_aload_n hx hb dX4_readTool_76 rfl (lv_at hl 0 rfl) ?_
    refine gX_33_1 X K G q_260 dX4_readTool_77 ?_
    refine lv_iload_n hx hb dX4_readTool_80 rfl (lv_at hl 1 rfl) ?_
    obtain ⟨r8, u9, er8, h⟩ := bnd_at h
    refine cvI (rest := []) X K G (c_X5_addTool er8) q_454 my_X5_addTool ⟨rfl, rfl⟩ ⟨Nat.le_of_ble_eq_true rfl, Nat.le_of_ble_eq_true rfl⟩ ⟨Nat.zero_le _, Nat.zero_le _⟩ 1 5 rfl rfl rfl rfl hl.1 rfl (Nat.le_of_ble_eq_true rfl) dX4_readTool_81 (fun H locs G => ?_)
    clear er8
    refine lv_pop hx hb dX4_readTool_84 rfl ?_
    refine lv_iconst (v := 1) hx hb dX4_readTool_85 (by decide) ?_
    obtain ⟨rfl, rfl⟩ := pair_at h
    exact reZ X G (Or.inr rfl) dX4_readTool_86
  · have h := if_at c1 h
    refine lv_iconst (v := 0) hx hb dX4_readTool_12 (by decide) ?_
    obtain ⟨rfl, rfl⟩ := pair_at h
    exact reZ X G (Or.inl rfl) dX4_readTool_13
noncomputable def f_X4_readNear (u0 : XS) : Option (Int32 × XS) :=
  bnd (f_X4_goOn  u0) fun r1 u2 =>
  bnd (f_X4_isNumber (0 : Int32) (11 : Int32) u2) fun r3 u4 =>
  (if r3 = 0 then
    some ((0 : Int32), u4)
  else
    nmv (r_value (xR u4)) fun x6 =>
    nmv (sT u4 (uNear (xT u4) x6)) fun u7 =>
    bnd (f_X4_goOn  u7) fun r8 u9 =>
    some ((1 : Int32), u9))
set_option maxRecDepth 100000 in
set_option maxHeartbeats 4000000 in
theorem c_X4_readNear {u0 : XS} {r : Int32} {u' : XS} (h : f_X4_readNear  u0 = some (r, u')) : MI l D cI cZ cQ adK adV A yX4_readNear cX4_readNear 1 (some .boolean) { frames := 2, cells := 0, slots := 0, locals := 44 } [.ref (ad 33)] (wX cI cZ cQ ad) u0 r u' := by
  unfold f_X4_readNear at h
  refine entI (by decide) (Nat.le_of_ble_eq_true rfl) (fun p e s m below meth c ls X K G hl => ?_)
  have hl : lv_has ls 1 [(0, .ref (ad 33))] := hl
  obtain ⟨hx, hb, -⟩ := id X
  generalize hH : s.heap = H at G
  subst hH
  refine lv_aload_n hx hb dX4_readNear_0 rfl (lv_at hl 0 rfl) ?_
  obtain ⟨r1, u2, er1, h⟩ := bnd_at h
  refine cvV (rest := []) X K G (c_X4_goOn er1) q_366 my_X4_goOn ⟨rfl, rfl⟩ ⟨Nat.le_of_ble_eq_true rfl, Nat.le_of_ble_eq_true rfl⟩ ⟨Nat.zero_le _, Nat.zero_le _⟩ 33 4 rfl rfl rfl rfl hl.1 rfl (Nat.le_of_ble_eq_true rfl) dX4_readNear_1 (fun H locs G => ?_)
  clear er1
  refine lv_aload_n hx hb dX4_readNear_4 rfl (lv_at hl 0 rfl) ?_
  refine lv_iconst (v := 0) hx hb dX4_readNear_5 (by decide) ?_
  refine lv_bipush (v := 11) hx hb dX4_readNear_6 (by decide) ?_
  obtain ⟨r3, u4, er3, h⟩ := bnd_at h
  refine cvI (rest := []) X K G (c_X4_isNumber er3) q_439 my_X4_isNumber ⟨rfl, rfl⟩ ⟨Nat.le_of_ble_eq_true rfl, Nat.le_of_ble_eq_true rfl⟩ ⟨Nat.zero_le _, Nat.zero_le _⟩ 33 4 rfl rfl rfl rfl hl.1 rfl (Nat.le_of_ble_eq_true rfl) dX4_readNear_8 (fun H locs G => ?_)
  clear er3
  refine lv_if_ne (tgt := 16) hx hb dX4_readNear_11 (by decide) (fun c5 => ?_) (fun c5 => ?_)
  · have h := if_at c5 h
    refine lv_aload_n hx hb dX4_readNear_16 rfl (lv_at hl 0 rfl) ?_
    refine gX_33_1 X K G q_260 dX4_readNear_17 ?_
    refine lv_aload_n hx hb dX4_readNear_20 rfl (lv_at hl 0 rfl) ?_
    refine gX_33_5 X K G q_264 dX4_readNear_21 ?_
    refine lv_topi (fun x6 ex6 => ?_)
    have h := nm_at ex6 h
    refine pX_1_1 X K G q_107 dX4_readNear_24 (fun H locs G => ?_)
    obtain ⟨u7, eu7⟩ : ∃ z : XS, z = sT u4 (uNear (xT u4) x6) := ⟨_, rfl⟩
    have G : wg D A s.heap H locs (wX cI cZ cQ ad u7) := by rw [eu7]; exact G
    have h := nm_at eu7 h
    clear eu7
    refine lv_aload_n hx hb dX4_readNear_27 rfl (lv_at hl 0 rfl) ?_
    obtain ⟨r8, u9, er8, h⟩ := bnd_at h
    refine cvV (rest := []) X K G (c_X4_goOn er8) q_366 my_X4_goOn ⟨rfl, rfl⟩ ⟨Nat.le_of_ble_eq_true rfl, Nat.le_of_ble_eq_true rfl⟩ ⟨Nat.zero_le _, Nat.zero_le _⟩ 33 4 rfl rfl rfl rfl hl.1 rfl (Nat.le_of_ble_eq_true rfl) dX4_readNear_28 (fun H locs G => ?_)
    clear er8
    refine lv_iconst (v := 1) hx hb dX4_readNear_31 (by decide) ?_
    obtain ⟨rfl, rfl⟩ := pair_at h
    exact reZ X G (Or.inr rfl) dX4_readNear_32
  · have h := it_at c5 h
    refine lv_iconst (v := 0) hx hb dX4_readNear_14 (by decide) ?_
    obtain ⟨rfl, rfl⟩ := pair_at h
    exact reZ X G (Or.inl rfl) dX4_readNear_15
noncomputable def f_X4_readRound (u0 : XS) : Option (Int32 × XS) :=
  bnd (f_X4_goOn  u0) fun r1 u2 =>
  bnd (f_X4_isNumber (1 : Int32) (12 : Int32) u2) fun r3 u4 =>
  (if r3 = 0 then
    some ((0 : Int32), u4)
  else
    nmv (r_value (xR u4)) fun x6 =>
    nmv (sT u4 (uRound (xT u4) x6)) fun u7 =>
    bnd (f_X4_goOn  u7) fun r8 u9 =>
    some ((1 : Int32), u9))
set_option maxRecDepth 100000 in
set_option maxHeartbeats 4000000 in
theorem c_X4_readRound {u0 : XS} {r : Int32} {u' : XS} (h : f_X4_readRound  u0 = some (r, u')) : MI l D cI cZ cQ adK adV A yX4_readRound cX4_readRound 1 (some .boolean) { frames := 2, cells := 0, slots := 0, locals := 44 } [.ref (ad 33)] (wX cI cZ cQ ad) u0 r u' := by
  unfold f_X4_readRound at h
  refine entI (by decide) (Nat.le_of_ble_eq_true rfl) (fun p e s m below meth c ls X K G hl => ?_)
  have hl : lv_has ls 1 [(0, .ref (ad 33))] := hl
  obtain ⟨hx, hb, -⟩ := id X
  generalize hH : s.heap = H at G
  subst hH
  refine lv_aload_n hx hb dX4_readRound_0 rfl (lv_at hl 0 rfl) ?_
  obtain ⟨r1, u2, er1, h⟩ := bnd_at h
  refine cvV (rest := []) X K G (c_X4_goOn er1) q_366 my_X4_goOn ⟨rfl, rfl⟩ ⟨Nat.le_of_ble_eq_true rfl, Nat.le_of_ble_eq_true rfl⟩ ⟨Nat.zero_le _, Nat.zero_le _⟩ 33 4 rfl rfl rfl rfl hl.1 rfl (Nat.le_of_ble_eq_true rfl) dX4_readRound_1 (fun H locs G => ?_)
  clear er1
  refine lv_aload_n hx hb dX4_readRound_4 rfl (lv_at hl 0 rfl) ?_
  refine lv_iconst (v := 1) hx hb dX4_readRound_5 (by decide) ?_
  refine lv_bipush (v := 12) hx hb dX4_readRound_6 (by decide) ?_
  obtain ⟨r3, u4, er3, h⟩ := bnd_at h
  refine cvI (rest := []) X K G (c_X4_isNumber er3) q_439 my_X4_isNumber ⟨rfl, rfl⟩ ⟨Nat.le_of_ble_eq_true rfl, Nat.le_of_ble_eq_true rfl⟩ ⟨Nat.zero_le _, Nat.zero_le _⟩ 33 4 rfl rfl rfl rfl hl.1 rfl (Nat.le_of_ble_eq_true rfl) dX4_readRound_8 (fun H locs G => ?_)
  clear er3
  refine lv_if_ne (tgt := 16) hx hb dX4_readRound_11 (by decide) (fun c5 => ?_) (fun c5 => ?_)
  · have h := if_at c5 h
    refine lv_aload_n hx hb dX4_readRound_16 rfl (lv_at hl 0 rfl) ?_
    refine gX_33_1 X K G q_260 dX4_readRound_17 ?_
    refine lv_aload_n hx hb dX4_readRound_20 rfl (lv_at hl 0 rfl) ?_
    refine gX_33_5 X K G q_264 dX4_readRound_21 ?_
    refine lv_topi (fun x6 ex6 => ?_)
    have h := nm_at ex6 h
    refine pX_1_0 X K G q_104 dX4_readRound_24 (fun H locs G => ?_)
    obtain ⟨u7, eu7⟩ : ∃ z : XS, z = sT u4 (uRound (xT u4) x6) := ⟨_, rfl⟩
    have G : wg D A s.heap H locs (wX cI cZ cQ ad u7) := by rw [eu7]; exact G
    have h := nm_at eu7 h
    clear eu7
    refine lv_aload_n hx hb dX4_readRound_27 rfl (lv_at hl 0 rfl) ?_
    obtain ⟨r8, u9, er8, h⟩ := bnd_at h
    refine cvV (rest := []) X K G (c_X4_goOn er8) q_366 my_X4_goOn ⟨rfl, rfl⟩ ⟨Nat.le_of_ble_eq_true rfl, Nat.le_of_ble_eq_true rfl⟩ ⟨Nat.zero_le _, Nat.zero_le _⟩ 33 4 rfl rfl rfl rfl hl.1 rfl (Nat.le_of_ble_eq_true rfl) dX4_readRound_28 (fun H locs G => ?_)
    clear er8
    refine lv_iconst (v := 1) hx hb dX4_readRound_31 (by decide) ?_
    obtain ⟨rfl, rfl⟩ := pair_at h
    exact reZ X G (Or.inr rfl) dX4_readRound_32
  · have h := it_at c5 h
    refine lv_iconst (v := 0) hx hb dX4_readRound_14 (by decide) ?_
    obtain ⟨rfl, rfl⟩ := pair_at h
    exact reZ X G (Or.inl rfl) dX4_readRound_15
noncomputable def f_X4_readItem (u0 : XS) : Option (Int32 × XS) :=
  (if (r_token (xR u0)) = (1 : Int32) then
    bnd (f_X4_isWord (0) u0) fun r2 u3 =>
    (if r2 = 0 then
      bnd (f_X4_isWord (1) u3) fun r5 u6 =>
      (if r5 = 0 then
        bnd (f_X4_isWord (2) u6) fun r8 u9 =>
        (if r8 = 0 then
          bnd (f_X4_isWord (3) u9) fun r11 u12 =>
          (if r11 = 0 then
            bnd (f_X4_kindOfWord  u12) fun r14 u15 =>
            bnd (f_X4_readThing r14 u15) fun r16 u17 =>
            if ¬ (r16 = 0 ∨ r16 = 1) then none else
            some (r16, u17)
          else
            bnd (f_X4_readOrder  u12) fun r19 u20 =>
            if ¬ (r19 = 0 ∨ r19 = 1) then none else
            some (r19, u20))
        else
          bnd (f_X4_readTool  u9) fun r22 u23 =>
          if ¬ (r22 = 0 ∨ r22 = 1) then none else
          some (r22, u23))
      else
        bnd (f_X4_readNear  u6) fun r25 u26 =>
        if ¬ (r25 = 0 ∨ r25 = 1) then none else
        some (r25, u26))
    else
      bnd (f_X4_readRound  u3) fun r28 u29 =>
      if ¬ (r28 = 0 ∨ r28 = 1) then none else
      some (r28, u29))
  else
    some ((0 : Int32), u0))
set_option maxRecDepth 100000 in
set_option maxHeartbeats 4000000 in
theorem c_X4_readItem {u0 : XS} {r : Int32} {u' : XS} (h : f_X4_readItem  u0 = some (r, u')) : MI l D cI cZ cQ adK adV A yX4_readItem cX4_readItem 1 (some .boolean) { frames := 7, cells := 0, slots := 0, locals := 154 } [.ref (ad 33)] (wX cI cZ cQ ad) u0 r u' := by
  unfold f_X4_readItem at h
  refine entI (by decide) (Nat.le_of_ble_eq_true rfl) (fun p e s m below meth c ls X K G hl => ?_)
  have hl : lv_has ls 1 [(0, .ref (ad 33))] := hl
  obtain ⟨hx, hb, -⟩ := id X
  generalize hH : s.heap = H at G
  subst hH
  refine lv_aload_n hx hb dX4_readItem_0 rfl (lv_at hl 0 rfl) ?_
  refine gX_33_2 X K G q_261 dX4_readItem_1 ?_
  refine lv_iconst (v := 1) hx hb dX4_readItem_4 (by decide) ?_
  refine lv_icmp_eq (tgt := 10) hx hb dX4_readItem_5 (by decide) (fun c1 => ?_) (fun c1 => ?_)
  · have h := it_at c1 h
    refine lv_aload_n hx hb dX4_readItem_10 rfl (lv_at hl 0 rfl) ?_
    refine va_ldcS (q := adK 0) hx hb X.2.2.2.1 (K.2.2.2.1 0 (by decide)).1 dX4_readItem_11 ?_
    obtain ⟨r2, u3, er2, h⟩ := bnd_at h
    refine cvI (rest := []) X K G (c_X4_isWord er2) q_383 my_X4_isWord ⟨rfl, rfl⟩ ⟨Nat.le_of_ble_eq_true rfl, Nat.le_of_ble_eq_true rfl⟩ ⟨Nat.zero_le _, Nat.zero_le _⟩ 33 4 rfl rfl rfl rfl hl.1 rfl (Nat.le_of_ble_eq_true rfl) dX4_readItem_13 (fun H locs G => ?_)
    clear er2
    refine lv_if_eq (tgt := 24) hx hb dX4_readItem_16 (by decide) (fun c4 => ?_) (fun c4 => ?_)
    · have h := it_at c4 h
      refine lv_aload_n hx hb dX4_readItem_24 rfl (lv_at hl 0 rfl) ?_
      refine va_ldcS (q := adK 1) hx hb X.2.2.2.1 (K.2.2.2.1 1 (by decide)).1 dX4_readItem_25 ?_
      obtain ⟨r5, u6, er5, h⟩ := bnd_at h
      refine cvI (rest := []) X K G (c_X4_isWord er5) q_383 my_X4_isWord ⟨rfl, rfl⟩ ⟨Nat.le_of_ble_eq_true rfl, Nat.le_of_ble_eq_true rfl⟩ ⟨Nat.zero_le _, Nat.zero_le _⟩ 33 4 rfl rfl rfl rfl hl.1 rfl (Nat.le_of_ble_eq_true rfl) dX4_readItem_27 (fun H locs G => ?_)
      clear er5
      refine lv_if_eq (tgt := 38) hx hb dX4_readItem_30 (by decide) (fun c7 => ?_) (fun c7 => ?_)
      · have h := it_at c7 h
        refine lv_aload_n hx hb dX4_readItem_38 rfl (lv_at hl 0 rfl) ?_
        refine va_ldcS (q := adK 2) hx hb X.2.2.2.1 (K.2.2.2.1 2 (by decide)).1 dX4_readItem_39 ?_
        obtain ⟨r8, u9, er8, h⟩ := bnd_at h
        refine cvI (rest := []) X K G (c_X4_isWord er8) q_383 my_X4_isWord ⟨rfl, rfl⟩ ⟨Nat.le_of_ble_eq_true rfl, Nat.le_of_ble_eq_true rfl⟩ ⟨Nat.zero_le _, Nat.zero_le _⟩ 33 4 rfl rfl rfl rfl hl.1 rfl (Nat.le_of_ble_eq_true rfl) dX4_readItem_41 (fun H locs G => ?_)
        clear er8
        refine lv_if_eq (tgt := 52) hx hb dX4_readItem_44 (by decide) (fun c10 => ?_) (fun c10 => ?_)
        · have h := it_at c10 h
          refine lv_aload_n hx hb dX4_readItem_52 rfl (lv_at hl 0 rfl) ?_
          refine va_ldcS (q := adK 3) hx hb X.2.2.2.1 (K.2.2.2.1 3 (by decide)).1 dX4_readItem_53 ?_
          obtain ⟨r11, u12, er11, h⟩ := bnd_at h
          refine cvI (rest := []) X K G (c_X4_isWord er11) q_383 my_X4_isWord ⟨rfl, rfl⟩ ⟨Nat.le_of_ble_eq_true rfl, Nat.le_of_ble_eq_true rfl⟩ ⟨Nat.zero_le _, Nat.zero_le _⟩ 33 4 rfl rfl rfl rfl hl.1 rfl (Nat.le_of_ble_eq_true rfl) dX4_readItem_55 (fun H locs G => ?_)
          clear er11
          refine lv_if_eq (tgt := 66) hx hb dX4_readItem_58 (by decide) (fun c13 => ?_) (fun c13 => ?_)
          · have h := it_at c13 h
            refine lv_aload_n hx hb dX4_readItem_66 rfl (lv_at hl 0 rfl) ?_
            refine lv_aload_n hx hb dX4_readItem_67 rfl (lv_at hl 0 rfl) ?_
            obtain ⟨r14, u15, er14, h⟩ := bnd_at h
            refine cvI (rest := [.ref (ad 33)]) X K G (c_X4_kindOfWord er14) q_473 my_X4_kindOfWord ⟨rfl, rfl⟩ ⟨Nat.le_of_ble_eq_true rfl, Nat.le_of_ble_eq_true rfl⟩ ⟨Nat.zero_le _, Nat.zero_le _⟩ 33 4 rfl rfl rfl rfl hl.1 rfl (Nat.le_of_ble_eq_true rfl) dX4_readItem_68 (fun H locs G => ?_)
            clear er14
            obtain ⟨r16, u17, er16, h⟩ := bnd_at h
            refine cvI (rest := []) X K G (c_X4_readThing er16) q_487 my_X4_readThing ⟨rfl, rfl⟩ ⟨Nat.le_of_ble_eq_true rfl, Nat.le_of_ble_eq_true rfl⟩ ⟨Nat.zero_le _, Nat.zero_le _⟩ 33 4 rfl rfl rfl rfl hl.1 rfl (Nat.le_of_ble_eq_true rfl) dX4_readItem_71 (fun H locs G => ?_)
            clear er16
            obtain ⟨g18, h⟩ := ck_at h
            obtain ⟨rfl, rfl⟩ := pair_at h
            exact reZ X G (Decidable.not_not.mp g18) dX4_readItem_74
          · have h := if_at c13 h
            refine lv_aload_n hx hb dX4_readItem_61 rfl (lv_at hl 0 rfl) ?_
            obtain ⟨r19, u20, er19, h⟩ := bnd_at h
            refine cvI (rest := []) X K G (c_X4_readOrder er19) q_459 my_X4_readOrder ⟨rfl, rfl⟩ ⟨Nat.le_of_ble_eq_true rfl, Nat.le_of_ble_eq_true rfl⟩ ⟨Nat.zero_le _, Nat.zero_le _⟩ 33 4 rfl rfl rfl rfl hl.1 rfl (Nat.le_of_ble_eq_true rfl) dX4_readItem_62 (fun H locs G => ?_)
            clear er19
            obtain ⟨g21, h⟩ := ck_at h
            obtain ⟨rfl, rfl⟩ := pair_at h
            exact reZ X G (Decidable.not_not.mp g21) dX4_readItem_65
        · have h := if_at c10 h
          refine lv_aload_n hx hb dX4_readItem_47 rfl (lv_at hl 0 rfl) ?_
          obtain ⟨r22, u23, er22, h⟩ := bnd_at h
          refine cvI (rest := []) X K G (c_X4_readTool er22) q_450 my_X4_readTool ⟨rfl, rfl⟩ ⟨Nat.le_of_ble_eq_true rfl, Nat.le_of_ble_eq_true rfl⟩ ⟨Nat.zero_le _, Nat.zero_le _⟩ 33 4 rfl rfl rfl rfl hl.1 rfl (Nat.le_of_ble_eq_true rfl) dX4_readItem_48 (fun H locs G => ?_)
          clear er22
          obtain ⟨g24, h⟩ := ck_at h
          obtain ⟨rfl, rfl⟩ := pair_at h
          exact reZ X G (Decidable.not_not.mp g24) dX4_readItem_51
      · have h := if_at c7 h
        refine lv_aload_n hx hb dX4_readItem_33 rfl (lv_at hl 0 rfl) ?_
        obtain ⟨r25, u26, er25, h⟩ := bnd_at h
        refine cvI (rest := []) X K G (c_X4_readNear er25) q_445 my_X4_readNear ⟨rfl, rfl⟩ ⟨Nat.le_of_ble_eq_true rfl, Nat.le_of_ble_eq_true rfl⟩ ⟨Nat.zero_le _, Nat.zero_le _⟩ 33 4 rfl rfl rfl rfl hl.1 rfl (Nat.le_of_ble_eq_true rfl) dX4_readItem_34 (fun H locs G => ?_)
        clear er25
        obtain ⟨g27, h⟩ := ck_at h
        obtain ⟨rfl, rfl⟩ := pair_at h
        exact reZ X G (Decidable.not_not.mp g27) dX4_readItem_37
    · have h := if_at c4 h
      refine lv_aload_n hx hb dX4_readItem_19 rfl (lv_at hl 0 rfl) ?_
      obtain ⟨r28, u29, er28, h⟩ := bnd_at h
      refine cvI (rest := []) X K G (c_X4_readRound er28) q_435 my_X4_readRound ⟨rfl, rfl⟩ ⟨Nat.le_of_ble_eq_true rfl, Nat.le_of_ble_eq_true rfl⟩ ⟨Nat.zero_le _, Nat.zero_le _⟩ 33 4 rfl rfl rfl rfl hl.1 rfl (Nat.le_of_ble_eq_true rfl) dX4_readItem_20 (fun H locs G => ?_)
      clear er28
      obtain ⟨g30, h⟩ := ck_at h
      obtain ⟨rfl, rfl⟩ := pair_at h
      exact reZ X G (Decidable.not_not.mp g30) dX4_readItem_23
  · have h := if_at c1 h
    refine lv_iconst (v := 0) hx hb dX4_readItem_8 (by decide) ?_
    obtain ⟨rfl, rfl⟩ := pair_at h
    exact reZ X G (Or.inl rfl) dX4_readItem_9
noncomputable def f_X4_readText_L9_9 (v1 : Int32) (v2 : Int32) (u0 : XS) : Option ((Int32 × Int32 × XS) ⊕ ((Int32 × XS) ⊕ (XS))) :=
  (if (120 : Int32) < v2 then
    some (.inr (.inr u0))
  else
    bnd (f_X4_goOn  u0) fun r2 u3 =>
    bnd (f_X4_readItem  u3) fun r4 u5 =>
    (if r4 = 0 then
      some (.inr (.inl ((-1 : Int32) - (r_start (xR u5)), u5)))
    else
      nmv (v1 + (1 : Int32)) fun x7 =>
      (if (r_token (xR u5)) = 0 then
        some (.inr (.inl (x7, u5)))
      else
        (if (r_token (xR u5)) = (3 : Int32) then
          nmv (v2 + (1 : Int32)) fun x10 =>
          some (.inl (x7, x10, u5))
        else
          some (.inr (.inl ((-1 : Int32) - (r_start (xR u5)), u5)))))))
set_option maxRecDepth 100000 in
set_option maxHeartbeats 4000000 in
theorem b_X4_readText_L9_9 (X : cx p s m args meth c cX4_readText 3 RX4 (some .int)) (K : kx D cI cZ cQ adK adV A s s.heap) {v1 : Int32} {v2 : Int32} {u0 : XS} (G : wg D A s.heap H locs (wX cI cZ cQ ad u0)) (hl : lv_has ls 3 [(0, .ref (ad 33)), (1, .int v1), (2, .int v2)]) {q : ((Int32 × Int32 × XS) ⊕ ((Int32 × XS) ⊕ (XS)))} (h : f_X4_readText_L9_9 v1 v2 u0 = some q) (hB : ∀ (v1 : Int32) (v2 : Int32) (u : XS), q = .inl (v1, v2, u) → ∀ (H : Heap) (locs : List Loc) (ls : Array Slot), wg D A s.heap H locs (wX cI cZ cQ ad u) → lv_has ls 3 [(0, .ref (ad 33)), (1, .int v1), (2, .int v2)] → W p l e { frames := 8, cells := 0, slots := 0, locals := 174 } s m args below meth c H locs 0 0 Q (F0 m 9 ls [])) (hX : ∀ (u : XS), q = .inr (.inr u) → ∀ (H : Heap) (locs : List Loc) (ls : Array Slot), wg D A s.heap H locs (wX cI cZ cQ ad u) → lv_has ls 3 [(0, .ref (ad 33))] → W p l e { frames := 8, cells := 0, slots := 0, locals := 174 } s m args below meth c H locs 0 0 Q (F0 m 66 ls [])) (hR : ∀ (r : Int32) (u : XS), q = .inr (.inl (r, u)) → Q = (qI D A (wX cI cZ cQ ad) below args s r u)) : W p l e { frames := 8, cells := 0, slots := 0, locals := 174 } s m args below meth c H locs 0 0 Q (F0 m 9 ls []) := by
  unfold f_X4_readText_L9_9 at h
  obtain ⟨hx, hb, -⟩ := id X
  refine lv_iload_n hx hb dX4_readText_9 rfl (lv_at hl 2 rfl) ?_
  refine lv_bipush (v := 120) hx hb dX4_readText_10 (by decide) ?_
  refine lv_icmp_gt (tgt := 66) hx hb dX4_readText_12 (by decide) (fun c1 => ?_) (fun c1 => ?_)
  · have h := it_at c1 h
    exact hX _ (Option.some.inj h).symm _ _ _ G (lv_sub hl [0] rfl)
  · have h := if_at c1 h
    refine lv_aload_n hx hb dX4_readText_15 rfl (lv_at hl 0 rfl) ?_
    obtain ⟨r2, u3, er2, h⟩ := bnd_at h
    refine cvV (rest := []) X K G (c_X4_goOn er2) q_366 my_X4_goOn ⟨rfl, rfl⟩ ⟨Nat.le_of_ble_eq_true rfl, Nat.le_of_ble_eq_true rfl⟩ ⟨Nat.zero_le _, Nat.zero_le _⟩ 33 4 rfl rfl rfl rfl hl.1 rfl (Nat.le_of_ble_eq_true rfl) dX4_readText_16 (fun H locs G => ?_)
    clear er2
    refine lv_aload_n hx hb dX4_readText_19 rfl (lv_at hl 0 rfl) ?_
    obtain ⟨r4, u5, er4, h⟩ := bnd_at h
    refine cvI (rest := []) X K G (c_X4_readItem er4) q_378 my_X4_readItem ⟨rfl, rfl⟩ ⟨Nat.le_of_ble_eq_true rfl, Nat.le_of_ble_eq_true rfl⟩ ⟨Nat.zero_le _, Nat.zero_le _⟩ 33 4 rfl rfl rfl rfl hl.1 rfl (Nat.le_of_ble_eq_true rfl) dX4_readText_20 (fun H locs G => ?_)
    clear er4
    refine lv_if_ne (tgt := 33) hx hb dX4_readText_23 (by decide) (fun c6 => ?_) (fun c6 => ?_)
    · have h := if_at c6 h
      obtain ⟨x7, ex7⟩ : ∃ z : Int32, z = v1 + (1 : Int32) := ⟨_, rfl⟩
      have h := nm_at ex7 h
      refine lv_iinc (v := x7) (lv' := [(1, .int x7), (0, .ref (ad 33)), (2, .int v2)]) hx hb dX4_readText_33 hl (k := 1) rfl (by rw [ex7]; rfl) (by decide) rfl (fun ls hl => ?_)
      refine lv_aload_n hx hb dX4_readText_36 rfl (lv_at hl 1 rfl) ?_
      refine gX_33_2 X K G q_261 dX4_readText_37 ?_
      refine lv_if_ne (tgt := 45) hx hb dX4_readText_40 (by decide) (fun c8 => ?_) (fun c8 => ?_)
      · have h := if_at c8 h
        refine lv_aload_n hx hb dX4_readText_45 rfl (lv_at hl 1 rfl) ?_
        refine gX_33_2 X K G q_261 dX4_readText_46 ?_
        refine lv_iconst (v := 3) hx hb dX4_readText_49 (by decide) ?_
        refine lv_icmp_eq (tgt := 60) hx hb dX4_readText_50 (by decide) (fun c9 => ?_) (fun c9 => ?_)
        · have h := it_at c9 h
          obtain ⟨x10, ex10⟩ : ∃ z : Int32, z = v2 + (1 : Int32) := ⟨_, rfl⟩
          have h := nm_at ex10 h
          refine lv_iinc (v := x10) (lv' := [(2, .int x10), (1, .int x7), (0, .ref (ad 33))]) hx hb dX4_readText_60 hl (k := 2) rfl (by rw [ex10]; rfl) (by decide) rfl (fun ls hl => ?_)
          refine lv_goto (tgt := 9) hx hb dX4_readText_63 (by decide) ?_
          exact hB _ _ _ (Option.some.inj h).symm _ _ _ G (lv_sub hl [2, 1, 0] rfl)
        · have h := if_at c9 h
          refine lv_iconst (v := -1) hx hb dX4_readText_53 (by decide) ?_
          refine lv_aload_n hx hb dX4_readText_54 rfl (lv_at hl 1 rfl) ?_
          refine gX_33_3 X K G q_262 dX4_readText_55 ?_
          refine lv_isub hx hb dX4_readText_58 ?_
          rw [hR _ _ (Option.some.inj h).symm]
          exact reI X G dX4_readText_59
      · have h := it_at c8 h
        refine lv_iload_n hx hb dX4_readText_43 rfl (lv_at hl 0 rfl) ?_
        rw [hR _ _ (Option.some.inj h).symm]
        exact reI X G dX4_readText_44
    · have h := it_at c6 h
      refine lv_iconst (v := -1) hx hb dX4_readText_26 (by decide) ?_
      refine lv_aload_n hx hb dX4_readText_27 rfl (lv_at hl 0 rfl) ?_
      refine gX_33_3 X K G q_262 dX4_readText_28 ?_
      refine lv_isub hx hb dX4_readText_31 ?_
      rw [hR _ _ (Option.some.inj h).symm]
      exact reI X G dX4_readText_32
noncomputable def f_X4_readText_L9_9s (q : Int32 × Int32 × XS) : Option ((Int32 × Int32 × XS) ⊕ ((Int32 × XS) ⊕ (XS))) := f_X4_readText_L9_9 q.1 q.2.1 q.2.2
set_option maxRecDepth 100000 in
set_option maxHeartbeats 4000000 in
theorem w_X4_readText_L9_9 (X : cx p s m args meth c cX4_readText 3 RX4 (some .int)) (K : kx D cI cZ cQ adK adV A s s.heap) {e0 : (Int32 × XS) ⊕ (XS)} : ∀ (n : Nat) (v1 : Int32) (v2 : Int32) (u : XS) {H : Heap} {locs : List Loc} {ls : Array Slot}, wh f_X4_readText_L9_9s n (v1, v2, u) = some e0 → wg D A s.heap H locs (wX cI cZ cQ ad u) → lv_has ls 3 [(0, .ref (ad 33)), (1, .int v1), (2, .int v2)] → (∀ (u : XS), e0 = .inr u → ∀ (H : Heap) (locs : List Loc) (ls : Array Slot), wg D A s.heap H locs (wX cI cZ cQ ad u) → lv_has ls 3 [(0, .ref (ad 33))] → W p l e { frames := 8, cells := 0, slots := 0, locals := 174 } s m args below meth c H locs 0 0 Q (F0 m 66 ls [])) → (∀ (r : Int32) (u : XS), e0 = .inl (r, u) → Q = (qI D A (wX cI cZ cQ ad) below args s r u)) → W p l e { frames := 8, cells := 0, slots := 0, locals := 174 } s m args below meth c H locs 0 0 Q (F0 m 9 ls []) := by
  intro n
  induction n with
  | zero => intro v1 v2 u H locs ls h; cases h
  | succ n ih =>
    intro v1 v2 u H locs ls h G hl hX hR
    obtain ⟨q, h1, h2, h3⟩ := wh_at h
    exact b_X4_readText_L9_9 X K G hl (show f_X4_readText_L9_9 v1 v2 u = some q from h1) (fun b0 b1 b2 ee H locs ls G hl => ih b0 b1 b2 (h2 _ ee) G hl hX hR) (fun z0 ee => hX z0 (h3 _ ee).symm) (fun r u ee => hR r u (h3 _ ee).symm)
noncomputable def f_X4_readText (u0 : XS) : Option (Int32 × XS) :=
  nmv (sR u0 (ru_end (xR u0) (0 : Int32))) fun u1 =>
  bne (wl f_X4_readText_L9_9s ((0 : Int32), (0 : Int32), u1)) (fun a => some a) fun b =>
    nmv b fun u4 =>
    some ((-1 : Int32) - (r_start (xR u4)), u4)
set_option maxRecDepth 100000 in
set_option maxHeartbeats 4000000 in
theorem c_X4_readText {u0 : XS} {r : Int32} {u' : XS} (h : f_X4_readText  u0 = some (r, u')) : MI l D cI cZ cQ adK adV A yX4_readText cX4_readText 3 (some .int) { frames := 8, cells := 0, slots := 0, locals := 174 } [.ref (ad 33)] (wX cI cZ cQ ad) u0 r u' := by
  unfold f_X4_readText at h
  refine entI (by decide) (Nat.le_of_ble_eq_true rfl) (fun p e s m below meth c ls X K G hl => ?_)
  have hl : lv_has ls 3 [(0, .ref (ad 33))] := hl
  obtain ⟨hx, hb, -⟩ := id X
  generalize hH : s.heap = H at G
  subst hH
  refine lv_aload_n hx hb dX4_readText_0 rfl (lv_at hl 0 rfl) ?_
  refine lv_iconst (v := 0) hx hb dX4_readText_1 (by decide) ?_
  refine pX_33_4 X K G q_263 dX4_readText_2 (fun H locs G => ?_)
  obtain ⟨u1, eu1⟩ : ∃ z : XS, z = sR u0 (ru_end (xR u0) (0 : Int32)) := ⟨_, rfl⟩
  have G : wg D A s.heap H locs (wX cI cZ cQ ad u1) := by rw [eu1]; exact G
  have h := nm_at eu1 h
  clear eu1
  refine lv_iconst (v := 0) hx hb dX4_readText_5 (by decide) ?_
  refine lv_istore_n (lv' := [(1, .int (0 : Int32)), (0, .ref (ad 33))]) hx hb dX4_readText_6 rfl hl (by decide) rfl (fun ls hl => ?_)
  refine lv_iconst (v := 0) hx hb dX4_readText_7 (by decide) ?_
  refine lv_istore_n (lv' := [(2, .int (0 : Int32)), (1, .int (0 : Int32)), (0, .ref (ad 33))]) hx hb dX4_readText_8 rfl hl (by decide) rfl (fun ls hl => ?_)
  obtain ⟨q3, hq3, ha, hb1⟩ := bne_at h
  obtain ⟨n2, hn2⟩ := wl_iff.mp hq3
  refine w_X4_readText_L9_9 X K n2 _ _ _ hn2 G (lv_sub hl [2, 1, 0] rfl) (fun  u4 ee H locs ls G hl => ?_) (fun r u1 ee => by obtain ⟨rfl, rfl⟩ := pair_at (ha _ ee); rfl)
  have h := hb1 _ ee
  clear ee ha hb1 hq3 hn2
  have h := nm_at (x := u4) rfl h
  refine lv_iconst (v := -1) hx hb dX4_readText_66 (by decide) ?_
  refine lv_aload_n hx hb dX4_readText_67 rfl (lv_at hl 0 rfl) ?_
  refine gX_33_3 X K G q_262 dX4_readText_68 ?_
  refine lv_isub hx hb dX4_readText_71 ?_
  obtain ⟨rfl, rfl⟩ := pair_at h
  exact reI X G dX4_readText_72
noncomputable def f_X5_takeFrom_ts (u0 : XS) : Option (Int32 × XS) :=
  nmv (tRound (xS u0)) fun x1 =>
  nmv (sT u0 (uRound (xT u0) x1)) fun u2 =>
  nmv (tNear (xS u2)) fun x3 =>
  nmv (sT u2 (uNear (xT u2) x3)) fun u4 =>
  nmv (tZ (xS u4)) fun x5 =>
  nmv (sT u4 (uZ (xT u4) x5)) fun u6 =>
  nmv (tTools (xS u6)) fun x7 =>
  nmv (sT u6 (uTools (xT u6) x7)) fun u8 =>
  nmv (tThings (xS u8)) fun x9 =>
  nmv (sT u8 (uThings (xT u8) x9)) fun u10 =>
  nmv (tOrders (xS u10)) fun x11 =>
  nmv (sT u10 (uOrders (xT u10) x11)) fun u12 =>
  nmv (sT u12 (uDays (xT u12) (va_cpy (tDays (xS u12)) (tDays (xT u12)) (0 : Int32).toNatClampNeg (0 : Int32).toNatClampNeg (8 : Int32).toNatClampNeg))) fun u13 =>
  nmv (sT u13 (uKinds (xT u13) (va_cpy (tKinds (xS u13)) (tKinds (xT u13)) (0 : Int32).toNatClampNeg (0 : Int32).toNatClampNeg (8 : Int32).toNatClampNeg))) fun u14 =>
  nmv (sT u14 (uCounts (xT u14) (va_cpy (tCounts (xS u14)) (tCounts (xT u14)) (0 : Int32).toNatClampNeg (0 : Int32).toNatClampNeg (8 : Int32).toNatClampNeg))) fun u15 =>
  nmv (sT u15 (uNums (xT u15) (va_cpy (tNums (xS u15)) (tNums (xT u15)) (0 : Int32).toNatClampNeg (0 : Int32).toNatClampNeg (192 : Int32).toNatClampNeg))) fun u16 =>
  nmv (sT u16 (uOrd (xT u16) (va_cpy (tOrd (xS u16)) (tOrd (xT u16)) (0 : Int32).toNatClampNeg (0 : Int32).toNatClampNeg (15 : Int32).toNatClampNeg))) fun u17 =>
  nmv (sT u17 (uSpots (xT u17) (va_cpy (tSpots (xS u17)) (tSpots (xT u17)) (0 : Int32).toNatClampNeg (0 : Int32).toNatClampNeg (10 : Int32).toNatClampNeg))) fun u18 =>
  some ((0 : Int32), u18)
set_option maxRecDepth 100000 in
set_option maxHeartbeats 4000000 in
theorem c_X5_takeFrom_ts {u0 : XS} {r : Int32} {u' : XS} (h : f_X5_takeFrom_ts  u0 = some (r, u')) : MV l D cI cZ cQ adK adV A yX5_takeFrom cX5_takeFrom 2 { frames := 1, cells := 0, slots := 0, locals := 18 } [.ref (ad 1), .ref (ad 15)] (wX cI cZ cQ ad) u0 u' := by
  unfold f_X5_takeFrom_ts at h
  refine entV (by decide) (Nat.le_of_ble_eq_true rfl) (fun p e s m below meth c ls X K G hl => ?_)
  have hl : lv_has ls 2 [(0, .ref (ad 1)), (1, .ref (ad 15))] := hl
  obtain ⟨hx, hb, -⟩ := id X
  generalize hH : s.heap = H at G
  subst hH
  refine lv_aload_n hx hb dX5_takeFrom_0 rfl (lv_at hl 0 rfl) ?_
  refine lv_aload_n hx hb dX5_takeFrom_1 rfl (lv_at hl 1 rfl) ?_
  refine gX_15_0 X K G q_101 dX5_takeFrom_2 ?_
  refine lv_topi (fun x1 ex1 => ?_)
  have h := nm_at ex1 h
  refine pX_1_0 X K G q_101 dX5_takeFrom_5 (fun H locs G => ?_)
  obtain ⟨u2, eu2⟩ : ∃ z : XS, z = sT u0 (uRound (xT u0) x1) := ⟨_, rfl⟩
  have G : wg D A s.heap H locs (wX cI cZ cQ ad u2) := by rw [eu2]; exact G
  have h := nm_at eu2 h
  clear eu2
  refine lv_aload_n hx hb dX5_takeFrom_8 rfl (lv_at hl 0 rfl) ?_
  refine lv_aload_n hx hb dX5_takeFrom_9 rfl (lv_at hl 1 rfl) ?_
  refine gX_15_1 X K G q_106 dX5_takeFrom_10 ?_
  refine lv_topi (fun x3 ex3 => ?_)
  have h := nm_at ex3 h
  refine pX_1_1 X K G q_106 dX5_takeFrom_13 (fun H locs G => ?_)
  obtain ⟨u4, eu4⟩ : ∃ z : XS, z = sT u2 (uNear (xT u2) x3) := ⟨_, rfl⟩
  have G : wg D A s.heap H locs (wX cI cZ cQ ad u4) := by rw [eu4]; exact G
  have h := nm_at eu4 h
  clear eu4
  refine lv_aload_n hx hb dX5_takeFrom_16 rfl (lv_at hl 0 rfl) ?_
  refine lv_aload_n hx hb dX5_takeFrom_17 rfl (lv_at hl 1 rfl) ?_
  refine gX_15_2 X K G q_110 dX5_takeFrom_18 ?_
  refine lv_topi (fun x5 ex5 => ?_)
  have h := nm_at ex5 h
  refine pX_1_2 X K G q_110 dX5_takeFrom_21 (fun H locs G => ?_)
  obtain ⟨u6, eu6⟩ : ∃ z : XS, z = sT u4 (uZ (xT u4) x5) := ⟨_, rfl⟩
  have G : wg D A s.heap H locs (wX cI cZ cQ ad u6) := by rw [eu6]; exact G
  have h := nm_at eu6 h
  clear eu6
  refine lv_aload_n hx hb dX5_takeFrom_24 rfl (lv_at hl 0 rfl) ?_
  refine lv_aload_n hx hb dX5_takeFrom_25 rfl (lv_at hl 1 rfl) ?_
  refine gX_15_3 X K G q_112 dX5_takeFrom_26 ?_
  refine lv_topi (fun x7 ex7 => ?_)
  have h := nm_at ex7 h
  refine pX_1_3 X K G q_112 dX5_takeFrom_29 (fun H locs G => ?_)
  obtain ⟨u8, eu8⟩ : ∃ z : XS, z = sT u6 (uTools (xT u6) x7) := ⟨_, rfl⟩
  have G : wg D A s.heap H locs (wX cI cZ cQ ad u8) := by rw [eu8]; exact G
  have h := nm_at eu8 h
  clear eu8
  refine lv_aload_n hx hb dX5_takeFrom_32 rfl (lv_at hl 0 rfl) ?_
  refine lv_aload_n hx hb dX5_takeFrom_33 rfl (lv_at hl 1 rfl) ?_
  refine gX_15_4 X K G q_115 dX5_takeFrom_34 ?_
  refine lv_topi (fun x9 ex9 => ?_)
  have h := nm_at ex9 h
  refine pX_1_4 X K G q_115 dX5_takeFrom_37 (fun H locs G => ?_)
  obtain ⟨u10, eu10⟩ : ∃ z : XS, z = sT u8 (uThings (xT u8) x9) := ⟨_, rfl⟩
  have G : wg D A s.heap H locs (wX cI cZ cQ ad u10) := by rw [eu10]; exact G
  have h := nm_at eu10 h
  clear eu10
  refine lv_aload_n hx hb dX5_takeFrom_40 rfl (lv_at hl 0 rfl) ?_
  refine lv_aload_n hx hb dX5_takeFrom_41 rfl (lv_at hl 1 rfl) ?_
  refine gX_15_5 X K G q_118 dX5_takeFrom_42 ?_
  refine lv_topi (fun x11 ex11 => ?_)
  have h := nm_at ex11 h
  refine pX_1_5 X K G q_118 dX5_takeFrom_45 (fun H locs G => ?_)
  obtain ⟨u12, eu12⟩ : ∃ z : XS, z = sT u10 (uOrders (xT u10) x11) := ⟨_, rfl⟩
  have G : wg D A s.heap H locs (wX cI cZ cQ ad u12) := by rw [eu12]; exact G
  have h := nm_at eu12 h
  clear eu12
  refine lv_aload_n hx hb dX5_takeFrom_48 rfl (lv_at hl 1 rfl) ?_
  refine gX_15_6 X K G q_122 dX5_takeFrom_49 ?_
  refine lv_iconst (v := 0) hx hb dX5_takeFrom_52 (by decide) ?_
  refine lv_aload_n hx hb dX5_takeFrom_53 rfl (lv_at hl 0 rfl) ?_
  refine gX_1_6 X K G q_122 dX5_takeFrom_54 ?_
  refine lv_iconst (v := 0) hx hb dX5_takeFrom_57 (by decide) ?_
  refine lv_bipush (v := 8) hx hb dX5_takeFrom_58 (by decide) ?_
  refine gcpy X K G hl.1 q_359 16 2 rfl rfl cp_w (by decide) (Nat.le_of_ble_eq_true rfl) (Nat.le_of_ble_eq_true rfl) rfl dX5_takeFrom_60 (fun H locs G => ?_)
  obtain ⟨u13, eu13⟩ : ∃ z : XS, z = sT u12 (uDays (xT u12) (va_cpy (tDays (xS u12)) (tDays (xT u12)) (0 : Int32).toNatClampNeg (0 : Int32).toNatClampNeg (8 : Int32).toNatClampNeg)) := ⟨_, rfl⟩
  have G : wg D A s.heap H locs (wX cI cZ cQ ad u13) := by rw [eu13]; exact G
  have h := nm_at eu13 h
  clear eu13
  refine lv_aload_n hx hb dX5_takeFrom_63 rfl (lv_at hl 1 rfl) ?_
  refine gX_15_7 X K G q_125 dX5_takeFrom_64 ?_
  refine lv_iconst (v := 0) hx hb dX5_takeFrom_67 (by decide) ?_
  refine lv_aload_n hx hb dX5_takeFrom_68 rfl (lv_at hl 0 rfl) ?_
  refine gX_1_7 X K G q_125 dX5_takeFrom_69 ?_
  refine lv_iconst (v := 0) hx hb dX5_takeFrom_72 (by decide) ?_
  refine lv_bipush (v := 8) hx hb dX5_takeFrom_73 (by decide) ?_
  refine gcpy X K G hl.1 q_359 17 3 rfl rfl cp_w (by decide) (Nat.le_of_ble_eq_true rfl) (Nat.le_of_ble_eq_true rfl) rfl dX5_takeFrom_75 (fun H locs G => ?_)
  obtain ⟨u14, eu14⟩ : ∃ z : XS, z = sT u13 (uKinds (xT u13) (va_cpy (tKinds (xS u13)) (tKinds (xT u13)) (0 : Int32).toNatClampNeg (0 : Int32).toNatClampNeg (8 : Int32).toNatClampNeg)) := ⟨_, rfl⟩
  have G : wg D A s.heap H locs (wX cI cZ cQ ad u14) := by rw [eu14]; exact G
  have h := nm_at eu14 h
  clear eu14
  refine lv_aload_n hx hb dX5_takeFrom_78 rfl (lv_at hl 1 rfl) ?_
  refine gX_15_8 X K G q_128 dX5_takeFrom_79 ?_
  refine lv_iconst (v := 0) hx hb dX5_takeFrom_82 (by decide) ?_
  refine lv_aload_n hx hb dX5_takeFrom_83 rfl (lv_at hl 0 rfl) ?_
  refine gX_1_8 X K G q_128 dX5_takeFrom_84 ?_
  refine lv_iconst (v := 0) hx hb dX5_takeFrom_87 (by decide) ?_
  refine lv_bipush (v := 8) hx hb dX5_takeFrom_88 (by decide) ?_
  refine gcpy X K G hl.1 q_359 18 4 rfl rfl cp_w (by decide) (Nat.le_of_ble_eq_true rfl) (Nat.le_of_ble_eq_true rfl) rfl dX5_takeFrom_90 (fun H locs G => ?_)
  obtain ⟨u15, eu15⟩ : ∃ z : XS, z = sT u14 (uCounts (xT u14) (va_cpy (tCounts (xS u14)) (tCounts (xT u14)) (0 : Int32).toNatClampNeg (0 : Int32).toNatClampNeg (8 : Int32).toNatClampNeg)) := ⟨_, rfl⟩
  have G : wg D A s.heap H locs (wX cI cZ cQ ad u15) := by rw [eu15]; exact G
  have h := nm_at eu15 h
  clear eu15
  refine lv_aload_n hx hb dX5_takeFrom_93 rfl (lv_at hl 1 rfl) ?_
  refine gX_15_9 X K G q_132 dX5_takeFrom_94 ?_
  refine lv_iconst (v := 0) hx hb dX5_takeFrom_97 (by decide) ?_
  refine lv_aload_n hx hb dX5_takeFrom_98 rfl (lv_at hl 0 rfl) ?_
  refine gX_1_9 X K G q_132 dX5_takeFrom_99 ?_
  refine lv_iconst (v := 0) hx hb dX5_takeFrom_102 (by decide) ?_
  refine lv_sipush (v := 192) hx hb dX5_takeFrom_103 (by decide) ?_
  refine gcpy X K G hl.1 q_359 19 5 rfl rfl cp_w (by decide) (Nat.le_of_ble_eq_true rfl) (Nat.le_of_ble_eq_true rfl) rfl dX5_takeFrom_106 (fun H locs G => ?_)
  obtain ⟨u16, eu16⟩ : ∃ z : XS, z = sT u15 (uNums (xT u15) (va_cpy (tNums (xS u15)) (tNums (xT u15)) (0 : Int32).toNatClampNeg (0 : Int32).toNatClampNeg (192 : Int32).toNatClampNeg)) := ⟨_, rfl⟩
  have G : wg D A s.heap H locs (wX cI cZ cQ ad u16) := by rw [eu16]; exact G
  have h := nm_at eu16 h
  clear eu16
  refine lv_aload_n hx hb dX5_takeFrom_109 rfl (lv_at hl 1 rfl) ?_
  refine gX_15_10 X K G q_133 dX5_takeFrom_110 ?_
  refine lv_iconst (v := 0) hx hb dX5_takeFrom_113 (by decide) ?_
  refine lv_aload_n hx hb dX5_takeFrom_114 rfl (lv_at hl 0 rfl) ?_
  refine gX_1_10 X K G q_133 dX5_takeFrom_115 ?_
  refine lv_iconst (v := 0) hx hb dX5_takeFrom_118 (by decide) ?_
  refine lv_bipush (v := 15) hx hb dX5_takeFrom_119 (by decide) ?_
  refine gcpy X K G hl.1 q_359 20 6 rfl rfl cp_w (by decide) (Nat.le_of_ble_eq_true rfl) (Nat.le_of_ble_eq_true rfl) rfl dX5_takeFrom_121 (fun H locs G => ?_)
  obtain ⟨u17, eu17⟩ : ∃ z : XS, z = sT u16 (uOrd (xT u16) (va_cpy (tOrd (xS u16)) (tOrd (xT u16)) (0 : Int32).toNatClampNeg (0 : Int32).toNatClampNeg (15 : Int32).toNatClampNeg)) := ⟨_, rfl⟩
  have G : wg D A s.heap H locs (wX cI cZ cQ ad u17) := by rw [eu17]; exact G
  have h := nm_at eu17 h
  clear eu17
  refine lv_aload_n hx hb dX5_takeFrom_124 rfl (lv_at hl 1 rfl) ?_
  refine gX_15_11 X K G q_134 dX5_takeFrom_125 ?_
  refine lv_iconst (v := 0) hx hb dX5_takeFrom_128 (by decide) ?_
  refine lv_aload_n hx hb dX5_takeFrom_129 rfl (lv_at hl 0 rfl) ?_
  refine gX_1_11 X K G q_134 dX5_takeFrom_130 ?_
  refine lv_iconst (v := 0) hx hb dX5_takeFrom_133 (by decide) ?_
  refine lv_bipush (v := 10) hx hb dX5_takeFrom_134 (by decide) ?_
  refine gcpy X K G hl.1 q_359 21 7 rfl rfl cp_w (by decide) (Nat.le_of_ble_eq_true rfl) (Nat.le_of_ble_eq_true rfl) rfl dX5_takeFrom_136 (fun H locs G => ?_)
  obtain ⟨u18, eu18⟩ : ∃ z : XS, z = sT u17 (uSpots (xT u17) (va_cpy (tSpots (xS u17)) (tSpots (xT u17)) (0 : Int32).toNatClampNeg (0 : Int32).toNatClampNeg (10 : Int32).toNatClampNeg)) := ⟨_, rfl⟩
  have G : wg D A s.heap H locs (wX cI cZ cQ ad u18) := by rw [eu18]; exact G
  have h := nm_at eu18 h
  clear eu18
  obtain ⟨rfl, rfl⟩ := pair_at h
  exact reV X G dX5_takeFrom_139
noncomputable def f_X6_town (u0 : XS) : Option (Int32 × XS) :=
  bnd (f_X5_takeFrom_st  u0) fun r1 u2 =>
  bnd (f_X4_readText  u2) fun r3 u4 =>
  (if 0 ≤ r3 then
    nmv (sP u4 ((xP u4).1, (0 : Int32))) fun u6 =>
    some (r3, u6)
  else
    bnd (f_X5_takeFrom_ts  u4) fun r7 u8 =>
    nmv (sP u8 ((xP u8).1, (0 : Int32))) fun u9 =>
    some (r3, u9))
set_option maxRecDepth 100000 in
set_option maxHeartbeats 4000000 in
theorem c_X6_town {u0 : XS} {r : Int32} {u' : XS} (h : f_X6_town  u0 = some (r, u')) : MI l D cI cZ cQ adK adV A yX6_town cX6_town 2 (some .int) { frames := 9, cells := 0, slots := 0, locals := 196 } [.ref (ad 0)] (wX cI cZ cQ ad) u0 r u' := by
  unfold f_X6_town at h
  refine entI (by decide) (Nat.le_of_ble_eq_true rfl) (fun p e s m below meth c ls X K G hl => ?_)
  have hl : lv_has ls 2 [(0, .ref (ad 0))] := hl
  obtain ⟨hx, hb, -⟩ := id X
  generalize hH : s.heap = H at G
  subst hH
  refine lv_aload_n hx hb dX6_town_0 rfl (lv_at hl 0 rfl) ?_
  refine gX_0_2 X K G q_302 dX6_town_1 ?_
  refine lv_aload_n hx hb dX6_town_4 rfl (lv_at hl 0 rfl) ?_
  refine gX_0_0 X K G q_300 dX6_town_5 ?_
  obtain ⟨r1, u2, er1, h⟩ := bnd_at h
  refine cvV (rest := []) X K G (c_X5_takeFrom_st er1) q_355 my_X5_takeFrom ⟨rfl, rfl⟩ ⟨Nat.le_of_ble_eq_true rfl, Nat.le_of_ble_eq_true rfl⟩ ⟨Nat.zero_le _, Nat.zero_le _⟩ 15 5 rfl rfl rfl rfl hl.1 rfl (Nat.le_of_ble_eq_true rfl) dX6_town_8 (fun H locs G => ?_)
  clear er1
  refine lv_aload_n hx hb dX6_town_11 rfl (lv_at hl 0 rfl) ?_
  refine gX_0_6 X K G q_306 dX6_town_12 ?_
  obtain ⟨r3, u4, er3, h⟩ := bnd_at h
  refine cvI (rest := []) X K G (c_X4_readText er3) q_362 my_X4_readText ⟨rfl, rfl⟩ ⟨Nat.le_of_ble_eq_true rfl, Nat.le_of_ble_eq_true rfl⟩ ⟨Nat.zero_le _, Nat.zero_le _⟩ 33 4 rfl rfl rfl rfl hl.1 rfl (Nat.le_of_ble_eq_true rfl) dX6_town_15 (fun H locs G => ?_)
  clear er3
  refine lv_istore_n (lv' := [(1, .int r3), (0, .ref (ad 0))]) hx hb dX6_town_18 rfl hl (by decide) rfl (fun ls hl => ?_)
  refine lv_iload_n hx hb dX6_town_19 rfl (lv_at hl 0 rfl) ?_
  refine lv_if_ge (tgt := 34) hx hb dX6_town_20 (by decide) (fun c5 => ?_) (fun c5 => ?_)
  · have h := it_at c5 h
    refine lv_aload_n hx hb dX6_town_34 rfl (lv_at hl 1 rfl) ?_
    refine gX_0_3 X K G q_303 dX6_town_35 ?_
    refine lv_iconst (v := 0) hx hb dX6_town_38 (by decide) ?_
    refine pX_22_1 X K G q_171 dX6_town_39 (fun H locs G => ?_)
    obtain ⟨u6, eu6⟩ : ∃ z : XS, z = sP u4 ((xP u4).1, (0 : Int32)) := ⟨_, rfl⟩
    have G : wg D A s.heap H locs (wX cI cZ cQ ad u6) := by rw [eu6]; exact G
    have h := nm_at eu6 h
    clear eu6
    refine lv_iload_n hx hb dX6_town_42 rfl (lv_at hl 0 rfl) ?_
    obtain ⟨rfl, rfl⟩ := pair_at h
    exact reI X G dX6_town_43
  · have h := if_at c5 h
    refine lv_aload_n hx hb dX6_town_23 rfl (lv_at hl 1 rfl) ?_
    refine gX_0_0 X K G q_300 dX6_town_24 ?_
    refine lv_aload_n hx hb dX6_town_27 rfl (lv_at hl 1 rfl) ?_
    refine gX_0_2 X K G q_302 dX6_town_28 ?_
    obtain ⟨r7, u8, er7, h⟩ := bnd_at h
    refine cvV (rest := []) X K G (c_X5_takeFrom_ts er7) q_355 my_X5_takeFrom ⟨rfl, rfl⟩ ⟨Nat.le_of_ble_eq_true rfl, Nat.le_of_ble_eq_true rfl⟩ ⟨Nat.zero_le _, Nat.zero_le _⟩ 1 5 rfl rfl rfl rfl hl.1 rfl (Nat.le_of_ble_eq_true rfl) dX6_town_31 (fun H locs G => ?_)
    clear er7
    refine lv_aload_n hx hb dX6_town_34 rfl (lv_at hl 1 rfl) ?_
    refine gX_0_3 X K G q_303 dX6_town_35 ?_
    refine lv_iconst (v := 0) hx hb dX6_town_38 (by decide) ?_
    refine pX_22_1 X K G q_171 dX6_town_39 (fun H locs G => ?_)
    obtain ⟨u9, eu9⟩ : ∃ z : XS, z = sP u8 ((xP u8).1, (0 : Int32)) := ⟨_, rfl⟩
    have G : wg D A s.heap H locs (wX cI cZ cQ ad u9) := by rw [eu9]; exact G
    have h := nm_at eu9 h
    clear eu9
    refine lv_iload_n hx hb dX6_town_42 rfl (lv_at hl 0 rfl) ?_
    obtain ⟨rfl, rfl⟩ := pair_at h
    exact reI X G dX6_town_43
noncomputable def f_X6_round (a1 : Int32) (u0 : XS) : Option (Int32 × XS) :=
  bnd (f_X6_within a1 (1 : Int32) (12 : Int32) u0) fun r1 u2 =>
  (if r1 = 0 then
    bnd (f_X6_found (0 : Int32) u2) fun r6 u7 =>
    some (r6, u7)
  else
    nmv (tRound (xT u2)) fun x4 =>
    nmv (sT u2 (uRound (xT u2) a1)) fun u5 =>
    some (x4, u5))
set_option maxRecDepth 100000 in
set_option maxHeartbeats 4000000 in
theorem c_X6_round {a1 : Int32} {u0 : XS} {r : Int32} {u' : XS} (h : f_X6_round a1 u0 = some (r, u')) : MI l D cI cZ cQ adK adV A yX6_round cX6_round 3 (some .int) { frames := 2, cells := 0, slots := 0, locals := 43 } [.ref (ad 0), .int a1] (wX cI cZ cQ ad) u0 r u' := by
  unfold f_X6_round at h
  refine entI (by decide) (Nat.le_of_ble_eq_true rfl) (fun p e s m below meth c ls X K G hl => ?_)
  have hl : lv_has ls 3 [(0, .ref (ad 0)), (1, .int a1)] := hl
  obtain ⟨hx, hb, -⟩ := id X
  generalize hH : s.heap = H at G
  subst hH
  refine lv_iload_n hx hb dX6_round_0 rfl (lv_at hl 1 rfl) ?_
  refine lv_iconst (v := 1) hx hb dX6_round_1 (by decide) ?_
  refine lv_bipush (v := 12) hx hb dX6_round_2 (by decide) ?_
  obtain ⟨r1, u2, er1, h⟩ := bnd_at h
  refine csI (rest := []) X K G (c_X6_within er1) q_335 my_X6_within ⟨rfl, rfl⟩ ⟨Nat.le_of_ble_eq_true rfl, Nat.le_of_ble_eq_true rfl⟩ ⟨Nat.zero_le _, Nat.zero_le _⟩ rfl hl.1 rfl (Nat.le_of_ble_eq_true rfl) dX6_round_4 (fun H locs G => ?_)
  clear er1
  refine lv_if_ne (tgt := 16) hx hb dX6_round_7 (by decide) (fun c3 => ?_) (fun c3 => ?_)
  · have h := if_at c3 h
    refine lv_aload_n hx hb dX6_round_16 rfl (lv_at hl 0 rfl) ?_
    refine gX_0_0 X K G q_300 dX6_round_17 ?_
    refine gX_1_0 X K G q_105 dX6_round_20 ?_
    refine lv_topi (fun x4 ex4 => ?_)
    have h := nm_at ex4 h
    refine lv_istore_n (lv' := [(2, .int x4), (0, .ref (ad 0)), (1, .int a1)]) hx hb dX6_round_23 rfl hl (by decide) rfl (fun ls hl => ?_)
    refine lv_aload_n hx hb dX6_round_24 rfl (lv_at hl 1 rfl) ?_
    refine gX_0_0 X K G q_300 dX6_round_25 ?_
    refine lv_iload_n hx hb dX6_round_28 rfl (lv_at hl 2 rfl) ?_
    refine pX_1_0 X K G q_105 dX6_round_29 (fun H locs G => ?_)
    obtain ⟨u5, eu5⟩ : ∃ z : XS, z = sT u2 (uRound (xT u2) a1) := ⟨_, rfl⟩
    have G : wg D A s.heap H locs (wX cI cZ cQ ad u5) := by rw [eu5]; exact G
    have h := nm_at eu5 h
    clear eu5
    refine lv_iload_n hx hb dX6_round_32 rfl (lv_at hl 0 rfl) ?_
    obtain ⟨rfl, rfl⟩ := pair_at h
    exact reI X G dX6_round_33
  · have h := it_at c3 h
    refine lv_aload_n hx hb dX6_round_10 rfl (lv_at hl 0 rfl) ?_
    refine lv_iconst (v := 0) hx hb dX6_round_11 (by decide) ?_
    obtain ⟨r6, u7, er6, h⟩ := bnd_at h
    refine cvI (rest := []) X K G (c_X6_found er6) q_338 my_X6_found ⟨rfl, rfl⟩ ⟨Nat.le_of_ble_eq_true rfl, Nat.le_of_ble_eq_true rfl⟩ ⟨Nat.zero_le _, Nat.zero_le _⟩ 0 6 rfl rfl rfl rfl hl.1 rfl (Nat.le_of_ble_eq_true rfl) dX6_round_12 (fun H locs G => ?_)
    clear er6
    obtain ⟨rfl, rfl⟩ := pair_at h
    exact reI X G dX6_round_15
noncomputable def f_X6_near (a1 : Int32) (u0 : XS) : Option (Int32 × XS) :=
  bnd (f_X6_within a1 (-1 : Int32) (11 : Int32) u0) fun r1 u2 =>
  (if r1 = 0 then
    bnd (f_X6_found (0 : Int32) u2) fun r6 u7 =>
    some (r6, u7)
  else
    nmv (tNear (xT u2)) fun x4 =>
    nmv (sT u2 (uNear (xT u2) a1)) fun u5 =>
    some (x4, u5))
set_option maxRecDepth 100000 in
set_option maxHeartbeats 4000000 in
theorem c_X6_near {a1 : Int32} {u0 : XS} {r : Int32} {u' : XS} (h : f_X6_near a1 u0 = some (r, u')) : MI l D cI cZ cQ adK adV A yX6_near cX6_near 3 (some .int) { frames := 2, cells := 0, slots := 0, locals := 43 } [.ref (ad 0), .int a1] (wX cI cZ cQ ad) u0 r u' := by
  unfold f_X6_near at h
  refine entI (by decide) (Nat.le_of_ble_eq_true rfl) (fun p e s m below meth c ls X K G hl => ?_)
  have hl : lv_has ls 3 [(0, .ref (ad 0)), (1, .int a1)] := hl
  obtain ⟨hx, hb, -⟩ := id X
  generalize hH : s.heap = H at G
  subst hH
  refine lv_iload_n hx hb dX6_near_0 rfl (lv_at hl 1 rfl) ?_
  refine lv_iconst (v := -1) hx hb dX6_near_1 (by decide) ?_
  refine lv_bipush (v := 11) hx hb dX6_near_2 (by decide) ?_
  obtain ⟨r1, u2, er1, h⟩ := bnd_at h
  refine csI (rest := []) X K G (c_X6_within er1) q_335 my_X6_within ⟨rfl, rfl⟩ ⟨Nat.le_of_ble_eq_true rfl, Nat.le_of_ble_eq_true rfl⟩ ⟨Nat.zero_le _, Nat.zero_le _⟩ rfl hl.1 rfl (Nat.le_of_ble_eq_true rfl) dX6_near_4 (fun H locs G => ?_)
  clear er1
  refine lv_if_ne (tgt := 16) hx hb dX6_near_7 (by decide) (fun c3 => ?_) (fun c3 => ?_)
  · have h := if_at c3 h
    refine lv_aload_n hx hb dX6_near_16 rfl (lv_at hl 0 rfl) ?_
    refine gX_0_0 X K G q_300 dX6_near_17 ?_
    refine gX_1_1 X K G q_109 dX6_near_20 ?_
    refine lv_topi (fun x4 ex4 => ?_)
    have h := nm_at ex4 h
    refine lv_istore_n (lv' := [(2, .int x4), (0, .ref (ad 0)), (1, .int a1)]) hx hb dX6_near_23 rfl hl (by decide) rfl (fun ls hl => ?_)
    refine lv_aload_n hx hb dX6_near_24 rfl (lv_at hl 1 rfl) ?_
    refine gX_0_0 X K G q_300 dX6_near_25 ?_
    refine lv_iload_n hx hb dX6_near_28 rfl (lv_at hl 2 rfl) ?_
    refine pX_1_1 X K G q_109 dX6_near_29 (fun H locs G => ?_)
    obtain ⟨u5, eu5⟩ : ∃ z : XS, z = sT u2 (uNear (xT u2) a1) := ⟨_, rfl⟩
    have G : wg D A s.heap H locs (wX cI cZ cQ ad u5) := by rw [eu5]; exact G
    have h := nm_at eu5 h
    clear eu5
    refine lv_iload_n hx hb dX6_near_32 rfl (lv_at hl 0 rfl) ?_
    obtain ⟨rfl, rfl⟩ := pair_at h
    exact reI X G dX6_near_33
  · have h := it_at c3 h
    refine lv_aload_n hx hb dX6_near_10 rfl (lv_at hl 0 rfl) ?_
    refine lv_iconst (v := 0) hx hb dX6_near_11 (by decide) ?_
    obtain ⟨r6, u7, er6, h⟩ := bnd_at h
    refine cvI (rest := []) X K G (c_X6_found er6) q_338 my_X6_found ⟨rfl, rfl⟩ ⟨Nat.le_of_ble_eq_true rfl, Nat.le_of_ble_eq_true rfl⟩ ⟨Nat.zero_le _, Nat.zero_le _⟩ 0 6 rfl rfl rfl rfl hl.1 rfl (Nat.le_of_ble_eq_true rfl) dX6_near_12 (fun H locs G => ?_)
    clear er6
    obtain ⟨rfl, rfl⟩ := pair_at h
    exact reI X G dX6_near_15
noncomputable def f_X6_tool (a1 : Int32) (u0 : XS) : Option (Int32 × XS) :=
  bnd (f_X6_within a1 (0 : Int32) (4095 : Int32) u0) fun r1 u2 =>
  (if r1 = 0 then
    bnd (f_X6_found (0 : Int32) u2) fun r9 u10 =>
    some (r9, u10)
  else
    (if (tTools (xT u2)) < (8 : Int32) then
      bnd (f_X5_addTool a1 u2) fun r5 u6 =>
      some (r5, u6)
    else
      bnd (f_X6_found (1 : Int32) u2) fun r7 u8 =>
      some (r7, u8)))
set_option maxRecDepth 100000 in
set_option maxHeartbeats 4000000 in
theorem c_X6_tool {a1 : Int32} {u0 : XS} {r : Int32} {u' : XS} (h : f_X6_tool a1 u0 = some (r, u')) : MI l D cI cZ cQ adK adV A yX6_tool cX6_tool 2 (some .int) { frames := 2, cells := 0, slots := 0, locals := 43 } [.ref (ad 0), .int a1] (wX cI cZ cQ ad) u0 r u' := by
  unfold f_X6_tool at h
  refine entI (by decide) (Nat.le_of_ble_eq_true rfl) (fun p e s m below meth c ls X K G hl => ?_)
  have hl : lv_has ls 2 [(0, .ref (ad 0)), (1, .int a1)] := hl
  obtain ⟨hx, hb, -⟩ := id X
  generalize hH : s.heap = H at G
  subst hH
  refine lv_iload_n hx hb dX6_tool_0 rfl (lv_at hl 1 rfl) ?_
  refine lv_iconst (v := 0) hx hb dX6_tool_1 (by decide) ?_
  refine lv_sipush (v := 4095) hx hb dX6_tool_2 (by decide) ?_
  obtain ⟨r1, u2, er1, h⟩ := bnd_at h
  refine csI (rest := []) X K G (c_X6_within er1) q_335 my_X6_within ⟨rfl, rfl⟩ ⟨Nat.le_of_ble_eq_true rfl, Nat.le_of_ble_eq_true rfl⟩ ⟨Nat.zero_le _, Nat.zero_le _⟩ rfl hl.1 rfl (Nat.le_of_ble_eq_true rfl) dX6_tool_5 (fun H locs G => ?_)
  clear er1
  refine lv_if_ne (tgt := 17) hx hb dX6_tool_8 (by decide) (fun c3 => ?_) (fun c3 => ?_)
  · have h := if_at c3 h
    refine lv_aload_n hx hb dX6_tool_17 rfl (lv_at hl 0 rfl) ?_
    refine gX_0_0 X K G q_300 dX6_tool_18 ?_
    refine gX_1_3 X K G q_114 dX6_tool_21 ?_
    refine lv_bipush (v := 8) hx hb dX6_tool_24 (by decide) ?_
    refine lv_icmp_lt (tgt := 35) hx hb dX6_tool_26 (by decide) (fun c4 => ?_) (fun c4 => ?_)
    · have h := it_at c4 h
      refine lv_aload_n hx hb dX6_tool_35 rfl (lv_at hl 0 rfl) ?_
      refine gX_0_0 X K G q_300 dX6_tool_36 ?_
      refine lv_iload_n hx hb dX6_tool_39 rfl (lv_at hl 1 rfl) ?_
      obtain ⟨r5, u6, er5, h⟩ := bnd_at h
      refine cvI (rest := []) X K G (c_X5_addTool er5) q_526 my_X5_addTool ⟨rfl, rfl⟩ ⟨Nat.le_of_ble_eq_true rfl, Nat.le_of_ble_eq_true rfl⟩ ⟨Nat.zero_le _, Nat.zero_le _⟩ 1 5 rfl rfl rfl rfl hl.1 rfl (Nat.le_of_ble_eq_true rfl) dX6_tool_40 (fun H locs G => ?_)
      clear er5
      obtain ⟨rfl, rfl⟩ := pair_at h
      exact reI X G dX6_tool_43
    · have h := if_at c4 h
      refine lv_aload_n hx hb dX6_tool_29 rfl (lv_at hl 0 rfl) ?_
      refine lv_iconst (v := 1) hx hb dX6_tool_30 (by decide) ?_
      obtain ⟨r7, u8, er7, h⟩ := bnd_at h
      refine cvI (rest := []) X K G (c_X6_found er7) q_338 my_X6_found ⟨rfl, rfl⟩ ⟨Nat.le_of_ble_eq_true rfl, Nat.le_of_ble_eq_true rfl⟩ ⟨Nat.zero_le _, Nat.zero_le _⟩ 0 6 rfl rfl rfl rfl hl.1 rfl (Nat.le_of_ble_eq_true rfl) dX6_tool_31 (fun H locs G => ?_)
      clear er7
      obtain ⟨rfl, rfl⟩ := pair_at h
      exact reI X G dX6_tool_34
  · have h := it_at c3 h
    refine lv_aload_n hx hb dX6_tool_11 rfl (lv_at hl 0 rfl) ?_
    refine lv_iconst (v := 0) hx hb dX6_tool_12 (by decide) ?_
    obtain ⟨r9, u10, er9, h⟩ := bnd_at h
    refine cvI (rest := []) X K G (c_X6_found er9) q_338 my_X6_found ⟨rfl, rfl⟩ ⟨Nat.le_of_ble_eq_true rfl, Nat.le_of_ble_eq_true rfl⟩ ⟨Nat.zero_le _, Nat.zero_le _⟩ 0 6 rfl rfl rfl rfl hl.1 rfl (Nat.le_of_ble_eq_true rfl) dX6_tool_13 (fun H locs G => ?_)
    clear er9
    obtain ⟨rfl, rfl⟩ := pair_at h
    exact reI X G dX6_tool_16
noncomputable def f_X5_hasTool (a1 : Int32) (u0 : XS) : Option (Int32 × XS) :=
  bnd (f_X6_within a1 (0 : Int32) ((tTools (xT u0)) - (1 : Int32)) u0) fun r1 u2 =>
  if ¬ (r1 = 0 ∨ r1 = 1) then none else
  some (r1, u2)
set_option maxRecDepth 100000 in
set_option maxHeartbeats 4000000 in
theorem c_X5_hasTool {a1 : Int32} {u0 : XS} {r : Int32} {u' : XS} (h : f_X5_hasTool a1 u0 = some (r, u')) : MI l D cI cZ cQ adK adV A yX5_hasTool cX5_hasTool 2 (some .boolean) { frames := 1, cells := 0, slots := 0, locals := 22 } [.ref (ad 1), .int a1] (wX cI cZ cQ ad) u0 r u' := by
  unfold f_X5_hasTool at h
  refine entI (by decide) (Nat.le_of_ble_eq_true rfl) (fun p e s m below meth c ls X K G hl => ?_)
  have hl : lv_has ls 2 [(0, .ref (ad 1)), (1, .int a1)] := hl
  obtain ⟨hx, hb, -⟩ := id X
  generalize hH : s.heap = H at G
  subst hH
  refine lv_iload_n hx hb dX5_hasTool_0 rfl (lv_at hl 1 rfl) ?_
  refine lv_iconst (v := 0) hx hb dX5_hasTool_1 (by decide) ?_
  refine lv_aload_n hx hb dX5_hasTool_2 rfl (lv_at hl 0 rfl) ?_
  refine gX_1_3 X K G q_112 dX5_hasTool_3 ?_
  refine lv_iconst (v := 1) hx hb dX5_hasTool_6 (by decide) ?_
  refine lv_isub hx hb dX5_hasTool_7 ?_
  obtain ⟨r1, u2, er1, h⟩ := bnd_at h
  refine cnI (rest := []) X K G (c_X6_within er1) K.2.1.2.1 my_X6_within ⟨rfl, rfl⟩ ⟨Nat.le_of_ble_eq_true rfl, Nat.le_of_ble_eq_true rfl⟩ ⟨Nat.zero_le _, Nat.zero_le _⟩ rfl hl.1 rfl (Nat.le_of_ble_eq_true rfl) dX5_hasTool_8 (fun H locs G => ?_)
  clear er1
  obtain ⟨g3, h⟩ := ck_at h
  obtain ⟨rfl, rfl⟩ := pair_at h
  exact reZ X G (Decidable.not_not.mp g3) dX5_hasTool_11
noncomputable def f_X6_days (a1 : Int32) (a2 : Int32) (u0 : XS) : Option (Int32 × XS) :=
  bnd (f_X5_hasTool a1 u0) fun r1 u2 =>
  (if r1 = 0 then
    bnd (f_X6_found (0 : Int32) u2) fun r4 u5 =>
    some (r4, u5)
  else
    bnd (f_X6_within a2 (0 : Int32) (4095 : Int32) u2) fun r6 u7 =>
    (if r6 = 0 then
      bnd (f_X6_found (0 : Int32) u7) fun r13 u14 =>
      some (r13, u14)
    else
      if a1 < 0 ∨ 8 ≤ a1.toNatClampNeg then none else
      nmv ((tDays (xT u7)) a1.toNatClampNeg) fun x10 =>
      if a1 < 0 ∨ 8 ≤ a1.toNatClampNeg then none else
      nmv (sT u7 (uDays (xT u7) (upd (tDays (xT u7)) a1.toNatClampNeg a2))) fun u12 =>
      some (x10, u12)))
set_option maxRecDepth 100000 in
set_option maxHeartbeats 4000000 in
theorem c_X6_days {a1 : Int32} {a2 : Int32} {u0 : XS} {r : Int32} {u' : XS} (h : f_X6_days a1 a2 u0 = some (r, u')) : MI l D cI cZ cQ adK adV A yX6_days cX6_days 4 (some .int) { frames := 2, cells := 0, slots := 0, locals := 43 } [.ref (ad 0), .int a1, .int a2] (wX cI cZ cQ ad) u0 r u' := by
  unfold f_X6_days at h
  refine entI (by decide) (Nat.le_of_ble_eq_true rfl) (fun p e s m below meth c ls X K G hl => ?_)
  have hl : lv_has ls 4 [(0, .ref (ad 0)), (1, .int a1), (2, .int a2)] := hl
  obtain ⟨hx, hb, -⟩ := id X
  generalize hH : s.heap = H at G
  subst hH
  refine lv_aload_n hx hb dX6_days_0 rfl (lv_at hl 0 rfl) ?_
  refine gX_0_0 X K G q_300 dX6_days_1 ?_
  refine lv_iload_n hx hb dX6_days_4 rfl (lv_at hl 1 rfl) ?_
  obtain ⟨r1, u2, er1, h⟩ := bnd_at h
  refine cvI (rest := []) X K G (c_X5_hasTool er1) q_531 my_X5_hasTool ⟨rfl, rfl⟩ ⟨Nat.le_of_ble_eq_true rfl, Nat.le_of_ble_eq_true rfl⟩ ⟨Nat.zero_le _, Nat.zero_le _⟩ 1 5 rfl rfl rfl rfl hl.1 rfl (Nat.le_of_ble_eq_true rfl) dX6_days_5 (fun H locs G => ?_)
  clear er1
  refine lv_if_eq (tgt := 22) hx hb dX6_days_8 (by decide) (fun c3 => ?_) (fun c3 => ?_)
  · have h := it_at c3 h
    refine lv_aload_n hx hb dX6_days_22 rfl (lv_at hl 0 rfl) ?_
    refine lv_iconst (v := 0) hx hb dX6_days_23 (by decide) ?_
    obtain ⟨r4, u5, er4, h⟩ := bnd_at h
    refine cvI (rest := []) X K G (c_X6_found er4) q_338 my_X6_found ⟨rfl, rfl⟩ ⟨Nat.le_of_ble_eq_true rfl, Nat.le_of_ble_eq_true rfl⟩ ⟨Nat.zero_le _, Nat.zero_le _⟩ 0 6 rfl rfl rfl rfl hl.1 rfl (Nat.le_of_ble_eq_true rfl) dX6_days_24 (fun H locs G => ?_)
    clear er4
    obtain ⟨rfl, rfl⟩ := pair_at h
    exact reI X G dX6_days_27
  · have h := if_at c3 h
    refine lv_iload_n hx hb dX6_days_11 rfl (lv_at hl 2 rfl) ?_
    refine lv_iconst (v := 0) hx hb dX6_days_12 (by decide) ?_
    refine lv_sipush (v := 4095) hx hb dX6_days_13 (by decide) ?_
    obtain ⟨r6, u7, er6, h⟩ := bnd_at h
    refine csI (rest := []) X K G (c_X6_within er6) q_335 my_X6_within ⟨rfl, rfl⟩ ⟨Nat.le_of_ble_eq_true rfl, Nat.le_of_ble_eq_true rfl⟩ ⟨Nat.zero_le _, Nat.zero_le _⟩ rfl hl.1 rfl (Nat.le_of_ble_eq_true rfl) dX6_days_16 (fun H locs G => ?_)
    clear er6
    refine lv_if_ne (tgt := 28) hx hb dX6_days_19 (by decide) (fun c8 => ?_) (fun c8 => ?_)
    · have h := if_at c8 h
      refine lv_aload_n hx hb dX6_days_28 rfl (lv_at hl 0 rfl) ?_
      refine gX_0_0 X K G q_300 dX6_days_29 ?_
      refine gX_1_6 X K G q_124 dX6_days_32 ?_
      refine lv_iload_n hx hb dX6_days_35 rfl (lv_at hl 1 rfl) ?_
      obtain ⟨g9, h⟩ := ck_at h
      refine lX_2 X K G g9 dX6_days_36 ?_
      refine lv_topi (fun x10 ex10 => ?_)
      have h := nm_at ex10 h
      refine lv_istore_n (lv' := [(3, .int x10), (0, .ref (ad 0)), (1, .int a1), (2, .int a2)]) hx hb dX6_days_37 rfl hl (by decide) rfl (fun ls hl => ?_)
      refine lv_aload_n hx hb dX6_days_38 rfl (lv_at hl 1 rfl) ?_
      refine gX_0_0 X K G q_300 dX6_days_39 ?_
      refine gX_1_6 X K G q_124 dX6_days_42 ?_
      refine lv_iload_n hx hb dX6_days_45 rfl (lv_at hl 2 rfl) ?_
      refine lv_iload_n hx hb dX6_days_46 rfl (lv_at hl 3 rfl) ?_
      obtain ⟨g11, h⟩ := ck_at h
      refine aX_2 X K G g11 dX6_days_47 (fun H locs G => ?_)
      obtain ⟨u12, eu12⟩ : ∃ z : XS, z = sT u7 (uDays (xT u7) (upd (tDays (xT u7)) a1.toNatClampNeg a2)) := ⟨_, rfl⟩
      have G : wg D A s.heap H locs (wX cI cZ cQ ad u12) := by rw [eu12]; exact G
      have h := nm_at eu12 h
      clear eu12
      refine lv_iload_n hx hb dX6_days_48 rfl (lv_at hl 0 rfl) ?_
      obtain ⟨rfl, rfl⟩ := pair_at h
      exact reI X G dX6_days_49
    · have h := it_at c8 h
      refine lv_aload_n hx hb dX6_days_22 rfl (lv_at hl 0 rfl) ?_
      refine lv_iconst (v := 0) hx hb dX6_days_23 (by decide) ?_
      obtain ⟨r13, u14, er13, h⟩ := bnd_at h
      refine cvI (rest := []) X K G (c_X6_found er13) q_338 my_X6_found ⟨rfl, rfl⟩ ⟨Nat.le_of_ble_eq_true rfl, Nat.le_of_ble_eq_true rfl⟩ ⟨Nat.zero_le _, Nat.zero_le _⟩ 0 6 rfl rfl rfl rfl hl.1 rfl (Nat.le_of_ble_eq_true rfl) dX6_days_24 (fun H locs G => ?_)
      clear er13
      obtain ⟨rfl, rfl⟩ := pair_at h
      exact reI X G dX6_days_27
noncomputable def f_X0_firstDay_L44_44 (v2 : Int32) (v4 : Int32) (v5 : Int32) (v6 : Int32) (v7 : Int32) (u0 : XS) : Option ((Int32 × Int32 × Int32 × Int32 × Int32 × XS) ⊕ ((Int32 × XS) ⊕ (XS))) :=
  (if v5 ≤ v7 then
    some (.inr (.inr u0))
  else
    (if ((v4 >>> (v6 &&& 31)) &&& (1 : Int32)) = 0 then
      (if (v6 + (1 : Int32)) = v5 then
        nmv (v7 + (1 : Int32)) fun x6 =>
        some (.inl (v2, v4, v5, (0 : Int32), x6, u0))
      else
        nmv (v6 + (1 : Int32)) fun x4 =>
        nmv (v7 + (1 : Int32)) fun x5 =>
        some (.inl (v2, v4, v5, x4, x5, u0)))
    else
      some (.inr (.inl (v2 + v7, u0)))))
set_option maxRecDepth 100000 in
set_option maxHeartbeats 4000000 in
theorem b_X0_firstDay_L44_44 (X : cx p s m args meth c cX0_firstDay 8 RX0 (some .int)) (K : kx D cI cZ cQ adK adV A s s.heap) {v2 : Int32} {v4 : Int32} {v5 : Int32} {v6 : Int32} {v7 : Int32} {u0 : XS} (G : wg D A s.heap H locs (wX cI cZ cQ ad u0)) (hl : lv_has ls 8 [(2, .int v2), (4, .int v4), (5, .int v5), (6, .int v6), (7, .int v7)]) {q : ((Int32 × Int32 × Int32 × Int32 × Int32 × XS) ⊕ ((Int32 × XS) ⊕ (XS)))} (h : f_X0_firstDay_L44_44 v2 v4 v5 v6 v7 u0 = some q) (hB : ∀ (v2 : Int32) (v4 : Int32) (v5 : Int32) (v6 : Int32) (v7 : Int32) (u : XS), q = .inl (v2, v4, v5, v6, v7, u) → ∀ (H : Heap) (locs : List Loc) (ls : Array Slot), wg D A s.heap H locs (wX cI cZ cQ ad u) → lv_has ls 8 [(2, .int v2), (4, .int v4), (5, .int v5), (6, .int v6), (7, .int v7)] → W p l e { frames := 0, cells := 0, slots := 0, locals := 0 } s m args below meth c H locs 0 0 Q (F0 m 44 ls [])) (hX : ∀ (u : XS), q = .inr (.inr u) → ∀ (H : Heap) (locs : List Loc) (ls : Array Slot), wg D A s.heap H locs (wX cI cZ cQ ad u) → lv_has ls 8 [] → W p l e { frames := 0, cells := 0, slots := 0, locals := 0 } s m args below meth c H locs 0 0 Q (F0 m 91 ls [])) (hR : ∀ (r : Int32) (u : XS), q = .inr (.inl (r, u)) → Q = (qI D A (wX cI cZ cQ ad) below args s r u)) : W p l e { frames := 0, cells := 0, slots := 0, locals := 0 } s m args below meth c H locs 0 0 Q (F0 m 44 ls []) := by
  unfold f_X0_firstDay_L44_44 at h
  obtain ⟨hx, hb, -⟩ := id X
  refine lv_iload hx hb dX0_firstDay_44 (lv_at hl 4 rfl) ?_
  refine lv_iload hx hb dX0_firstDay_46 (lv_at hl 2 rfl) ?_
  refine lv_icmp_ge (tgt := 91) hx hb dX0_firstDay_48 (by decide) (fun c1 => ?_) (fun c1 => ?_)
  · have h := it_at c1 h
    exact hX _ (Option.some.inj h).symm _ _ _ G (lv_sub hl [] rfl)
  · have h := if_at c1 h
    refine lv_iload hx hb dX0_firstDay_51 (lv_at hl 1 rfl) ?_
    refine lv_iload hx hb dX0_firstDay_53 (lv_at hl 3 rfl) ?_
    refine lv_ishr hx hb dX0_firstDay_55 ?_
    refine lv_iconst (v := 1) hx hb dX0_firstDay_56 (by decide) ?_
    refine lv_iand hx hb dX0_firstDay_57 ?_
    refine lv_if_eq (tgt := 66) hx hb dX0_firstDay_58 (by decide) (fun c2 => ?_) (fun c2 => ?_)
    · have h := it_at c2 h
      refine lv_iload hx hb dX0_firstDay_66 (lv_at hl 3 rfl) ?_
      refine lv_iconst (v := 1) hx hb dX0_firstDay_68 (by decide) ?_
      refine lv_iadd hx hb dX0_firstDay_69 ?_
      refine lv_iload hx hb dX0_firstDay_70 (lv_at hl 2 rfl) ?_
      refine lv_icmp_ne (tgt := 79) hx hb dX0_firstDay_72 (by decide) (fun c3 => ?_) (fun c3 => ?_)
      · have h := if_at c3 h
        refine lv_iload hx hb dX0_firstDay_79 (lv_at hl 3 rfl) ?_
        refine lv_iconst (v := 1) hx hb dX0_firstDay_81 (by decide) ?_
        refine lv_iadd hx hb dX0_firstDay_82 ?_
        refine lv_topi (fun x4 ex4 => ?_)
        have h := nm_at ex4 h
        refine lv_istore (lv' := [(6, .int x4), (2, .int v2), (4, .int v4), (5, .int v5), (7, .int v7)]) hx hb dX0_firstDay_83 hl (by decide) rfl (fun ls hl => ?_)
        obtain ⟨x5, ex5⟩ : ∃ z : Int32, z = v7 + (1 : Int32) := ⟨_, rfl⟩
        have h := nm_at ex5 h
        refine lv_iinc (v := x5) (lv' := [(7, .int x5), (6, .int x4), (2, .int v2), (4, .int v4), (5, .int v5)]) hx hb dX0_firstDay_85 hl (k := 4) rfl (by rw [ex5]; rfl) (by decide) rfl (fun ls hl => ?_)
        refine lv_goto (tgt := 44) hx hb dX0_firstDay_88 (by decide) ?_
        exact hB _ _ _ _ _ _ (Option.some.inj h).symm _ _ _ G (lv_sub hl [2, 3, 4, 1, 0] rfl)
      · have h := it_at c3 h
        refine lv_iconst (v := 0) hx hb dX0_firstDay_75 (by decide) ?_
        refine lv_goto (tgt := 83) hx hb dX0_firstDay_76 (by decide) ?_
        refine lv_istore (lv' := [(6, .int (0 : Int32)), (2, .int v2), (4, .int v4), (5, .int v5), (7, .int v7)]) hx hb dX0_firstDay_83 hl (by decide) rfl (fun ls hl => ?_)
        obtain ⟨x6, ex6⟩ : ∃ z : Int32, z = v7 + (1 : Int32) := ⟨_, rfl⟩
        have h := nm_at ex6 h
        refine lv_iinc (v := x6) (lv' := [(7, .int x6), (6, .int (0 : Int32)), (2, .int v2), (4, .int v4), (5, .int v5)]) hx hb dX0_firstDay_85 hl (k := 4) rfl (by rw [ex6]; rfl) (by decide) rfl (fun ls hl => ?_)
        refine lv_goto (tgt := 44) hx hb dX0_firstDay_88 (by decide) ?_
        exact hB _ _ _ _ _ _ (Option.some.inj h).symm _ _ _ G (lv_sub hl [2, 3, 4, 1, 0] rfl)
    · have h := if_at c2 h
      refine lv_iload_n hx hb dX0_firstDay_61 rfl (lv_at hl 0 rfl) ?_
      refine lv_iload hx hb dX0_firstDay_62 (lv_at hl 4 rfl) ?_
      refine lv_iadd hx hb dX0_firstDay_64 ?_
      rw [hR _ _ (Option.some.inj h).symm]
      exact reI X G dX0_firstDay_65
noncomputable def f_X0_firstDay_L44_44s (q : Int32 × Int32 × Int32 × Int32 × Int32 × XS) : Option ((Int32 × Int32 × Int32 × Int32 × Int32 × XS) ⊕ ((Int32 × XS) ⊕ (XS))) := f_X0_firstDay_L44_44 q.1 q.2.1 q.2.2.1 q.2.2.2.1 q.2.2.2.2.1 q.2.2.2.2.2
set_option maxRecDepth 100000 in
set_option maxHeartbeats 4000000 in
theorem w_X0_firstDay_L44_44 (X : cx p s m args meth c cX0_firstDay 8 RX0 (some .int)) (K : kx D cI cZ cQ adK adV A s s.heap) {e0 : (Int32 × XS) ⊕ (XS)} : ∀ (n : Nat) (v2 : Int32) (v4 : Int32) (v5 : Int32) (v6 : Int32) (v7 : Int32) (u : XS) {H : Heap} {locs : List Loc} {ls : Array Slot}, wh f_X0_firstDay_L44_44s n (v2, v4, v5, v6, v7, u) = some e0 → wg D A s.heap H locs (wX cI cZ cQ ad u) → lv_has ls 8 [(2, .int v2), (4, .int v4), (5, .int v5), (6, .int v6), (7, .int v7)] → (∀ (u : XS), e0 = .inr u → ∀ (H : Heap) (locs : List Loc) (ls : Array Slot), wg D A s.heap H locs (wX cI cZ cQ ad u) → lv_has ls 8 [] → W p l e { frames := 0, cells := 0, slots := 0, locals := 0 } s m args below meth c H locs 0 0 Q (F0 m 91 ls [])) → (∀ (r : Int32) (u : XS), e0 = .inl (r, u) → Q = (qI D A (wX cI cZ cQ ad) below args s r u)) → W p l e { frames := 0, cells := 0, slots := 0, locals := 0 } s m args below meth c H locs 0 0 Q (F0 m 44 ls []) := by
  intro n
  induction n with
  | zero => intro v2 v4 v5 v6 v7 u H locs ls h; cases h
  | succ n ih =>
    intro v2 v4 v5 v6 v7 u H locs ls h G hl hX hR
    obtain ⟨q, h1, h2, h3⟩ := wh_at h
    exact b_X0_firstDay_L44_44 X K G hl (show f_X0_firstDay_L44_44 v2 v4 v5 v6 v7 u = some q from h1) (fun b0 b1 b2 b3 b4 b5 ee H locs ls G hl => ih b0 b1 b2 b3 b4 b5 (h2 _ ee) G hl hX hR) (fun z0 ee => hX z0 (h3 _ ee).symm) (fun r u ee => hR r u (h3 _ ee).symm)
noncomputable def f_X0_firstDay (a1 : Int32) (a2 : Int32) (a3 : Int32) (u0 : XS) : Option (Int32 × XS) :=
  if a1 < 0 ∨ 8 ≤ a1.toNatClampNeg then none else
  nmv ((tDays (xT u0)) a1.toNatClampNeg) fun x2 =>
  nmv (tRound (xT u0)) fun x3 =>
  (if x2 = 0 then
    some ((-1 : Int32), u0)
  else
    (if (1 : Int32) ≤ x3 then
      nmv (a2 + a3) fun x6 =>
      if x3 = 0 then none else
      nmv (x6 - x6 / x3 * x3) fun x7 =>
      bne (wl f_X0_firstDay_L44_44s (a2, x2, x3, x7, (0 : Int32), u0)) (fun a => some a) fun b =>
        nmv b fun u10 =>
        some ((-1 : Int32), u10)
    else
      some ((-1 : Int32), u0)))
set_option maxRecDepth 100000 in
set_option maxHeartbeats 4000000 in
theorem c_X0_firstDay {a1 : Int32} {a2 : Int32} {a3 : Int32} {u0 : XS} {r : Int32} {u' : XS} (h : f_X0_firstDay a1 a2 a3 u0 = some (r, u')) : MI l D cI cZ cQ adK adV A yX0_firstDay cX0_firstDay 8 (some .int) { frames := 0, cells := 0, slots := 0, locals := 0 } [.ref (ad 24), .int a1, .int a2, .int a3] (wX cI cZ cQ ad) u0 r u' := by
  unfold f_X0_firstDay at h
  refine entI (by decide) (Nat.le_of_ble_eq_true rfl) (fun p e s m below meth c ls X K G hl => ?_)
  have hl : lv_has ls 8 [(0, .ref (ad 24)), (1, .int a1), (2, .int a2), (3, .int a3)] := hl
  obtain ⟨hx, hb, -⟩ := id X
  generalize hH : s.heap = H at G
  subst hH
  refine lv_aload_n hx hb dX0_firstDay_0 rfl (lv_at hl 0 rfl) ?_
  refine gX_24_0 X K G q_184 dX0_firstDay_1 ?_
  refine gX_1_6 X K G q_123 dX0_firstDay_4 ?_
  refine lv_iload_n hx hb dX0_firstDay_7 rfl (lv_at hl 1 rfl) ?_
  obtain ⟨g1, h⟩ := ck_at h
  refine lX_2 X K G g1 dX0_firstDay_8 ?_
  refine lv_topi (fun x2 ex2 => ?_)
  have h := nm_at ex2 h
  refine lv_istore (lv' := [(4, .int x2), (0, .ref (ad 24)), (1, .int a1), (2, .int a2), (3, .int a3)]) hx hb dX0_firstDay_9 hl (by decide) rfl (fun ls hl => ?_)
  refine lv_aload_n hx hb dX0_firstDay_11 rfl (lv_at hl 1 rfl) ?_
  refine gX_24_0 X K G q_184 dX0_firstDay_12 ?_
  refine gX_1_0 X K G q_102 dX0_firstDay_15 ?_
  refine lv_topi (fun x3 ex3 => ?_)
  have h := nm_at ex3 h
  refine lv_istore (lv' := [(5, .int x3), (4, .int x2), (0, .ref (ad 24)), (1, .int a1), (2, .int a2), (3, .int a3)]) hx hb dX0_firstDay_18 hl (by decide) rfl (fun ls hl => ?_)
  refine lv_iload hx hb dX0_firstDay_20 (lv_at hl 1 rfl) ?_
  refine lv_if_eq (tgt := 31) hx hb dX0_firstDay_22 (by decide) (fun c4 => ?_) (fun c4 => ?_)
  · have h := it_at c4 h
    refine lv_iconst (v := -1) hx hb dX0_firstDay_31 (by decide) ?_
    obtain ⟨rfl, rfl⟩ := pair_at h
    exact reI X G dX0_firstDay_32
  · have h := if_at c4 h
    refine lv_iload hx hb dX0_firstDay_25 (lv_at hl 0 rfl) ?_
    refine lv_iconst (v := 1) hx hb dX0_firstDay_27 (by decide) ?_
    refine lv_icmp_ge (tgt := 33) hx hb dX0_firstDay_28 (by decide) (fun c5 => ?_) (fun c5 => ?_)
    · have h := it_at c5 h
      refine lv_iload_n hx hb dX0_firstDay_33 rfl (lv_at hl 4 rfl) ?_
      refine lv_iload_n hx hb dX0_firstDay_34 rfl (lv_at hl 5 rfl) ?_
      refine lv_iadd hx hb dX0_firstDay_35 ?_
      refine lv_iload hx hb dX0_firstDay_36 (lv_at hl 0 rfl) ?_
      refine nm2 (fun x6 ex6 => ?_)
      have h := nm_at ex6 h
      obtain ⟨g11, h⟩ := ck_at h
      refine lv_irem hx hb dX0_firstDay_38 g11 ?_
      refine lv_topi (fun x7 ex7 => ?_)
      have h := nm_at ex7 h
      refine lv_istore (lv' := [(6, .int x7), (5, .int x3), (4, .int x2), (0, .ref (ad 24)), (1, .int a1), (2, .int a2), (3, .int a3)]) hx hb dX0_firstDay_39 hl (by decide) rfl (fun ls hl => ?_)
      refine lv_iconst (v := 0) hx hb dX0_firstDay_41 (by decide) ?_
      refine lv_istore (lv' := [(7, .int (0 : Int32)), (6, .int x7), (5, .int x3), (4, .int x2), (0, .ref (ad 24)), (1, .int a1), (2, .int a2), (3, .int a3)]) hx hb dX0_firstDay_42 hl (by decide) rfl (fun ls hl => ?_)
      obtain ⟨q9, hq9, ha, hb1⟩ := bne_at h
      obtain ⟨n8, hn8⟩ := wl_iff.mp hq9
      refine w_X0_firstDay_L44_44 X K n8 _ _ _ _ _ _ hn8 G (lv_sub hl [6, 3, 2, 1, 0] rfl) (fun  u10 ee H locs ls G hl => ?_) (fun r u1 ee => by obtain ⟨rfl, rfl⟩ := pair_at (ha _ ee); rfl)
      have h := hb1 _ ee
      clear ee ha hb1 hq9 hn8
      have h := nm_at (x := u10) rfl h
      refine lv_iconst (v := -1) hx hb dX0_firstDay_91 (by decide) ?_
      obtain ⟨rfl, rfl⟩ := pair_at h
      exact reI X G dX0_firstDay_92
    · have h := if_at c5 h
      refine lv_iconst (v := -1) hx hb dX0_firstDay_31 (by decide) ?_
      obtain ⟨rfl, rfl⟩ := pair_at h
      exact reI X G dX0_firstDay_32
noncomputable def f_X6_may (a1 : Int32) (a2 : Int32) (u0 : XS) : Option (Int32 × XS) :=
  bnd (f_X5_hasTool a1 u0) fun r1 u2 =>
  (if r1 = 0 then
    bnd (f_X6_found (0 : Int32) u2) fun r4 u5 =>
    some (r4, u5)
  else
    bnd (f_X6_within a2 (0 : Int32) (999 : Int32) u2) fun r6 u7 =>
    (if r6 = 0 then
      bnd (f_X6_found (0 : Int32) u7) fun r16 u17 =>
      some (r16, u17)
    else
      bnd (f_X0_firstDay a1 a2 (0 : Int32) u7) fun r9 u10 =>
      (if r9 = a2 then
        some ((2 : Int32), u10)
      else
        (if (tNear (xT u10)) < 0 then
          some ((0 : Int32), u10)
        else
          bnd (f_X0_firstDay a1 a2 (tNear (xT u10)) u10) fun r13 u14 =>
          (if r13 = a2 then
            some ((1 : Int32), u14)
          else
            some ((0 : Int32), u14))))))
set_option maxRecDepth 100000 in
set_option maxHeartbeats 4000000 in
theorem c_X6_may {a1 : Int32} {a2 : Int32} {u0 : XS} {r : Int32} {u' : XS} (h : f_X6_may a1 a2 u0 = some (r, u')) : MI l D cI cZ cQ adK adV A yX6_may cX6_may 3 (some .int) { frames := 2, cells := 0, slots := 0, locals := 43 } [.ref (ad 0), .int a1, .int a2] (wX cI cZ cQ ad) u0 r u' := by
  unfold f_X6_may at h
  refine entI (by decide) (Nat.le_of_ble_eq_true rfl) (fun p e s m below meth c ls X K G hl => ?_)
  have hl : lv_has ls 3 [(0, .ref (ad 0)), (1, .int a1), (2, .int a2)] := hl
  obtain ⟨hx, hb, -⟩ := id X
  generalize hH : s.heap = H at G
  subst hH
  refine lv_aload_n hx hb dX6_may_0 rfl (lv_at hl 0 rfl) ?_
  refine gX_0_0 X K G q_300 dX6_may_1 ?_
  refine lv_iload_n hx hb dX6_may_4 rfl (lv_at hl 1 rfl) ?_
  obtain ⟨r1, u2, er1, h⟩ := bnd_at h
  refine cvI (rest := []) X K G (c_X5_hasTool er1) q_531 my_X5_hasTool ⟨rfl, rfl⟩ ⟨Nat.le_of_ble_eq_true rfl, Nat.le_of_ble_eq_true rfl⟩ ⟨Nat.zero_le _, Nat.zero_le _⟩ 1 5 rfl rfl rfl rfl hl.1 rfl (Nat.le_of_ble_eq_true rfl) dX6_may_5 (fun H locs G => ?_)
  clear er1
  refine lv_if_eq (tgt := 22) hx hb dX6_may_8 (by decide) (fun c3 => ?_) (fun c3 => ?_)
  · have h := it_at c3 h
    refine lv_aload_n hx hb dX6_may_22 rfl (lv_at hl 0 rfl) ?_
    refine lv_iconst (v := 0) hx hb dX6_may_23 (by decide) ?_
    obtain ⟨r4, u5, er4, h⟩ := bnd_at h
    refine cvI (rest := []) X K G (c_X6_found er4) q_338 my_X6_found ⟨rfl, rfl⟩ ⟨Nat.le_of_ble_eq_true rfl, Nat.le_of_ble_eq_true rfl⟩ ⟨Nat.zero_le _, Nat.zero_le _⟩ 0 6 rfl rfl rfl rfl hl.1 rfl (Nat.le_of_ble_eq_true rfl) dX6_may_24 (fun H locs G => ?_)
    clear er4
    obtain ⟨rfl, rfl⟩ := pair_at h
    exact reI X G dX6_may_27
  · have h := if_at c3 h
    refine lv_iload_n hx hb dX6_may_11 rfl (lv_at hl 2 rfl) ?_
    refine lv_iconst (v := 0) hx hb dX6_may_12 (by decide) ?_
    refine lv_sipush (v := 999) hx hb dX6_may_13 (by decide) ?_
    obtain ⟨r6, u7, er6, h⟩ := bnd_at h
    refine csI (rest := []) X K G (c_X6_within er6) q_335 my_X6_within ⟨rfl, rfl⟩ ⟨Nat.le_of_ble_eq_true rfl, Nat.le_of_ble_eq_true rfl⟩ ⟨Nat.zero_le _, Nat.zero_le _⟩ rfl hl.1 rfl (Nat.le_of_ble_eq_true rfl) dX6_may_16 (fun H locs G => ?_)
    clear er6
    refine lv_if_ne (tgt := 28) hx hb dX6_may_19 (by decide) (fun c8 => ?_) (fun c8 => ?_)
    · have h := if_at c8 h
      refine lv_aload_n hx hb dX6_may_28 rfl (lv_at hl 0 rfl) ?_
      refine gX_0_4 X K G q_304 dX6_may_29 ?_
      refine lv_iload_n hx hb dX6_may_32 rfl (lv_at hl 1 rfl) ?_
      refine lv_iload_n hx hb dX6_may_33 rfl (lv_at hl 2 rfl) ?_
      refine lv_iconst (v := 0) hx hb dX6_may_34 (by decide) ?_
      obtain ⟨r9, u10, er9, h⟩ := bnd_at h
      refine cvI (rest := []) X K G (c_X0_firstDay er9) q_539 my_X0_firstDay ⟨rfl, rfl⟩ ⟨Nat.le_of_ble_eq_true rfl, Nat.le_of_ble_eq_true rfl⟩ ⟨Nat.zero_le _, Nat.zero_le _⟩ 24 0 rfl rfl rfl rfl hl.1 rfl (Nat.le_of_ble_eq_true rfl) dX6_may_35 (fun H locs G => ?_)
      clear er9
      refine lv_iload_n hx hb dX6_may_38 rfl (lv_at hl 2 rfl) ?_
      refine lv_icmp_ne (tgt := 44) hx hb dX6_may_39 (by decide) (fun c11 => ?_) (fun c11 => ?_)
      · have h := if_at c11 h
        refine lv_aload_n hx hb dX6_may_44 rfl (lv_at hl 0 rfl) ?_
        refine gX_0_0 X K G q_300 dX6_may_45 ?_
        refine gX_1_1 X K G q_109 dX6_may_48 ?_
        refine lv_if_lt (tgt := 78) hx hb dX6_may_51 (by decide) (fun c12 => ?_) (fun c12 => ?_)
        · have h := it_at c12 h
          refine lv_iconst (v := 0) hx hb dX6_may_78 (by decide) ?_
          obtain ⟨rfl, rfl⟩ := pair_at h
          exact reI X G dX6_may_79
        · have h := if_at c12 h
          refine lv_aload_n hx hb dX6_may_54 rfl (lv_at hl 0 rfl) ?_
          refine gX_0_4 X K G q_304 dX6_may_55 ?_
          refine lv_iload_n hx hb dX6_may_58 rfl (lv_at hl 1 rfl) ?_
          refine lv_iload_n hx hb dX6_may_59 rfl (lv_at hl 2 rfl) ?_
          refine lv_aload_n hx hb dX6_may_60 rfl (lv_at hl 0 rfl) ?_
          refine gX_0_0 X K G q_300 dX6_may_61 ?_
          refine gX_1_1 X K G q_109 dX6_may_64 ?_
          obtain ⟨r13, u14, er13, h⟩ := bnd_at h
          refine cvI (rest := []) X K G (c_X0_firstDay er13) q_539 my_X0_firstDay ⟨rfl, rfl⟩ ⟨Nat.le_of_ble_eq_true rfl, Nat.le_of_ble_eq_true rfl⟩ ⟨Nat.zero_le _, Nat.zero_le _⟩ 24 0 rfl rfl rfl rfl hl.1 rfl (Nat.le_of_ble_eq_true rfl) dX6_may_67 (fun H locs G => ?_)
          clear er13
          refine lv_iload_n hx hb dX6_may_70 rfl (lv_at hl 2 rfl) ?_
          refine lv_icmp_ne (tgt := 78) hx hb dX6_may_71 (by decide) (fun c15 => ?_) (fun c15 => ?_)
          · have h := if_at c15 h
            refine lv_iconst (v := 0) hx hb dX6_may_78 (by decide) ?_
            obtain ⟨rfl, rfl⟩ := pair_at h
            exact reI X G dX6_may_79
          · have h := it_at c15 h
            refine lv_iconst (v := 1) hx hb dX6_may_74 (by decide) ?_
            refine lv_goto (tgt := 79) hx hb dX6_may_75 (by decide) ?_
            obtain ⟨rfl, rfl⟩ := pair_at h
            exact reI X G dX6_may_79
      · have h := it_at c11 h
        refine lv_iconst (v := 2) hx hb dX6_may_42 (by decide) ?_
        obtain ⟨rfl, rfl⟩ := pair_at h
        exact reI X G dX6_may_43
    · have h := it_at c8 h
      refine lv_aload_n hx hb dX6_may_22 rfl (lv_at hl 0 rfl) ?_
      refine lv_iconst (v := 0) hx hb dX6_may_23 (by decide) ?_
      obtain ⟨r16, u17, er16, h⟩ := bnd_at h
      refine cvI (rest := []) X K G (c_X6_found er16) q_338 my_X6_found ⟨rfl, rfl⟩ ⟨Nat.le_of_ble_eq_true rfl, Nat.le_of_ble_eq_true rfl⟩ ⟨Nat.zero_le _, Nat.zero_le _⟩ 0 6 rfl rfl rfl rfl hl.1 rfl (Nat.le_of_ble_eq_true rfl) dX6_may_24 (fun H locs G => ?_)
      clear er16
      obtain ⟨rfl, rfl⟩ := pair_at h
      exact reI X G dX6_may_27
noncomputable def f_X6_thing (a1 : Int32) (a2 : Int32) (a3 : Int32) (u0 : XS) : Option (Int32 × XS) :=
  bnd (f_X6_within a1 (0 : Int32) (6 : Int32) u0) fun r1 u2 =>
  (if r1 = 0 then
    bnd (f_X6_found (0 : Int32) u2) fun r4 u5 =>
    some (r4, u5)
  else
    bnd (f_X5_hasTool a2 u2) fun r6 u7 =>
    (if r6 = 0 then
      bnd (f_X6_found (0 : Int32) u7) fun r9 u10 =>
      some (r9, u10)
    else
      bnd (f_X6_within a3 (1 : Int32) (8 : Int32) u7) fun r11 u12 =>
      (if r11 = 0 then
        bnd (f_X6_found (0 : Int32) u12) fun r21 u22 =>
        some (r21, u22)
      else
        (if (tThings (xT u12)) < (8 : Int32) then
          bnd (f_X5_addThing a1 u12) fun r15 u16 =>
          bnd (f_X5_addStep r15 a2 a3 (99 : Int32) u16) fun r17 u18 =>
          some (r15, u18)
        else
          bnd (f_X6_found (1 : Int32) u12) fun r19 u20 =>
          some (r19, u20)))))
set_option maxRecDepth 100000 in
set_option maxHeartbeats 4000000 in
theorem c_X6_thing {a1 : Int32} {a2 : Int32} {a3 : Int32} {u0 : XS} {r : Int32} {u' : XS} (h : f_X6_thing a1 a2 a3 u0 = some (r, u')) : MI l D cI cZ cQ adK adV A yX6_thing cX6_thing 5 (some .int) { frames := 3, cells := 0, slots := 0, locals := 68 } [.ref (ad 0), .int a1, .int a2, .int a3] (wX cI cZ cQ ad) u0 r u' := by
  unfold f_X6_thing at h
  refine entI (by decide) (Nat.le_of_ble_eq_true rfl) (fun p e s m below meth c ls X K G hl => ?_)
  have hl : lv_has ls 5 [(0, .ref (ad 0)), (1, .int a1), (2, .int a2), (3, .int a3)] := hl
  obtain ⟨hx, hb, -⟩ := id X
  generalize hH : s.heap = H at G
  subst hH
  refine lv_iload_n hx hb dX6_thing_0 rfl (lv_at hl 1 rfl) ?_
  refine lv_iconst (v := 0) hx hb dX6_thing_1 (by decide) ?_
  refine lv_bipush (v := 6) hx hb dX6_thing_2 (by decide) ?_
  obtain ⟨r1, u2, er1, h⟩ := bnd_at h
  refine csI (rest := []) X K G (c_X6_within er1) q_335 my_X6_within ⟨rfl, rfl⟩ ⟨Nat.le_of_ble_eq_true rfl, Nat.le_of_ble_eq_true rfl⟩ ⟨Nat.zero_le _, Nat.zero_le _⟩ rfl hl.1 rfl (Nat.le_of_ble_eq_true rfl) dX6_thing_4 (fun H locs G => ?_)
  clear er1
  refine lv_if_eq (tgt := 31) hx hb dX6_thing_7 (by decide) (fun c3 => ?_) (fun c3 => ?_)
  · have h := it_at c3 h
    refine lv_aload_n hx hb dX6_thing_31 rfl (lv_at hl 0 rfl) ?_
    refine lv_iconst (v := 0) hx hb dX6_thing_32 (by decide) ?_
    obtain ⟨r4, u5, er4, h⟩ := bnd_at h
    refine cvI (rest := []) X K G (c_X6_found er4) q_338 my_X6_found ⟨rfl, rfl⟩ ⟨Nat.le_of_ble_eq_true rfl, Nat.le_of_ble_eq_true rfl⟩ ⟨Nat.zero_le _, Nat.zero_le _⟩ 0 6 rfl rfl rfl rfl hl.1 rfl (Nat.le_of_ble_eq_true rfl) dX6_thing_33 (fun H locs G => ?_)
    clear er4
    obtain ⟨rfl, rfl⟩ := pair_at h
    exact reI X G dX6_thing_36
  · have h := if_at c3 h
    refine lv_aload_n hx hb dX6_thing_10 rfl (lv_at hl 0 rfl) ?_
    refine gX_0_0 X K G q_300 dX6_thing_11 ?_
    refine lv_iload_n hx hb dX6_thing_14 rfl (lv_at hl 2 rfl) ?_
    obtain ⟨r6, u7, er6, h⟩ := bnd_at h
    refine cvI (rest := []) X K G (c_X5_hasTool er6) q_531 my_X5_hasTool ⟨rfl, rfl⟩ ⟨Nat.le_of_ble_eq_true rfl, Nat.le_of_ble_eq_true rfl⟩ ⟨Nat.zero_le _, Nat.zero_le _⟩ 1 5 rfl rfl rfl rfl hl.1 rfl (Nat.le_of_ble_eq_true rfl) dX6_thing_15 (fun H locs G => ?_)
    clear er6
    refine lv_if_eq (tgt := 31) hx hb dX6_thing_18 (by decide) (fun c8 => ?_) (fun c8 => ?_)
    · have h := it_at c8 h
      refine lv_aload_n hx hb dX6_thing_31 rfl (lv_at hl 0 rfl) ?_
      refine lv_iconst (v := 0) hx hb dX6_thing_32 (by decide) ?_
      obtain ⟨r9, u10, er9, h⟩ := bnd_at h
      refine cvI (rest := []) X K G (c_X6_found er9) q_338 my_X6_found ⟨rfl, rfl⟩ ⟨Nat.le_of_ble_eq_true rfl, Nat.le_of_ble_eq_true rfl⟩ ⟨Nat.zero_le _, Nat.zero_le _⟩ 0 6 rfl rfl rfl rfl hl.1 rfl (Nat.le_of_ble_eq_true rfl) dX6_thing_33 (fun H locs G => ?_)
      clear er9
      obtain ⟨rfl, rfl⟩ := pair_at h
      exact reI X G dX6_thing_36
    · have h := if_at c8 h
      refine lv_iload_n hx hb dX6_thing_21 rfl (lv_at hl 3 rfl) ?_
      refine lv_iconst (v := 1) hx hb dX6_thing_22 (by decide) ?_
      refine lv_bipush (v := 8) hx hb dX6_thing_23 (by decide) ?_
      obtain ⟨r11, u12, er11, h⟩ := bnd_at h
      refine csI (rest := []) X K G (c_X6_within er11) q_335 my_X6_within ⟨rfl, rfl⟩ ⟨Nat.le_of_ble_eq_true rfl, Nat.le_of_ble_eq_true rfl⟩ ⟨Nat.zero_le _, Nat.zero_le _⟩ rfl hl.1 rfl (Nat.le_of_ble_eq_true rfl) dX6_thing_25 (fun H locs G => ?_)
      clear er11
      refine lv_if_ne (tgt := 37) hx hb dX6_thing_28 (by decide) (fun c13 => ?_) (fun c13 => ?_)
      · have h := if_at c13 h
        refine lv_aload_n hx hb dX6_thing_37 rfl (lv_at hl 0 rfl) ?_
        refine gX_0_0 X K G q_300 dX6_thing_38 ?_
        refine gX_1_4 X K G q_117 dX6_thing_41 ?_
        refine lv_bipush (v := 8) hx hb dX6_thing_44 (by decide) ?_
        refine lv_icmp_lt (tgt := 55) hx hb dX6_thing_46 (by decide) (fun c14 => ?_) (fun c14 => ?_)
        · have h := it_at c14 h
          refine lv_aload_n hx hb dX6_thing_55 rfl (lv_at hl 0 rfl) ?_
          refine gX_0_0 X K G q_300 dX6_thing_56 ?_
          refine lv_iload_n hx hb dX6_thing_59 rfl (lv_at hl 1 rfl) ?_
          obtain ⟨r15, u16, er15, h⟩ := bnd_at h
          refine cvI (rest := []) X K G (c_X5_addThing er15) q_547 my_X5_addThing ⟨rfl, rfl⟩ ⟨Nat.le_of_ble_eq_true rfl, Nat.le_of_ble_eq_true rfl⟩ ⟨Nat.zero_le _, Nat.zero_le _⟩ 1 5 rfl rfl rfl rfl hl.1 rfl (Nat.le_of_ble_eq_true rfl) dX6_thing_60 (fun H locs G => ?_)
          clear er15
          refine lv_istore (lv' := [(4, .int r15), (0, .ref (ad 0)), (1, .int a1), (2, .int a2), (3, .int a3)]) hx hb dX6_thing_63 hl (by decide) rfl (fun ls hl => ?_)
          refine lv_aload_n hx hb dX6_thing_65 rfl (lv_at hl 1 rfl) ?_
          refine gX_0_0 X K G q_300 dX6_thing_66 ?_
          refine lv_iload hx hb dX6_thing_69 (lv_at hl 0 rfl) ?_
          refine lv_iload_n hx hb dX6_thing_71 rfl (lv_at hl 3 rfl) ?_
          refine lv_iload_n hx hb dX6_thing_72 rfl (lv_at hl 4 rfl) ?_
          refine lv_bipush (v := 99) hx hb dX6_thing_73 (by decide) ?_
          obtain ⟨r17, u18, er17, h⟩ := bnd_at h
          refine cvI (rest := []) X K G (c_X5_addStep er17) q_548 my_X5_addStep ⟨rfl, rfl⟩ ⟨Nat.le_of_ble_eq_true rfl, Nat.le_of_ble_eq_true rfl⟩ ⟨Nat.zero_le _, Nat.zero_le _⟩ 1 5 rfl rfl rfl rfl hl.1 rfl (Nat.le_of_ble_eq_true rfl) dX6_thing_75 (fun H locs G => ?_)
          clear er17
          refine lv_pop hx hb dX6_thing_78 rfl ?_
          refine lv_iload hx hb dX6_thing_79 (lv_at hl 0 rfl) ?_
          obtain ⟨rfl, rfl⟩ := pair_at h
          exact reI X G dX6_thing_81
        · have h := if_at c14 h
          refine lv_aload_n hx hb dX6_thing_49 rfl (lv_at hl 0 rfl) ?_
          refine lv_iconst (v := 1) hx hb dX6_thing_50 (by decide) ?_
          obtain ⟨r19, u20, er19, h⟩ := bnd_at h
          refine cvI (rest := []) X K G (c_X6_found er19) q_338 my_X6_found ⟨rfl, rfl⟩ ⟨Nat.le_of_ble_eq_true rfl, Nat.le_of_ble_eq_true rfl⟩ ⟨Nat.zero_le _, Nat.zero_le _⟩ 0 6 rfl rfl rfl rfl hl.1 rfl (Nat.le_of_ble_eq_true rfl) dX6_thing_51 (fun H locs G => ?_)
          clear er19
          obtain ⟨rfl, rfl⟩ := pair_at h
          exact reI X G dX6_thing_54
      · have h := it_at c13 h
        refine lv_aload_n hx hb dX6_thing_31 rfl (lv_at hl 0 rfl) ?_
        refine lv_iconst (v := 0) hx hb dX6_thing_32 (by decide) ?_
        obtain ⟨r21, u22, er21, h⟩ := bnd_at h
        refine cvI (rest := []) X K G (c_X6_found er21) q_338 my_X6_found ⟨rfl, rfl⟩ ⟨Nat.le_of_ble_eq_true rfl, Nat.le_of_ble_eq_true rfl⟩ ⟨Nat.zero_le _, Nat.zero_le _⟩ 0 6 rfl rfl rfl rfl hl.1 rfl (Nat.le_of_ble_eq_true rfl) dX6_thing_33 (fun H locs G => ?_)
        clear er21
        obtain ⟨rfl, rfl⟩ := pair_at h
        exact reI X G dX6_thing_36
end WALK_cls1
