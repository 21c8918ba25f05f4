section WALK_cls2
variable {p : Program} {l : Launch} {e : Env} {s : State} {m : MethodId} {args : Array Value} {below : List Frame} {meth : Method} {c : Code} {H : Heap} {locs : List Loc} {Q : State → Prop} {D : va_G} {cI cZ cQ : ClassId} {adK adV ad : Nat → Nat} {A : Nat → Prop} {ls : Array Slot}
noncomputable def f_X6_step (a1 : Int32) (a2 : Int32) (a3 : Int32) (a4 : Int32) (u0 : XS) : Option (Int32 × XS) :=
  bnd (f_X5_hasThing a1 u0) fun r1 u2 =>
  (if r1 = 0 then
    bnd (f_X6_found (0 : Int32) u2) fun r4 u5 =>
    some (r4, u5)
  else
    bnd (f_X5_hasTool a2 u2) fun r6 u7 =>
    (if r6 = 0 then
      bnd (f_X6_found (0 : Int32) u7) fun r9 u10 =>
      some (r9, u10)
    else
      bnd (f_X6_within a3 (1 : Int32) (8 : Int32) u7) fun r11 u12 =>
      (if r11 = 0 then
        bnd (f_X6_found (0 : Int32) u12) fun r14 u15 =>
        some (r14, u15)
      else
        bnd (f_X6_within a4 (0 : Int32) (99 : Int32) u12) fun r16 u17 =>
        (if r16 = 0 then
          bnd (f_X6_found (0 : Int32) u17) fun r25 u26 =>
          some (r25, u26)
        else
          if a1 < 0 ∨ 8 ≤ a1.toNatClampNeg then none else
          (if ((tCounts (xT u17)) a1.toNatClampNeg) < (8 : Int32) then
            bnd (f_X5_addStep a1 a2 a3 a4 u17) fun r21 u22 =>
            some (r21, u22)
          else
            bnd (f_X6_found (1 : Int32) u17) fun r23 u24 =>
            some (r23, u24))))))
set_option maxRecDepth 100000 in
set_option maxHeartbeats 4000000 in
theorem c_X6_step {a1 : Int32} {a2 : Int32} {a3 : Int32} {a4 : Int32} {u0 : XS} {r : Int32} {u' : XS} (h : f_X6_step a1 a2 a3 a4 u0 = some (r, u')) : MI l D cI cZ cQ adK adV A yX6_step cX6_step 5 (some .int) { frames := 3, cells := 0, slots := 0, locals := 68 } [.ref (ad 0), .int a1, .int a2, .int a3, .int a4] (wX cI cZ cQ ad) u0 r u' := by
  unfold f_X6_step at h
  refine entI (by decide) (Nat.le_of_ble_eq_true rfl) (fun p e s m below meth c ls X K G hl => ?_)
  have hl : lv_has ls 5 [(0, .ref (ad 0)), (1, .int a1), (2, .int a2), (3, .int a3), (4, .int a4)] := hl
  obtain ⟨hx, hb, -⟩ := id X
  generalize hH : s.heap = H at G
  subst hH
  refine lv_aload_n hx hb dX6_step_0 rfl (lv_at hl 0 rfl) ?_
  refine gX_0_0 X K G q_300 dX6_step_1 ?_
  refine lv_iload_n hx hb dX6_step_4 rfl (lv_at hl 1 rfl) ?_
  obtain ⟨r1, u2, er1, h⟩ := bnd_at h
  refine cvI (rest := []) X K G (c_X5_hasThing er1) q_553 my_X5_hasThing ⟨rfl, rfl⟩ ⟨Nat.le_of_ble_eq_true rfl, Nat.le_of_ble_eq_true rfl⟩ ⟨Nat.zero_le _, Nat.zero_le _⟩ 1 5 rfl rfl rfl rfl hl.1 rfl (Nat.le_of_ble_eq_true rfl) dX6_step_5 (fun H locs G => ?_)
  clear er1
  refine lv_if_eq (tgt := 43) hx hb dX6_step_8 (by decide) (fun c3 => ?_) (fun c3 => ?_)
  · have h := it_at c3 h
    refine lv_aload_n hx hb dX6_step_43 rfl (lv_at hl 0 rfl) ?_
    refine lv_iconst (v := 0) hx hb dX6_step_44 (by decide) ?_
    obtain ⟨r4, u5, er4, h⟩ := bnd_at h
    refine cvI (rest := []) X K G (c_X6_found er4) q_338 my_X6_found ⟨rfl, rfl⟩ ⟨Nat.le_of_ble_eq_true rfl, Nat.le_of_ble_eq_true rfl⟩ ⟨Nat.zero_le _, Nat.zero_le _⟩ 0 6 rfl rfl rfl rfl hl.1 rfl (Nat.le_of_ble_eq_true rfl) dX6_step_45 (fun H locs G => ?_)
    clear er4
    obtain ⟨rfl, rfl⟩ := pair_at h
    exact reI X G dX6_step_48
  · have h := if_at c3 h
    refine lv_aload_n hx hb dX6_step_11 rfl (lv_at hl 0 rfl) ?_
    refine gX_0_0 X K G q_300 dX6_step_12 ?_
    refine lv_iload_n hx hb dX6_step_15 rfl (lv_at hl 2 rfl) ?_
    obtain ⟨r6, u7, er6, h⟩ := bnd_at h
    refine cvI (rest := []) X K G (c_X5_hasTool er6) q_531 my_X5_hasTool ⟨rfl, rfl⟩ ⟨Nat.le_of_ble_eq_true rfl, Nat.le_of_ble_eq_true rfl⟩ ⟨Nat.zero_le _, Nat.zero_le _⟩ 1 5 rfl rfl rfl rfl hl.1 rfl (Nat.le_of_ble_eq_true rfl) dX6_step_16 (fun H locs G => ?_)
    clear er6
    refine lv_if_eq (tgt := 43) hx hb dX6_step_19 (by decide) (fun c8 => ?_) (fun c8 => ?_)
    · have h := it_at c8 h
      refine lv_aload_n hx hb dX6_step_43 rfl (lv_at hl 0 rfl) ?_
      refine lv_iconst (v := 0) hx hb dX6_step_44 (by decide) ?_
      obtain ⟨r9, u10, er9, h⟩ := bnd_at h
      refine cvI (rest := []) X K G (c_X6_found er9) q_338 my_X6_found ⟨rfl, rfl⟩ ⟨Nat.le_of_ble_eq_true rfl, Nat.le_of_ble_eq_true rfl⟩ ⟨Nat.zero_le _, Nat.zero_le _⟩ 0 6 rfl rfl rfl rfl hl.1 rfl (Nat.le_of_ble_eq_true rfl) dX6_step_45 (fun H locs G => ?_)
      clear er9
      obtain ⟨rfl, rfl⟩ := pair_at h
      exact reI X G dX6_step_48
    · have h := if_at c8 h
      refine lv_iload_n hx hb dX6_step_22 rfl (lv_at hl 3 rfl) ?_
      refine lv_iconst (v := 1) hx hb dX6_step_23 (by decide) ?_
      refine lv_bipush (v := 8) hx hb dX6_step_24 (by decide) ?_
      obtain ⟨r11, u12, er11, h⟩ := bnd_at h
      refine csI (rest := []) X K G (c_X6_within er11) q_335 my_X6_within ⟨rfl, rfl⟩ ⟨Nat.le_of_ble_eq_true rfl, Nat.le_of_ble_eq_true rfl⟩ ⟨Nat.zero_le _, Nat.zero_le _⟩ rfl hl.1 rfl (Nat.le_of_ble_eq_true rfl) dX6_step_26 (fun H locs G => ?_)
      clear er11
      refine lv_if_eq (tgt := 43) hx hb dX6_step_29 (by decide) (fun c13 => ?_) (fun c13 => ?_)
      · have h := it_at c13 h
        refine lv_aload_n hx hb dX6_step_43 rfl (lv_at hl 0 rfl) ?_
        refine lv_iconst (v := 0) hx hb dX6_step_44 (by decide) ?_
        obtain ⟨r14, u15, er14, h⟩ := bnd_at h
        refine cvI (rest := []) X K G (c_X6_found er14) q_338 my_X6_found ⟨rfl, rfl⟩ ⟨Nat.le_of_ble_eq_true rfl, Nat.le_of_ble_eq_true rfl⟩ ⟨Nat.zero_le _, Nat.zero_le _⟩ 0 6 rfl rfl rfl rfl hl.1 rfl (Nat.le_of_ble_eq_true rfl) dX6_step_45 (fun H locs G => ?_)
        clear er14
        obtain ⟨rfl, rfl⟩ := pair_at h
        exact reI X G dX6_step_48
      · have h := if_at c13 h
        refine lv_iload hx hb dX6_step_32 (lv_at hl 4 rfl) ?_
        refine lv_iconst (v := 0) hx hb dX6_step_34 (by decide) ?_
        refine lv_bipush (v := 99) hx hb dX6_step_35 (by decide) ?_
        obtain ⟨r16, u17, er16, h⟩ := bnd_at h
        refine csI (rest := []) X K G (c_X6_within er16) q_335 my_X6_within ⟨rfl, rfl⟩ ⟨Nat.le_of_ble_eq_true rfl, Nat.le_of_ble_eq_true rfl⟩ ⟨Nat.zero_le _, Nat.zero_le _⟩ rfl hl.1 rfl (Nat.le_of_ble_eq_true rfl) dX6_step_37 (fun H locs G => ?_)
        clear er16
        refine lv_if_ne (tgt := 49) hx hb dX6_step_40 (by decide) (fun c18 => ?_) (fun c18 => ?_)
        · have h := if_at c18 h
          refine lv_aload_n hx hb dX6_step_49 rfl (lv_at hl 0 rfl) ?_
          refine gX_0_0 X K G q_300 dX6_step_50 ?_
          refine gX_1_8 X K G q_131 dX6_step_53 ?_
          refine lv_iload_n hx hb dX6_step_56 rfl (lv_at hl 1 rfl) ?_
          obtain ⟨g19, h⟩ := ck_at h
          refine lX_4 X K G g19 dX6_step_57 ?_
          refine lv_bipush (v := 8) hx hb dX6_step_58 (by decide) ?_
          refine lv_icmp_lt (tgt := 69) hx hb dX6_step_60 (by decide) (fun c20 => ?_) (fun c20 => ?_)
          · have h := it_at c20 h
            refine lv_aload_n hx hb dX6_step_69 rfl (lv_at hl 0 rfl) ?_
            refine gX_0_0 X K G q_300 dX6_step_70 ?_
            refine lv_iload_n hx hb dX6_step_73 rfl (lv_at hl 1 rfl) ?_
            refine lv_iload_n hx hb dX6_step_74 rfl (lv_at hl 2 rfl) ?_
            refine lv_iload_n hx hb dX6_step_75 rfl (lv_at hl 3 rfl) ?_
            refine lv_iload hx hb dX6_step_76 (lv_at hl 4 rfl) ?_
            obtain ⟨r21, u22, er21, h⟩ := bnd_at h
            refine cvI (rest := []) X K G (c_X5_addStep er21) q_548 my_X5_addStep ⟨rfl, rfl⟩ ⟨Nat.le_of_ble_eq_true rfl, Nat.le_of_ble_eq_true rfl⟩ ⟨Nat.zero_le _, Nat.zero_le _⟩ 1 5 rfl rfl rfl rfl hl.1 rfl (Nat.le_of_ble_eq_true rfl) dX6_step_78 (fun H locs G => ?_)
            clear er21
            obtain ⟨rfl, rfl⟩ := pair_at h
            exact reI X G dX6_step_81
          · have h := if_at c20 h
            refine lv_aload_n hx hb dX6_step_63 rfl (lv_at hl 0 rfl) ?_
            refine lv_iconst (v := 1) hx hb dX6_step_64 (by decide) ?_
            obtain ⟨r23, u24, er23, h⟩ := bnd_at h
            refine cvI (rest := []) X K G (c_X6_found er23) q_338 my_X6_found ⟨rfl, rfl⟩ ⟨Nat.le_of_ble_eq_true rfl, Nat.le_of_ble_eq_true rfl⟩ ⟨Nat.zero_le _, Nat.zero_le _⟩ 0 6 rfl rfl rfl rfl hl.1 rfl (Nat.le_of_ble_eq_true rfl) dX6_step_65 (fun H locs G => ?_)
            clear er23
            obtain ⟨rfl, rfl⟩ := pair_at h
            exact reI X G dX6_step_68
        · have h := it_at c18 h
          refine lv_aload_n hx hb dX6_step_43 rfl (lv_at hl 0 rfl) ?_
          refine lv_iconst (v := 0) hx hb dX6_step_44 (by decide) ?_
          obtain ⟨r25, u26, er25, h⟩ := bnd_at h
          refine cvI (rest := []) X K G (c_X6_found er25) q_338 my_X6_found ⟨rfl, rfl⟩ ⟨Nat.le_of_ble_eq_true rfl, Nat.le_of_ble_eq_true rfl⟩ ⟨Nat.zero_le _, Nat.zero_le _⟩ 0 6 rfl rfl rfl rfl hl.1 rfl (Nat.le_of_ble_eq_true rfl) dX6_step_45 (fun H locs G => ?_)
          clear er25
          obtain ⟨rfl, rfl⟩ := pair_at h
          exact reI X G dX6_step_48
noncomputable def f_X5_hasStep (a1 : Int32) (a2 : Int32) (u0 : XS) : Option (Int32 × XS) :=
  bnd (f_X5_hasThing a1 u0) fun r1 u2 =>
  (if r1 = 0 then
    some ((0 : Int32), u2)
  else
    if a1 < 0 ∨ 8 ≤ a1.toNatClampNeg then none else
    bnd (f_X6_within a2 (0 : Int32) (((tCounts (xT u2)) a1.toNatClampNeg) - (1 : Int32)) u2) fun r5 u6 =>
    (if r5 = 0 then
      some ((0 : Int32), u6)
    else
      some ((1 : Int32), u6)))
set_option maxRecDepth 100000 in
set_option maxHeartbeats 4000000 in
theorem c_X5_hasStep {a1 : Int32} {a2 : Int32} {u0 : XS} {r : Int32} {u' : XS} (h : f_X5_hasStep a1 a2 u0 = some (r, u')) : MI l D cI cZ cQ adK adV A yX5_hasStep cX5_hasStep 3 (some .boolean) { frames := 2, cells := 0, slots := 0, locals := 43 } [.ref (ad 1), .int a1, .int a2] (wX cI cZ cQ ad) u0 r u' := by
  unfold f_X5_hasStep at h
  refine entI (by decide) (Nat.le_of_ble_eq_true rfl) (fun p e s m below meth c ls X K G hl => ?_)
  have hl : lv_has ls 3 [(0, .ref (ad 1)), (1, .int a1), (2, .int a2)] := hl
  obtain ⟨hx, hb, -⟩ := id X
  generalize hH : s.heap = H at G
  subst hH
  refine lv_aload_n hx hb dX5_hasStep_0 rfl (lv_at hl 0 rfl) ?_
  refine lv_iload_n hx hb dX5_hasStep_1 rfl (lv_at hl 1 rfl) ?_
  obtain ⟨r1, u2, er1, h⟩ := bnd_at h
  refine cvI (rest := []) X K G (c_X5_hasThing er1) q_504 my_X5_hasThing ⟨rfl, rfl⟩ ⟨Nat.le_of_ble_eq_true rfl, Nat.le_of_ble_eq_true rfl⟩ ⟨Nat.zero_le _, Nat.zero_le _⟩ 1 5 rfl rfl rfl rfl hl.1 rfl (Nat.le_of_ble_eq_true rfl) dX5_hasStep_2 (fun H locs G => ?_)
  clear er1
  refine lv_if_eq (tgt := 28) hx hb dX5_hasStep_5 (by decide) (fun c3 => ?_) (fun c3 => ?_)
  · have h := it_at c3 h
    refine lv_iconst (v := 0) hx hb dX5_hasStep_28 (by decide) ?_
    obtain ⟨rfl, rfl⟩ := pair_at h
    exact reZ X G (Or.inl rfl) dX5_hasStep_29
  · have h := if_at c3 h
    refine lv_iload_n hx hb dX5_hasStep_8 rfl (lv_at hl 2 rfl) ?_
    refine lv_iconst (v := 0) hx hb dX5_hasStep_9 (by decide) ?_
    refine lv_aload_n hx hb dX5_hasStep_10 rfl (lv_at hl 0 rfl) ?_
    refine gX_1_8 X K G q_128 dX5_hasStep_11 ?_
    refine lv_iload_n hx hb dX5_hasStep_14 rfl (lv_at hl 1 rfl) ?_
    obtain ⟨g4, h⟩ := ck_at h
    refine lX_4 X K G g4 dX5_hasStep_15 ?_
    refine lv_iconst (v := 1) hx hb dX5_hasStep_16 (by decide) ?_
    refine lv_isub hx hb dX5_hasStep_17 ?_
    obtain ⟨r5, u6, er5, h⟩ := bnd_at h
    refine cnI (rest := []) X K G (c_X6_within er5) K.2.1.2.1 my_X6_within ⟨rfl, rfl⟩ ⟨Nat.le_of_ble_eq_true rfl, Nat.le_of_ble_eq_true rfl⟩ ⟨Nat.zero_le _, Nat.zero_le _⟩ rfl hl.1 rfl (Nat.le_of_ble_eq_true rfl) dX5_hasStep_18 (fun H locs G => ?_)
    clear er5
    refine lv_if_eq (tgt := 28) hx hb dX5_hasStep_21 (by decide) (fun c7 => ?_) (fun c7 => ?_)
    · have h := it_at c7 h
      refine lv_iconst (v := 0) hx hb dX5_hasStep_28 (by decide) ?_
      obtain ⟨rfl, rfl⟩ := pair_at h
      exact reZ X G (Or.inl rfl) dX5_hasStep_29
    · have h := if_at c7 h
      refine lv_iconst (v := 1) hx hb dX5_hasStep_24 (by decide) ?_
      refine lv_goto (tgt := 29) hx hb dX5_hasStep_25 (by decide) ?_
      obtain ⟨rfl, rfl⟩ := pair_at h
      exact reZ X G (Or.inr rfl) dX5_hasStep_29
noncomputable def f_X5_stepNumber (a1 : Int32) (a2 : Int32) (a3 : Int32) (u0 : XS) : Option (Int32 × XS) :=
  nmv ((((a1 * (8 : Int32)) + a2) * (3 : Int32)) + a3) fun x1 =>
  if x1 < 0 ∨ 192 ≤ x1.toNatClampNeg then none else
  some ((tNums (xT u0)) x1.toNatClampNeg, u0)
set_option maxRecDepth 100000 in
set_option maxHeartbeats 4000000 in
theorem c_X5_stepNumber {a1 : Int32} {a2 : Int32} {a3 : Int32} {u0 : XS} {r : Int32} {u' : XS} (h : f_X5_stepNumber a1 a2 a3 u0 = some (r, u')) : MI l D cI cZ cQ adK adV A yX5_stepNumber cX5_stepNumber 4 (some .int) { frames := 0, cells := 0, slots := 0, locals := 0 } [.ref (ad 1), .int a1, .int a2, .int a3] (wX cI cZ cQ ad) u0 r u' := by
  unfold f_X5_stepNumber at h
  refine entI (by decide) (Nat.le_of_ble_eq_true rfl) (fun p e s m below meth c ls X K G hl => ?_)
  have hl : lv_has ls 4 [(0, .ref (ad 1)), (1, .int a1), (2, .int a2), (3, .int a3)] := hl
  obtain ⟨hx, hb, -⟩ := id X
  generalize hH : s.heap = H at G
  subst hH
  refine lv_aload_n hx hb dX5_stepNumber_0 rfl (lv_at hl 0 rfl) ?_
  refine gX_1_9 X K G q_132 dX5_stepNumber_1 ?_
  refine lv_iload_n hx hb dX5_stepNumber_4 rfl (lv_at hl 1 rfl) ?_
  refine lv_bipush (v := 8) hx hb dX5_stepNumber_5 (by decide) ?_
  refine lv_imul hx hb dX5_stepNumber_7 ?_
  refine lv_iload_n hx hb dX5_stepNumber_8 rfl (lv_at hl 2 rfl) ?_
  refine lv_iadd hx hb dX5_stepNumber_9 ?_
  refine lv_iconst (v := 3) hx hb dX5_stepNumber_10 (by decide) ?_
  refine lv_imul hx hb dX5_stepNumber_11 ?_
  refine lv_iload_n hx hb dX5_stepNumber_12 rfl (lv_at hl 3 rfl) ?_
  refine lv_iadd hx hb dX5_stepNumber_13 ?_
  refine lv_topi (fun x1 ex1 => ?_)
  have h := nm_at ex1 h
  obtain ⟨g2, h⟩ := ck_at h
  refine lX_5 X K G g2 dX5_stepNumber_14 ?_
  obtain ⟨rfl, rfl⟩ := pair_at h
  exact reI X G dX5_stepNumber_15
noncomputable def f_X6_thingOf (a1 : Int32) (a2 : Int32) (a3 : Int32) (u0 : XS) : Option (Int32 × XS) :=
  bnd (f_X5_hasThing a1 u0) fun r1 u2 =>
  (if r1 = 0 then
    bnd (f_X6_found (0 : Int32) u2) fun r20 u21 =>
    some (r20, u21)
  else
    (if a2 = (-1 : Int32) then
      if a1 < 0 ∨ 8 ≤ a1.toNatClampNeg then none else
      some ((tKinds (xT u2)) a1.toNatClampNeg, u2)
    else
      (if a2 = (-2 : Int32) then
        if a1 < 0 ∨ 8 ≤ a1.toNatClampNeg then none else
        some ((tCounts (xT u2)) a1.toNatClampNeg, u2)
      else
        bnd (f_X5_hasStep a1 a2 u2) fun r6 u7 =>
        (if r6 = 0 then
          bnd (f_X6_found (0 : Int32) u7) fun r9 u10 =>
          some (r9, u10)
        else
          bnd (f_X6_within a3 (0 : Int32) (2 : Int32) u7) fun r11 u12 =>
          (if r11 = 0 then
            bnd (f_X6_found (0 : Int32) u12) fun r16 u17 =>
            some (r16, u17)
          else
            bnd (f_X5_stepNumber a1 a2 a3 u12) fun r14 u15 =>
            some (r14, u15))))))
set_option maxRecDepth 100000 in
set_option maxHeartbeats 4000000 in
theorem c_X6_thingOf {a1 : Int32} {a2 : Int32} {a3 : Int32} {u0 : XS} {r : Int32} {u' : XS} (h : f_X6_thingOf a1 a2 a3 u0 = some (r, u')) : MI l D cI cZ cQ adK adV A yX6_thingOf cX6_thingOf 4 (some .int) { frames := 3, cells := 0, slots := 0, locals := 65 } [.ref (ad 0), .int a1, .int a2, .int a3] (wX cI cZ cQ ad) u0 r u' := by
  unfold f_X6_thingOf at h
  refine entI (by decide) (Nat.le_of_ble_eq_true rfl) (fun p e s m below meth c ls X K G hl => ?_)
  have hl : lv_has ls 4 [(0, .ref (ad 0)), (1, .int a1), (2, .int a2), (3, .int a3)] := hl
  obtain ⟨hx, hb, -⟩ := id X
  generalize hH : s.heap = H at G
  subst hH
  refine lv_aload_n hx hb dX6_thingOf_0 rfl (lv_at hl 0 rfl) ?_
  refine gX_0_0 X K G q_300 dX6_thingOf_1 ?_
  refine lv_iload_n hx hb dX6_thingOf_4 rfl (lv_at hl 1 rfl) ?_
  obtain ⟨r1, u2, er1, h⟩ := bnd_at h
  refine cvI (rest := []) X K G (c_X5_hasThing er1) q_553 my_X5_hasThing ⟨rfl, rfl⟩ ⟨Nat.le_of_ble_eq_true rfl, Nat.le_of_ble_eq_true rfl⟩ ⟨Nat.zero_le _, Nat.zero_le _⟩ 1 5 rfl rfl rfl rfl hl.1 rfl (Nat.le_of_ble_eq_true rfl) dX6_thingOf_5 (fun H locs G => ?_)
  clear er1
  refine lv_if_ne (tgt := 17) hx hb dX6_thingOf_8 (by decide) (fun c3 => ?_) (fun c3 => ?_)
  · have h := if_at c3 h
    refine lv_iload_n hx hb dX6_thingOf_17 rfl (lv_at hl 2 rfl) ?_
    refine lv_iconst (v := -1) hx hb dX6_thingOf_18 (by decide) ?_
    refine lv_icmp_ne (tgt := 32) hx hb dX6_thingOf_19 (by decide) (fun c4 => ?_) (fun c4 => ?_)
    · have h := if_at c4 h
      refine lv_iload_n hx hb dX6_thingOf_32 rfl (lv_at hl 2 rfl) ?_
      refine lv_bipush (v := -2) hx hb dX6_thingOf_33 (by decide) ?_
      refine lv_icmp_ne (tgt := 48) hx hb dX6_thingOf_35 (by decide) (fun c5 => ?_) (fun c5 => ?_)
      · have h := if_at c5 h
        refine lv_aload_n hx hb dX6_thingOf_48 rfl (lv_at hl 0 rfl) ?_
        refine gX_0_0 X K G q_300 dX6_thingOf_49 ?_
        refine lv_iload_n hx hb dX6_thingOf_52 rfl (lv_at hl 1 rfl) ?_
        refine lv_iload_n hx hb dX6_thingOf_53 rfl (lv_at hl 2 rfl) ?_
        obtain ⟨r6, u7, er6, h⟩ := bnd_at h
        refine cvI (rest := []) X K G (c_X5_hasStep er6) q_558 my_X5_hasStep ⟨rfl, rfl⟩ ⟨Nat.le_of_ble_eq_true rfl, Nat.le_of_ble_eq_true rfl⟩ ⟨Nat.zero_le _, Nat.zero_le _⟩ 1 5 rfl rfl rfl rfl hl.1 rfl (Nat.le_of_ble_eq_true rfl) dX6_thingOf_54 (fun H locs G => ?_)
        clear er6
        refine lv_if_eq (tgt := 69) hx hb dX6_thingOf_57 (by decide) (fun c8 => ?_) (fun c8 => ?_)
        · have h := it_at c8 h
          refine lv_aload_n hx hb dX6_thingOf_69 rfl (lv_at hl 0 rfl) ?_
          refine lv_iconst (v := 0) hx hb dX6_thingOf_70 (by decide) ?_
          obtain ⟨r9, u10, er9, h⟩ := bnd_at h
          refine cvI (rest := []) X K G (c_X6_found er9) q_338 my_X6_found ⟨rfl, rfl⟩ ⟨Nat.le_of_ble_eq_true rfl, Nat.le_of_ble_eq_true rfl⟩ ⟨Nat.zero_le _, Nat.zero_le _⟩ 0 6 rfl rfl rfl rfl hl.1 rfl (Nat.le_of_ble_eq_true rfl) dX6_thingOf_71 (fun H locs G => ?_)
          clear er9
          obtain ⟨rfl, rfl⟩ := pair_at h
          exact reI X G dX6_thingOf_74
        · have h := if_at c8 h
          refine lv_iload_n hx hb dX6_thingOf_60 rfl (lv_at hl 3 rfl) ?_
          refine lv_iconst (v := 0) hx hb dX6_thingOf_61 (by decide) ?_
          refine lv_iconst (v := 2) hx hb dX6_thingOf_62 (by decide) ?_
          obtain ⟨r11, u12, er11, h⟩ := bnd_at h
          refine csI (rest := []) X K G (c_X6_within er11) q_335 my_X6_within ⟨rfl, rfl⟩ ⟨Nat.le_of_ble_eq_true rfl, Nat.le_of_ble_eq_true rfl⟩ ⟨Nat.zero_le _, Nat.zero_le _⟩ rfl hl.1 rfl (Nat.le_of_ble_eq_true rfl) dX6_thingOf_63 (fun H locs G => ?_)
          clear er11
          refine lv_if_ne (tgt := 75) hx hb dX6_thingOf_66 (by decide) (fun c13 => ?_) (fun c13 => ?_)
          · have h := if_at c13 h
            refine lv_aload_n hx hb dX6_thingOf_75 rfl (lv_at hl 0 rfl) ?_
            refine gX_0_0 X K G q_300 dX6_thingOf_76 ?_
            refine lv_iload_n hx hb dX6_thingOf_79 rfl (lv_at hl 1 rfl) ?_
            refine lv_iload_n hx hb dX6_thingOf_80 rfl (lv_at hl 2 rfl) ?_
            refine lv_iload_n hx hb dX6_thingOf_81 rfl (lv_at hl 3 rfl) ?_
            obtain ⟨r14, u15, er14, h⟩ := bnd_at h
            refine cvI (rest := []) X K G (c_X5_stepNumber er14) q_562 my_X5_stepNumber ⟨rfl, rfl⟩ ⟨Nat.le_of_ble_eq_true rfl, Nat.le_of_ble_eq_true rfl⟩ ⟨Nat.zero_le _, Nat.zero_le _⟩ 1 5 rfl rfl rfl rfl hl.1 rfl (Nat.le_of_ble_eq_true rfl) dX6_thingOf_82 (fun H locs G => ?_)
            clear er14
            obtain ⟨rfl, rfl⟩ := pair_at h
            exact reI X G dX6_thingOf_85
          · have h := it_at c13 h
            refine lv_aload_n hx hb dX6_thingOf_69 rfl (lv_at hl 0 rfl) ?_
            refine lv_iconst (v := 0) hx hb dX6_thingOf_70 (by decide) ?_
            obtain ⟨r16, u17, er16, h⟩ := bnd_at h
            refine cvI (rest := []) X K G (c_X6_found er16) q_338 my_X6_found ⟨rfl, rfl⟩ ⟨Nat.le_of_ble_eq_true rfl, Nat.le_of_ble_eq_true rfl⟩ ⟨Nat.zero_le _, Nat.zero_le _⟩ 0 6 rfl rfl rfl rfl hl.1 rfl (Nat.le_of_ble_eq_true rfl) dX6_thingOf_71 (fun H locs G => ?_)
            clear er16
            obtain ⟨rfl, rfl⟩ := pair_at h
            exact reI X G dX6_thingOf_74
      · have h := it_at c5 h
        refine lv_aload_n hx hb dX6_thingOf_38 rfl (lv_at hl 0 rfl) ?_
        refine gX_0_0 X K G q_300 dX6_thingOf_39 ?_
        refine gX_1_8 X K G q_131 dX6_thingOf_42 ?_
        refine lv_iload_n hx hb dX6_thingOf_45 rfl (lv_at hl 1 rfl) ?_
        obtain ⟨g18, h⟩ := ck_at h
        refine lX_4 X K G g18 dX6_thingOf_46 ?_
        obtain ⟨rfl, rfl⟩ := pair_at h
        exact reI X G dX6_thingOf_47
    · have h := it_at c4 h
      refine lv_aload_n hx hb dX6_thingOf_22 rfl (lv_at hl 0 rfl) ?_
      refine gX_0_0 X K G q_300 dX6_thingOf_23 ?_
      refine gX_1_7 X K G q_127 dX6_thingOf_26 ?_
      refine lv_iload_n hx hb dX6_thingOf_29 rfl (lv_at hl 1 rfl) ?_
      obtain ⟨g19, h⟩ := ck_at h
      refine lX_3 X K G g19 dX6_thingOf_30 ?_
      obtain ⟨rfl, rfl⟩ := pair_at h
      exact reI X G dX6_thingOf_31
  · have h := it_at c3 h
    refine lv_aload_n hx hb dX6_thingOf_11 rfl (lv_at hl 0 rfl) ?_
    refine lv_iconst (v := 0) hx hb dX6_thingOf_12 (by decide) ?_
    obtain ⟨r20, u21, er20, h⟩ := bnd_at h
    refine cvI (rest := []) X K G (c_X6_found er20) q_338 my_X6_found ⟨rfl, rfl⟩ ⟨Nat.le_of_ble_eq_true rfl, Nat.le_of_ble_eq_true rfl⟩ ⟨Nat.zero_le _, Nat.zero_le _⟩ 0 6 rfl rfl rfl rfl hl.1 rfl (Nat.le_of_ble_eq_true rfl) dX6_thingOf_13 (fun H locs G => ?_)
    clear er20
    obtain ⟨rfl, rfl⟩ := pair_at h
    exact reI X G dX6_thingOf_16
noncomputable def f_X6_turn (a1 : Int32) (a2 : Int32) (u0 : XS) : Option (Int32 × XS) :=
  bnd (f_X5_hasThing a1 u0) fun r1 u2 =>
  (if r1 = 0 then
    bnd (f_X6_found (0 : Int32) u2) fun r4 u5 =>
    some (r4, u5)
  else
    bnd (f_X6_within a2 (0 : Int32) (6 : Int32) u2) fun r6 u7 =>
    (if r6 = 0 then
      bnd (f_X6_found (0 : Int32) u7) fun r13 u14 =>
      some (r13, u14)
    else
      if a1 < 0 ∨ 8 ≤ a1.toNatClampNeg then none else
      nmv ((tKinds (xT u7)) a1.toNatClampNeg) fun x10 =>
      if a1 < 0 ∨ 8 ≤ a1.toNatClampNeg then none else
      nmv (sT u7 (uKinds (xT u7) (upd (tKinds (xT u7)) a1.toNatClampNeg a2))) fun u12 =>
      some (x10, u12)))
set_option maxRecDepth 100000 in
set_option maxHeartbeats 4000000 in
theorem c_X6_turn {a1 : Int32} {a2 : Int32} {u0 : XS} {r : Int32} {u' : XS} (h : f_X6_turn a1 a2 u0 = some (r, u')) : MI l D cI cZ cQ adK adV A yX6_turn cX6_turn 4 (some .int) { frames := 2, cells := 0, slots := 0, locals := 43 } [.ref (ad 0), .int a1, .int a2] (wX cI cZ cQ ad) u0 r u' := by
  unfold f_X6_turn at h
  refine entI (by decide) (Nat.le_of_ble_eq_true rfl) (fun p e s m below meth c ls X K G hl => ?_)
  have hl : lv_has ls 4 [(0, .ref (ad 0)), (1, .int a1), (2, .int a2)] := hl
  obtain ⟨hx, hb, -⟩ := id X
  generalize hH : s.heap = H at G
  subst hH
  refine lv_aload_n hx hb dX6_turn_0 rfl (lv_at hl 0 rfl) ?_
  refine gX_0_0 X K G q_300 dX6_turn_1 ?_
  refine lv_iload_n hx hb dX6_turn_4 rfl (lv_at hl 1 rfl) ?_
  obtain ⟨r1, u2, er1, h⟩ := bnd_at h
  refine cvI (rest := []) X K G (c_X5_hasThing er1) q_553 my_X5_hasThing ⟨rfl, rfl⟩ ⟨Nat.le_of_ble_eq_true rfl, Nat.le_of_ble_eq_true rfl⟩ ⟨Nat.zero_le _, Nat.zero_le _⟩ 1 5 rfl rfl rfl rfl hl.1 rfl (Nat.le_of_ble_eq_true rfl) dX6_turn_5 (fun H locs G => ?_)
  clear er1
  refine lv_if_eq (tgt := 21) hx hb dX6_turn_8 (by decide) (fun c3 => ?_) (fun c3 => ?_)
  · have h := it_at c3 h
    refine lv_aload_n hx hb dX6_turn_21 rfl (lv_at hl 0 rfl) ?_
    refine lv_iconst (v := 0) hx hb dX6_turn_22 (by decide) ?_
    obtain ⟨r4, u5, er4, h⟩ := bnd_at h
    refine cvI (rest := []) X K G (c_X6_found er4) q_338 my_X6_found ⟨rfl, rfl⟩ ⟨Nat.le_of_ble_eq_true rfl, Nat.le_of_ble_eq_true rfl⟩ ⟨Nat.zero_le _, Nat.zero_le _⟩ 0 6 rfl rfl rfl rfl hl.1 rfl (Nat.le_of_ble_eq_true rfl) dX6_turn_23 (fun H locs G => ?_)
    clear er4
    obtain ⟨rfl, rfl⟩ := pair_at h
    exact reI X G dX6_turn_26
  · have h := if_at c3 h
    refine lv_iload_n hx hb dX6_turn_11 rfl (lv_at hl 2 rfl) ?_
    refine lv_iconst (v := 0) hx hb dX6_turn_12 (by decide) ?_
    refine lv_bipush (v := 6) hx hb dX6_turn_13 (by decide) ?_
    obtain ⟨r6, u7, er6, h⟩ := bnd_at h
    refine csI (rest := []) X K G (c_X6_within er6) q_335 my_X6_within ⟨rfl, rfl⟩ ⟨Nat.le_of_ble_eq_true rfl, Nat.le_of_ble_eq_true rfl⟩ ⟨Nat.zero_le _, Nat.zero_le _⟩ rfl hl.1 rfl (Nat.le_of_ble_eq_true rfl) dX6_turn_15 (fun H locs G => ?_)
    clear er6
    refine lv_if_ne (tgt := 27) hx hb dX6_turn_18 (by decide) (fun c8 => ?_) (fun c8 => ?_)
    · have h := if_at c8 h
      refine lv_aload_n hx hb dX6_turn_27 rfl (lv_at hl 0 rfl) ?_
      refine gX_0_0 X K G q_300 dX6_turn_28 ?_
      refine gX_1_7 X K G q_127 dX6_turn_31 ?_
      refine lv_iload_n hx hb dX6_turn_34 rfl (lv_at hl 1 rfl) ?_
      obtain ⟨g9, h⟩ := ck_at h
      refine lX_3 X K G g9 dX6_turn_35 ?_
      refine lv_topi (fun x10 ex10 => ?_)
      have h := nm_at ex10 h
      refine lv_istore_n (lv' := [(3, .int x10), (0, .ref (ad 0)), (1, .int a1), (2, .int a2)]) hx hb dX6_turn_36 rfl hl (by decide) rfl (fun ls hl => ?_)
      refine lv_aload_n hx hb dX6_turn_37 rfl (lv_at hl 1 rfl) ?_
      refine gX_0_0 X K G q_300 dX6_turn_38 ?_
      refine gX_1_7 X K G q_127 dX6_turn_41 ?_
      refine lv_iload_n hx hb dX6_turn_44 rfl (lv_at hl 2 rfl) ?_
      refine lv_iload_n hx hb dX6_turn_45 rfl (lv_at hl 3 rfl) ?_
      obtain ⟨g11, h⟩ := ck_at h
      refine aX_3 X K G g11 dX6_turn_46 (fun H locs G => ?_)
      obtain ⟨u12, eu12⟩ : ∃ z : XS, z = sT u7 (uKinds (xT u7) (upd (tKinds (xT u7)) a1.toNatClampNeg a2)) := ⟨_, rfl⟩
      have G : wg D A s.heap H locs (wX cI cZ cQ ad u12) := by rw [eu12]; exact G
      have h := nm_at eu12 h
      clear eu12
      refine lv_iload_n hx hb dX6_turn_47 rfl (lv_at hl 0 rfl) ?_
      obtain ⟨rfl, rfl⟩ := pair_at h
      exact reI X G dX6_turn_48
    · have h := it_at c8 h
      refine lv_aload_n hx hb dX6_turn_21 rfl (lv_at hl 0 rfl) ?_
      refine lv_iconst (v := 0) hx hb dX6_turn_22 (by decide) ?_
      obtain ⟨r13, u14, er13, h⟩ := bnd_at h
      refine cvI (rest := []) X K G (c_X6_found er13) q_338 my_X6_found ⟨rfl, rfl⟩ ⟨Nat.le_of_ble_eq_true rfl, Nat.le_of_ble_eq_true rfl⟩ ⟨Nat.zero_le _, Nat.zero_le _⟩ 0 6 rfl rfl rfl rfl hl.1 rfl (Nat.le_of_ble_eq_true rfl) dX6_turn_23 (fun H locs G => ?_)
      clear er13
      obtain ⟨rfl, rfl⟩ := pair_at h
      exact reI X G dX6_turn_26
noncomputable def f_X5_allowsInStep (a1 : Int32) (a2 : Int32) (u0 : XS) : Option (Int32 × XS) :=
  (if a1 = (0 : Int32) then
    bnd (f_X5_hasTool a2 u0) fun r2 u3 =>
    if ¬ (r2 = 0 ∨ r2 = 1) then none else
    some (r2, u3)
  else
  (if a1 = (1 : Int32) then
    bnd (f_X6_within a2 (1 : Int32) (8 : Int32) u0) fun r6 u7 =>
    if ¬ (r6 = 0 ∨ r6 = 1) then none else
    some (r6, u7)
  else
  bnd (f_X6_within a2 (0 : Int32) (99 : Int32) u0) fun r9 u10 =>
  if ¬ (r9 = 0 ∨ r9 = 1) then none else
  some (r9, u10)))
set_option maxRecDepth 100000 in
set_option maxHeartbeats 4000000 in
theorem c_X5_allowsInStep {a1 : Int32} {a2 : Int32} {u0 : XS} {r : Int32} {u' : XS} (h : f_X5_allowsInStep a1 a2 u0 = some (r, u')) : MI l D cI cZ cQ adK adV A yX5_allowsInStep cX5_allowsInStep 3 (some .boolean) { frames := 2, cells := 0, slots := 0, locals := 43 } [.ref (ad 1), .int a1, .int a2] (wX cI cZ cQ ad) u0 r u' := by
  unfold f_X5_allowsInStep at h
  refine entI (by decide) (Nat.le_of_ble_eq_true rfl) (fun p e s m below meth c ls X K G hl => ?_)
  have hl : lv_has ls 3 [(0, .ref (ad 1)), (1, .int a1), (2, .int a2)] := hl
  obtain ⟨hx, hb, -⟩ := id X
  generalize hH : s.heap = H at G
  subst hH
  refine lv_iload_n hx hb dX5_allowsInStep_0 rfl (lv_at hl 1 rfl) ?_
  by_cases c1 : a1 = (0 : Int32)
  · have h := it_at c1 h
    refine lswI X (0 : Int32) c1 dX5_allowsInStep_1 (off := 27) (tgt := 28) (by decide) ?_
    refine lv_aload_n hx hb dX5_allowsInStep_28 rfl (lv_at hl 0 rfl) ?_
    refine lv_iload_n hx hb dX5_allowsInStep_29 rfl (lv_at hl 2 rfl) ?_
    obtain ⟨r2, u3, er2, h⟩ := bnd_at h
    refine cvI (rest := []) X K G (c_X5_hasTool er2) q_578 my_X5_hasTool ⟨rfl, rfl⟩ ⟨Nat.le_of_ble_eq_true rfl, Nat.le_of_ble_eq_true rfl⟩ ⟨Nat.zero_le _, Nat.zero_le _⟩ 1 5 rfl rfl rfl rfl hl.1 rfl (Nat.le_of_ble_eq_true rfl) dX5_allowsInStep_30 (fun H locs G => ?_)
    clear er2
    obtain ⟨g4, h⟩ := ck_at h
    obtain ⟨rfl, rfl⟩ := pair_at h
    exact reZ X G (Decidable.not_not.mp g4) dX5_allowsInStep_33
  have h := if_at c1 h
  by_cases c5 : a1 = (1 : Int32)
  · have h := it_at c5 h
    refine lswI X (1 : Int32) c5 dX5_allowsInStep_1 (off := 33) (tgt := 34) (by decide) ?_
    refine lv_iload_n hx hb dX5_allowsInStep_34 rfl (lv_at hl 2 rfl) ?_
    refine lv_iconst (v := 1) hx hb dX5_allowsInStep_35 (by decide) ?_
    refine lv_bipush (v := 8) hx hb dX5_allowsInStep_36 (by decide) ?_
    obtain ⟨r6, u7, er6, h⟩ := bnd_at h
    refine cnI (rest := []) X K G (c_X6_within er6) K.2.1.2.1 my_X6_within ⟨rfl, rfl⟩ ⟨Nat.le_of_ble_eq_true rfl, Nat.le_of_ble_eq_true rfl⟩ ⟨Nat.zero_le _, Nat.zero_le _⟩ rfl hl.1 rfl (Nat.le_of_ble_eq_true rfl) dX5_allowsInStep_38 (fun H locs G => ?_)
    clear er6
    obtain ⟨g8, h⟩ := ck_at h
    obtain ⟨rfl, rfl⟩ := pair_at h
    exact reZ X G (Decidable.not_not.mp g8) dX5_allowsInStep_41
  have h := if_at c5 h
  have hof : Op.lookupswitch.offset [(0, 27), (1, 33)] 41 a1.toInt = 41 := by rw [lv_osw (a := 0) c1 rfl, lv_osw (a := 1) c5 rfl]; rfl
  refine lv_lookup (tgt := 42) hx hb dX5_allowsInStep_1 (by decide) hof (by decide) ?_
  refine lv_iload_n hx hb dX5_allowsInStep_42 rfl (lv_at hl 2 rfl) ?_
  refine lv_iconst (v := 0) hx hb dX5_allowsInStep_43 (by decide) ?_
  refine lv_bipush (v := 99) hx hb dX5_allowsInStep_44 (by decide) ?_
  obtain ⟨r9, u10, er9, h⟩ := bnd_at h
  refine cnI (rest := []) X K G (c_X6_within er9) K.2.1.2.1 my_X6_within ⟨rfl, rfl⟩ ⟨Nat.le_of_ble_eq_true rfl, Nat.le_of_ble_eq_true rfl⟩ ⟨Nat.zero_le _, Nat.zero_le _⟩ rfl hl.1 rfl (Nat.le_of_ble_eq_true rfl) dX5_allowsInStep_46 (fun H locs G => ?_)
  clear er9
  obtain ⟨g11, h⟩ := ck_at h
  obtain ⟨rfl, rfl⟩ := pair_at h
  exact reZ X G (Decidable.not_not.mp g11) dX5_allowsInStep_49
noncomputable def f_X6_change (a1 : Int32) (a2 : Int32) (a3 : Int32) (a4 : Int32) (u0 : XS) : Option (Int32 × XS) :=
  bnd (f_X5_hasStep a1 a2 u0) fun r1 u2 =>
  (if r1 = 0 then
    bnd (f_X6_found (0 : Int32) u2) fun r4 u5 =>
    some (r4, u5)
  else
    bnd (f_X6_within a3 (0 : Int32) (2 : Int32) u2) fun r6 u7 =>
    (if r6 = 0 then
      bnd (f_X6_found (0 : Int32) u7) fun r9 u10 =>
      some (r9, u10)
    else
      bnd (f_X5_allowsInStep a3 a4 u7) fun r11 u12 =>
      (if r11 = 0 then
        bnd (f_X6_found (0 : Int32) u12) fun r18 u19 =>
        some (r18, u19)
      else
        bnd (f_X5_stepNumber a1 a2 a3 u12) fun r14 u15 =>
        bnd (f_X5_putStepNumber a1 a2 a3 a4 u15) fun r16 u17 =>
        some (r14, u17))))
set_option maxRecDepth 100000 in
set_option maxHeartbeats 4000000 in
theorem c_X6_change {a1 : Int32} {a2 : Int32} {a3 : Int32} {a4 : Int32} {u0 : XS} {r : Int32} {u' : XS} (h : f_X6_change a1 a2 a3 a4 u0 = some (r, u')) : MI l D cI cZ cQ adK adV A yX6_change cX6_change 6 (some .int) { frames := 3, cells := 0, slots := 0, locals := 65 } [.ref (ad 0), .int a1, .int a2, .int a3, .int a4] (wX cI cZ cQ ad) u0 r u' := by
  unfold f_X6_change at h
  refine entI (by decide) (Nat.le_of_ble_eq_true rfl) (fun p e s m below meth c ls X K G hl => ?_)
  have hl : lv_has ls 6 [(0, .ref (ad 0)), (1, .int a1), (2, .int a2), (3, .int a3), (4, .int a4)] := hl
  obtain ⟨hx, hb, -⟩ := id X
  generalize hH : s.heap = H at G
  subst hH
  refine lv_aload_n hx hb dX6_change_0 rfl (lv_at hl 0 rfl) ?_
  refine gX_0_0 X K G q_300 dX6_change_1 ?_
  refine lv_iload_n hx hb dX6_change_4 rfl (lv_at hl 1 rfl) ?_
  refine lv_iload_n hx hb dX6_change_5 rfl (lv_at hl 2 rfl) ?_
  obtain ⟨r1, u2, er1, h⟩ := bnd_at h
  refine cvI (rest := []) X K G (c_X5_hasStep er1) q_558 my_X5_hasStep ⟨rfl, rfl⟩ ⟨Nat.le_of_ble_eq_true rfl, Nat.le_of_ble_eq_true rfl⟩ ⟨Nat.zero_le _, Nat.zero_le _⟩ 1 5 rfl rfl rfl rfl hl.1 rfl (Nat.le_of_ble_eq_true rfl) dX6_change_6 (fun H locs G => ?_)
  clear er1
  refine lv_if_eq (tgt := 34) hx hb dX6_change_9 (by decide) (fun c3 => ?_) (fun c3 => ?_)
  · have h := it_at c3 h
    refine lv_aload_n hx hb dX6_change_34 rfl (lv_at hl 0 rfl) ?_
    refine lv_iconst (v := 0) hx hb dX6_change_35 (by decide) ?_
    obtain ⟨r4, u5, er4, h⟩ := bnd_at h
    refine cvI (rest := []) X K G (c_X6_found er4) q_338 my_X6_found ⟨rfl, rfl⟩ ⟨Nat.le_of_ble_eq_true rfl, Nat.le_of_ble_eq_true rfl⟩ ⟨Nat.zero_le _, Nat.zero_le _⟩ 0 6 rfl rfl rfl rfl hl.1 rfl (Nat.le_of_ble_eq_true rfl) dX6_change_36 (fun H locs G => ?_)
    clear er4
    obtain ⟨rfl, rfl⟩ := pair_at h
    exact reI X G dX6_change_39
  · have h := if_at c3 h
    refine lv_iload_n hx hb dX6_change_12 rfl (lv_at hl 3 rfl) ?_
    refine lv_iconst (v := 0) hx hb dX6_change_13 (by decide) ?_
    refine lv_iconst (v := 2) hx hb dX6_change_14 (by decide) ?_
    obtain ⟨r6, u7, er6, h⟩ := bnd_at h
    refine csI (rest := []) X K G (c_X6_within er6) q_335 my_X6_within ⟨rfl, rfl⟩ ⟨Nat.le_of_ble_eq_true rfl, Nat.le_of_ble_eq_true rfl⟩ ⟨Nat.zero_le _, Nat.zero_le _⟩ rfl hl.1 rfl (Nat.le_of_ble_eq_true rfl) dX6_change_15 (fun H locs G => ?_)
    clear er6
    refine lv_if_eq (tgt := 34) hx hb dX6_change_18 (by decide) (fun c8 => ?_) (fun c8 => ?_)
    · have h := it_at c8 h
      refine lv_aload_n hx hb dX6_change_34 rfl (lv_at hl 0 rfl) ?_
      refine lv_iconst (v := 0) hx hb dX6_change_35 (by decide) ?_
      obtain ⟨r9, u10, er9, h⟩ := bnd_at h
      refine cvI (rest := []) X K G (c_X6_found er9) q_338 my_X6_found ⟨rfl, rfl⟩ ⟨Nat.le_of_ble_eq_true rfl, Nat.le_of_ble_eq_true rfl⟩ ⟨Nat.zero_le _, Nat.zero_le _⟩ 0 6 rfl rfl rfl rfl hl.1 rfl (Nat.le_of_ble_eq_true rfl) dX6_change_36 (fun H locs G => ?_)
      clear er9
      obtain ⟨rfl, rfl⟩ := pair_at h
      exact reI X G dX6_change_39
    · have h := if_at c8 h
      refine lv_aload_n hx hb dX6_change_21 rfl (lv_at hl 0 rfl) ?_
      refine gX_0_0 X K G q_300 dX6_change_22 ?_
      refine lv_iload_n hx hb dX6_change_25 rfl (lv_at hl 3 rfl) ?_
      refine lv_iload hx hb dX6_change_26 (lv_at hl 4 rfl) ?_
      obtain ⟨r11, u12, er11, h⟩ := bnd_at h
      refine cvI (rest := []) X K G (c_X5_allowsInStep er11) q_574 my_X5_allowsInStep ⟨rfl, rfl⟩ ⟨Nat.le_of_ble_eq_true rfl, Nat.le_of_ble_eq_true rfl⟩ ⟨Nat.zero_le _, Nat.zero_le _⟩ 1 5 rfl rfl rfl rfl hl.1 rfl (Nat.le_of_ble_eq_true rfl) dX6_change_28 (fun H locs G => ?_)
      clear er11
      refine lv_if_ne (tgt := 40) hx hb dX6_change_31 (by decide) (fun c13 => ?_) (fun c13 => ?_)
      · have h := if_at c13 h
        refine lv_aload_n hx hb dX6_change_40 rfl (lv_at hl 0 rfl) ?_
        refine gX_0_0 X K G q_300 dX6_change_41 ?_
        refine lv_iload_n hx hb dX6_change_44 rfl (lv_at hl 1 rfl) ?_
        refine lv_iload_n hx hb dX6_change_45 rfl (lv_at hl 2 rfl) ?_
        refine lv_iload_n hx hb dX6_change_46 rfl (lv_at hl 3 rfl) ?_
        obtain ⟨r14, u15, er14, h⟩ := bnd_at h
        refine cvI (rest := []) X K G (c_X5_stepNumber er14) q_562 my_X5_stepNumber ⟨rfl, rfl⟩ ⟨Nat.le_of_ble_eq_true rfl, Nat.le_of_ble_eq_true rfl⟩ ⟨Nat.zero_le _, Nat.zero_le _⟩ 1 5 rfl rfl rfl rfl hl.1 rfl (Nat.le_of_ble_eq_true rfl) dX6_change_47 (fun H locs G => ?_)
        clear er14
        refine lv_istore (lv' := [(5, .int r14), (0, .ref (ad 0)), (1, .int a1), (2, .int a2), (3, .int a3), (4, .int a4)]) hx hb dX6_change_50 hl (by decide) rfl (fun ls hl => ?_)
        refine lv_aload_n hx hb dX6_change_52 rfl (lv_at hl 1 rfl) ?_
        refine gX_0_0 X K G q_300 dX6_change_53 ?_
        refine lv_iload_n hx hb dX6_change_56 rfl (lv_at hl 2 rfl) ?_
        refine lv_iload_n hx hb dX6_change_57 rfl (lv_at hl 3 rfl) ?_
        refine lv_iload_n hx hb dX6_change_58 rfl (lv_at hl 4 rfl) ?_
        refine lv_iload hx hb dX6_change_59 (lv_at hl 5 rfl) ?_
        obtain ⟨r16, u17, er16, h⟩ := bnd_at h
        refine cvV (rest := []) X K G (c_X5_putStepNumber er16) q_579 my_X5_putStepNumber ⟨rfl, rfl⟩ ⟨Nat.le_of_ble_eq_true rfl, Nat.le_of_ble_eq_true rfl⟩ ⟨Nat.zero_le _, Nat.zero_le _⟩ 1 5 rfl rfl rfl rfl hl.1 rfl (Nat.le_of_ble_eq_true rfl) dX6_change_61 (fun H locs G => ?_)
        clear er16
        refine lv_iload hx hb dX6_change_64 (lv_at hl 0 rfl) ?_
        obtain ⟨rfl, rfl⟩ := pair_at h
        exact reI X G dX6_change_66
      · have h := it_at c13 h
        refine lv_aload_n hx hb dX6_change_34 rfl (lv_at hl 0 rfl) ?_
        refine lv_iconst (v := 0) hx hb dX6_change_35 (by decide) ?_
        obtain ⟨r18, u19, er18, h⟩ := bnd_at h
        refine cvI (rest := []) X K G (c_X6_found er18) q_338 my_X6_found ⟨rfl, rfl⟩ ⟨Nat.le_of_ble_eq_true rfl, Nat.le_of_ble_eq_true rfl⟩ ⟨Nat.zero_le _, Nat.zero_le _⟩ 0 6 rfl rfl rfl rfl hl.1 rfl (Nat.le_of_ble_eq_true rfl) dX6_change_36 (fun H locs G => ?_)
        clear er18
        obtain ⟨rfl, rfl⟩ := pair_at h
        exact reI X G dX6_change_39
noncomputable def f_X0_plannedFrom (a1 : Int32) (a2 : Int32) (a3 : Int32) (u0 : XS) : Option (Int32 × XS) :=
  (if a2 = 0 then
    bnd (f_X0_firstDay a1 a3 (0 : Int32) u0) fun r4 u5 =>
    some (r4, u5)
  else
    bnd (f_X0_firstDay a1 (a3 + (1 : Int32)) (0 : Int32) u0) fun r2 u3 =>
    some (r2, u3))
set_option maxRecDepth 100000 in
set_option maxHeartbeats 4000000 in
theorem c_X0_plannedFrom {a1 : Int32} {a2 : Int32} {a3 : Int32} {u0 : XS} {r : Int32} {u' : XS} (h : f_X0_plannedFrom a1 a2 a3 u0 = some (r, u')) : MI l D cI cZ cQ adK adV A yX0_plannedFrom cX0_plannedFrom 4 (some .int) { frames := 1, cells := 0, slots := 0, locals := 27 } [.ref (ad 24), .int a1, .int a2, .int a3] (wX cI cZ cQ ad) u0 r u' := by
  unfold f_X0_plannedFrom at h
  refine entI (by decide) (Nat.le_of_ble_eq_true rfl) (fun p e s m below meth c ls X K G hl => ?_)
  have hl : lv_has ls 4 [(0, .ref (ad 24)), (1, .int a1), (2, .int a2), (3, .int a3)] := hl
  obtain ⟨hx, hb, -⟩ := id X
  generalize hH : s.heap = H at G
  subst hH
  refine lv_aload_n hx hb dX0_plannedFrom_0 rfl (lv_at hl 0 rfl) ?_
  refine lv_iload_n hx hb dX0_plannedFrom_1 rfl (lv_at hl 1 rfl) ?_
  refine lv_iload_n hx hb dX0_plannedFrom_2 rfl (lv_at hl 2 rfl) ?_
  refine lv_if_ne (tgt := 10) hx hb dX0_plannedFrom_3 (by decide) (fun c1 => ?_) (fun c1 => ?_)
  · have h := if_at c1 h
    refine lv_iload_n hx hb dX0_plannedFrom_10 rfl (lv_at hl 3 rfl) ?_
    refine lv_iconst (v := 1) hx hb dX0_plannedFrom_11 (by decide) ?_
    refine lv_iadd hx hb dX0_plannedFrom_12 ?_
    refine lv_iconst (v := 0) hx hb dX0_plannedFrom_13 (by decide) ?_
    obtain ⟨r2, u3, er2, h⟩ := bnd_at h
    refine cvI (rest := []) X K G (c_X0_firstDay er2) q_589 my_X0_firstDay ⟨rfl, rfl⟩ ⟨Nat.le_of_ble_eq_true rfl, Nat.le_of_ble_eq_true rfl⟩ ⟨Nat.zero_le _, Nat.zero_le _⟩ 24 0 rfl rfl rfl rfl hl.1 rfl (Nat.le_of_ble_eq_true rfl) dX0_plannedFrom_14 (fun H locs G => ?_)
    clear er2
    obtain ⟨rfl, rfl⟩ := pair_at h
    exact reI X G dX0_plannedFrom_17
  · have h := it_at c1 h
    refine lv_iload_n hx hb dX0_plannedFrom_6 rfl (lv_at hl 3 rfl) ?_
    refine lv_goto (tgt := 13) hx hb dX0_plannedFrom_7 (by decide) ?_
    refine lv_iconst (v := 0) hx hb dX0_plannedFrom_13 (by decide) ?_
    obtain ⟨r4, u5, er4, h⟩ := bnd_at h
    refine cvI (rest := []) X K G (c_X0_firstDay er4) q_589 my_X0_firstDay ⟨rfl, rfl⟩ ⟨Nat.le_of_ble_eq_true rfl, Nat.le_of_ble_eq_true rfl⟩ ⟨Nat.zero_le _, Nat.zero_le _⟩ 24 0 rfl rfl rfl rfl hl.1 rfl (Nat.le_of_ble_eq_true rfl) dX0_plannedFrom_14 (fun H locs G => ?_)
    clear er4
    obtain ⟨rfl, rfl⟩ := pair_at h
    exact reI X G dX0_plannedFrom_17
noncomputable def f_X0_zeroFrom (a1 : Int32) (u0 : XS) : Option (Int32 × XS) :=
  (if (1 : Int32) ≤ (tRound (xT u0)) then
    nmv (tRound (xT u0)) fun x2 =>
    if x2 = 0 then none else
    nmv (a1 - a1 / x2 * x2) fun x3 =>
    (if x3 = 0 then
      some (a1, u0)
    else
      some ((a1 + (tRound (xT u0))) - x3, u0))
  else
    some ((-1 : Int32), u0))
set_option maxRecDepth 100000 in
set_option maxHeartbeats 4000000 in
theorem c_X0_zeroFrom {a1 : Int32} {u0 : XS} {r : Int32} {u' : XS} (h : f_X0_zeroFrom a1 u0 = some (r, u')) : MI l D cI cZ cQ adK adV A yX0_zeroFrom cX0_zeroFrom 3 (some .int) { frames := 0, cells := 0, slots := 0, locals := 0 } [.ref (ad 24), .int a1] (wX cI cZ cQ ad) u0 r u' := by
  unfold f_X0_zeroFrom at h
  refine entI (by decide) (Nat.le_of_ble_eq_true rfl) (fun p e s m below meth c ls X K G hl => ?_)
  have hl : lv_has ls 3 [(0, .ref (ad 24)), (1, .int a1)] := hl
  obtain ⟨hx, hb, -⟩ := id X
  generalize hH : s.heap = H at G
  subst hH
  refine lv_aload_n hx hb dX0_zeroFrom_0 rfl (lv_at hl 0 rfl) ?_
  refine gX_24_0 X K G q_184 dX0_zeroFrom_1 ?_
  refine gX_1_0 X K G q_102 dX0_zeroFrom_4 ?_
  refine lv_iconst (v := 1) hx hb dX0_zeroFrom_7 (by decide) ?_
  refine lv_icmp_ge (tgt := 13) hx hb dX0_zeroFrom_8 (by decide) (fun c1 => ?_) (fun c1 => ?_)
  · have h := it_at c1 h
    refine lv_iload_n hx hb dX0_zeroFrom_13 rfl (lv_at hl 1 rfl) ?_
    refine lv_aload_n hx hb dX0_zeroFrom_14 rfl (lv_at hl 0 rfl) ?_
    refine gX_24_0 X K G q_184 dX0_zeroFrom_15 ?_
    refine gX_1_0 X K G q_102 dX0_zeroFrom_18 ?_
    refine lv_topi (fun x2 ex2 => ?_)
    have h := nm_at ex2 h
    obtain ⟨g5, h⟩ := ck_at h
    refine lv_irem hx hb dX0_zeroFrom_21 g5 ?_
    refine lv_topi (fun x3 ex3 => ?_)
    have h := nm_at ex3 h
    refine lv_istore_n (lv' := [(2, .int x3), (0, .ref (ad 24)), (1, .int a1)]) hx hb dX0_zeroFrom_22 rfl hl (by decide) rfl (fun ls hl => ?_)
    refine lv_iload_n hx hb dX0_zeroFrom_23 rfl (lv_at hl 0 rfl) ?_
    refine lv_if_ne (tgt := 31) hx hb dX0_zeroFrom_24 (by decide) (fun c4 => ?_) (fun c4 => ?_)
    · have h := if_at c4 h
      refine lv_iload_n hx hb dX0_zeroFrom_31 rfl (lv_at hl 2 rfl) ?_
      refine lv_aload_n hx hb dX0_zeroFrom_32 rfl (lv_at hl 1 rfl) ?_
      refine gX_24_0 X K G q_184 dX0_zeroFrom_33 ?_
      refine gX_1_0 X K G q_102 dX0_zeroFrom_36 ?_
      refine lv_iadd hx hb dX0_zeroFrom_39 ?_
      refine lv_iload_n hx hb dX0_zeroFrom_40 rfl (lv_at hl 0 rfl) ?_
      refine lv_isub hx hb dX0_zeroFrom_41 ?_
      obtain ⟨rfl, rfl⟩ := pair_at h
      exact reI X G dX0_zeroFrom_42
    · have h := it_at c4 h
      refine lv_iload_n hx hb dX0_zeroFrom_27 rfl (lv_at hl 2 rfl) ?_
      refine lv_goto (tgt := 42) hx hb dX0_zeroFrom_28 (by decide) ?_
      obtain ⟨rfl, rfl⟩ := pair_at h
      exact reI X G dX0_zeroFrom_42
  · have h := if_at c1 h
    refine lv_iconst (v := -1) hx hb dX0_zeroFrom_11 (by decide) ?_
    obtain ⟨rfl, rfl⟩ := pair_at h
    exact reI X G dX0_zeroFrom_12
noncomputable def f_X0_walkedFrom (a1 : Int32) (a2 : Int32) (u0 : XS) : Option (Int32 × XS) :=
  bnd (f_X0_firstDay a1 a2 (0 : Int32) u0) fun r1 u2 =>
  (if 0 ≤ (tNear (xT u2)) then
    bnd (f_X0_firstDay a1 (a2 + (1 : Int32)) (tNear (xT u2)) u2) fun r4 u5 =>
    some (if r4 < r1 then r4 else r1, u5)
  else
    some (r1, u2))
set_option maxRecDepth 100000 in
set_option maxHeartbeats 4000000 in
theorem c_X0_walkedFrom {a1 : Int32} {a2 : Int32} {u0 : XS} {r : Int32} {u' : XS} (h : f_X0_walkedFrom a1 a2 u0 = some (r, u')) : MI l D cI cZ cQ adK adV A yX0_walkedFrom cX0_walkedFrom 4 (some .int) { frames := 1, cells := 0, slots := 0, locals := 27 } [.ref (ad 24), .int a1, .int a2] (wX cI cZ cQ ad) u0 r u' := by
  unfold f_X0_walkedFrom at h
  refine entI (by decide) (Nat.le_of_ble_eq_true rfl) (fun p e s m below meth c ls X K G hl => ?_)
  have hl : lv_has ls 4 [(0, .ref (ad 24)), (1, .int a1), (2, .int a2)] := hl
  obtain ⟨hx, hb, -⟩ := id X
  generalize hH : s.heap = H at G
  subst hH
  refine lv_aload_n hx hb dX0_walkedFrom_0 rfl (lv_at hl 0 rfl) ?_
  refine lv_iload_n hx hb dX0_walkedFrom_1 rfl (lv_at hl 1 rfl) ?_
  refine lv_iload_n hx hb dX0_walkedFrom_2 rfl (lv_at hl 2 rfl) ?_
  refine lv_iconst (v := 0) hx hb dX0_walkedFrom_3 (by decide) ?_
  obtain ⟨r1, u2, er1, h⟩ := bnd_at h
  refine cvI (rest := []) X K G (c_X0_firstDay er1) q_589 my_X0_firstDay ⟨rfl, rfl⟩ ⟨Nat.le_of_ble_eq_true rfl, Nat.le_of_ble_eq_true rfl⟩ ⟨Nat.zero_le _, Nat.zero_le _⟩ 24 0 rfl rfl rfl rfl hl.1 rfl (Nat.le_of_ble_eq_true rfl) dX0_walkedFrom_4 (fun H locs G => ?_)
  clear er1
  refine lv_istore_n (lv' := [(3, .int r1), (0, .ref (ad 24)), (1, .int a1), (2, .int a2)]) hx hb dX0_walkedFrom_7 rfl hl (by decide) rfl (fun ls hl => ?_)
  refine lv_aload_n hx hb dX0_walkedFrom_8 rfl (lv_at hl 1 rfl) ?_
  refine gX_24_0 X K G q_184 dX0_walkedFrom_9 ?_
  refine gX_1_1 X K G q_108 dX0_walkedFrom_12 ?_
  refine lv_if_ge (tgt := 20) hx hb dX0_walkedFrom_15 (by decide) (fun c3 => ?_) (fun c3 => ?_)
  · have h := it_at c3 h
    refine lv_iload_n hx hb dX0_walkedFrom_20 rfl (lv_at hl 0 rfl) ?_
    refine lv_aload_n hx hb dX0_walkedFrom_21 rfl (lv_at hl 1 rfl) ?_
    refine lv_iload_n hx hb dX0_walkedFrom_22 rfl (lv_at hl 2 rfl) ?_
    refine lv_iload_n hx hb dX0_walkedFrom_23 rfl (lv_at hl 3 rfl) ?_
    refine lv_iconst (v := 1) hx hb dX0_walkedFrom_24 (by decide) ?_
    refine lv_iadd hx hb dX0_walkedFrom_25 ?_
    refine lv_aload_n hx hb dX0_walkedFrom_26 rfl (lv_at hl 1 rfl) ?_
    refine gX_24_0 X K G q_184 dX0_walkedFrom_27 ?_
    refine gX_1_1 X K G q_108 dX0_walkedFrom_30 ?_
    obtain ⟨r4, u5, er4, h⟩ := bnd_at h
    refine cvI (rest := [.int r1]) X K G (c_X0_firstDay er4) q_589 my_X0_firstDay ⟨rfl, rfl⟩ ⟨Nat.le_of_ble_eq_true rfl, Nat.le_of_ble_eq_true rfl⟩ ⟨Nat.zero_le _, Nat.zero_le _⟩ 24 0 rfl rfl rfl rfl hl.1 rfl (Nat.le_of_ble_eq_true rfl) dX0_walkedFrom_33 (fun H locs G => ?_)
    clear er4
    refine va_mmin hx hb (by rw [X.2.2.1]; exact hl.1.symm) X.2.2.2.1 (X.2.2.2.2.1 _ q_602) (X.2.2.2.2.1 _ my_J9_min_7cf53.1) (X.2.2.2.2.1 _ my_J9_min_7cf53.2.1) (X.2.2.2.2.1 _ my_J9_min_7cf53.2.2.1) (Nat.le_of_ble_eq_true rfl) (Nat.le_of_ble_eq_true rfl) (Nat.zero_le _) (Nat.zero_le _) dX0_walkedFrom_36 ?_
    obtain ⟨rfl, rfl⟩ := pair_at h
    exact reI X G dX0_walkedFrom_39
  · have h := if_at c3 h
    refine lv_iload_n hx hb dX0_walkedFrom_18 rfl (lv_at hl 0 rfl) ?_
    obtain ⟨rfl, rfl⟩ := pair_at h
    exact reI X G dX0_walkedFrom_19
noncomputable def f_X6_isSooner (a0 : Int32) (a1 : Int32) (u0 : XS) : Option (Int32 × XS) :=
  (if a0 < 0 then
    some ((0 : Int32), u0)
  else
    (if a1 < 0 then
      some ((1 : Int32), u0)
    else
      (if a1 ≤ a0 then
        some ((0 : Int32), u0)
      else
        some ((1 : Int32), u0))))
set_option maxRecDepth 100000 in
set_option maxHeartbeats 4000000 in
theorem c_X6_isSooner {a0 : Int32} {a1 : Int32} {u0 : XS} {r : Int32} {u' : XS} (h : f_X6_isSooner a0 a1 u0 = some (r, u')) : MI l D cI cZ cQ adK adV A yX6_isSooner cX6_isSooner 2 (some .boolean) { frames := 0, cells := 0, slots := 0, locals := 0 } [.int a0, .int a1] (wX cI cZ cQ ad) u0 r u' := by
  unfold f_X6_isSooner at h
  refine entI (by decide) (Nat.le_of_ble_eq_true rfl) (fun p e s m below meth c ls X K G hl => ?_)
  have hl : lv_has ls 2 [(0, .int a0), (1, .int a1)] := hl
  obtain ⟨hx, hb, -⟩ := id X
  generalize hH : s.heap = H at G
  subst hH
  refine lv_iload_n hx hb dX6_isSooner_0 rfl (lv_at hl 0 rfl) ?_
  refine lv_if_lt (tgt := 17) hx hb dX6_isSooner_1 (by decide) (fun c1 => ?_) (fun c1 => ?_)
  · have h := it_at c1 h
    refine lv_iconst (v := 0) hx hb dX6_isSooner_17 (by decide) ?_
    obtain ⟨rfl, rfl⟩ := pair_at h
    exact reZ X G (Or.inl rfl) dX6_isSooner_18
  · have h := if_at c1 h
    refine lv_iload_n hx hb dX6_isSooner_4 rfl (lv_at hl 1 rfl) ?_
    refine lv_if_lt (tgt := 13) hx hb dX6_isSooner_5 (by decide) (fun c2 => ?_) (fun c2 => ?_)
    · have h := it_at c2 h
      refine lv_iconst (v := 1) hx hb dX6_isSooner_13 (by decide) ?_
      refine lv_goto (tgt := 18) hx hb dX6_isSooner_14 (by decide) ?_
      obtain ⟨rfl, rfl⟩ := pair_at h
      exact reZ X G (Or.inr rfl) dX6_isSooner_18
    · have h := if_at c2 h
      refine lv_iload_n hx hb dX6_isSooner_8 rfl (lv_at hl 0 rfl) ?_
      refine lv_iload_n hx hb dX6_isSooner_9 rfl (lv_at hl 1 rfl) ?_
      refine lv_icmp_ge (tgt := 17) hx hb dX6_isSooner_10 (by decide) (fun c3 => ?_) (fun c3 => ?_)
      · have h := it_at c3 h
        refine lv_iconst (v := 0) hx hb dX6_isSooner_17 (by decide) ?_
        obtain ⟨rfl, rfl⟩ := pair_at h
        exact reZ X G (Or.inl rfl) dX6_isSooner_18
      · have h := if_at c3 h
        refine lv_iconst (v := 1) hx hb dX6_isSooner_13 (by decide) ?_
        refine lv_goto (tgt := 18) hx hb dX6_isSooner_14 (by decide) ?_
        obtain ⟨rfl, rfl⟩ := pair_at h
        exact reZ X G (Or.inr rfl) dX6_isSooner_18
noncomputable def f_X0_bestOf (a1 : Int32) (a2 : Int32) (a3 : Int32) (u0 : XS) : Option (Int32 × XS) :=
  bnd (f_X0_zeroFrom a2 u0) fun r1 u2 =>
  (if a3 = 0 then
    some (a1, u2)
  else
    bnd (f_X6_isSooner r1 a1 u2) fun r4 u5 =>
    (if r4 = 0 then
      some (a1, u5)
    else
      some (r1, u5)))
set_option maxRecDepth 100000 in
set_option maxHeartbeats 4000000 in
theorem c_X0_bestOf {a1 : Int32} {a2 : Int32} {a3 : Int32} {u0 : XS} {r : Int32} {u' : XS} (h : f_X0_bestOf a1 a2 a3 u0 = some (r, u')) : MI l D cI cZ cQ adK adV A yX0_bestOf cX0_bestOf 5 (some .int) { frames := 1, cells := 0, slots := 0, locals := 22 } [.ref (ad 24), .int a1, .int a2, .int a3] (wX cI cZ cQ ad) u0 r u' := by
  unfold f_X0_bestOf at h
  refine entI (by decide) (Nat.le_of_ble_eq_true rfl) (fun p e s m below meth c ls X K G hl => ?_)
  have hl : lv_has ls 5 [(0, .ref (ad 24)), (1, .int a1), (2, .int a2), (3, .int a3)] := hl
  obtain ⟨hx, hb, -⟩ := id X
  generalize hH : s.heap = H at G
  subst hH
  refine lv_aload_n hx hb dX0_bestOf_0 rfl (lv_at hl 0 rfl) ?_
  refine lv_iload_n hx hb dX0_bestOf_1 rfl (lv_at hl 2 rfl) ?_
  obtain ⟨r1, u2, er1, h⟩ := bnd_at h
  refine cvI (rest := []) X K G (c_X0_zeroFrom er1) q_590 my_X0_zeroFrom ⟨rfl, rfl⟩ ⟨Nat.le_of_ble_eq_true rfl, Nat.le_of_ble_eq_true rfl⟩ ⟨Nat.zero_le _, Nat.zero_le _⟩ 24 0 rfl rfl rfl rfl hl.1 rfl (Nat.le_of_ble_eq_true rfl) dX0_bestOf_2 (fun H locs G => ?_)
  clear er1
  refine lv_istore (lv' := [(4, .int r1), (0, .ref (ad 24)), (1, .int a1), (2, .int a2), (3, .int a3)]) hx hb dX0_bestOf_5 hl (by decide) rfl (fun ls hl => ?_)
  refine lv_iload_n hx hb dX0_bestOf_7 rfl (lv_at hl 4 rfl) ?_
  refine lv_if_eq (tgt := 25) hx hb dX0_bestOf_8 (by decide) (fun c3 => ?_) (fun c3 => ?_)
  · have h := it_at c3 h
    refine lv_iload_n hx hb dX0_bestOf_25 rfl (lv_at hl 2 rfl) ?_
    obtain ⟨rfl, rfl⟩ := pair_at h
    exact reI X G dX0_bestOf_26
  · have h := if_at c3 h
    refine lv_iload hx hb dX0_bestOf_11 (lv_at hl 0 rfl) ?_
    refine lv_iload_n hx hb dX0_bestOf_13 rfl (lv_at hl 2 rfl) ?_
    obtain ⟨r4, u5, er4, h⟩ := bnd_at h
    refine cnI (rest := []) X K G (c_X6_isSooner er4) K.2.1.2.2.1 my_X6_isSooner ⟨rfl, rfl⟩ ⟨Nat.le_of_ble_eq_true rfl, Nat.le_of_ble_eq_true rfl⟩ ⟨Nat.zero_le _, Nat.zero_le _⟩ rfl hl.1 rfl (Nat.le_of_ble_eq_true rfl) dX0_bestOf_14 (fun H locs G => ?_)
    clear er4
    refine lv_if_eq (tgt := 25) hx hb dX0_bestOf_17 (by decide) (fun c6 => ?_) (fun c6 => ?_)
    · have h := it_at c6 h
      refine lv_iload_n hx hb dX0_bestOf_25 rfl (lv_at hl 2 rfl) ?_
      obtain ⟨rfl, rfl⟩ := pair_at h
      exact reI X G dX0_bestOf_26
    · have h := if_at c6 h
      refine lv_iload hx hb dX0_bestOf_20 (lv_at hl 0 rfl) ?_
      refine lv_goto (tgt := 26) hx hb dX0_bestOf_22 (by decide) ?_
      obtain ⟨rfl, rfl⟩ := pair_at h
      exact reI X G dX0_bestOf_26
noncomputable def f_X0_dayBehind (a1 : Int32) (a2 : Int32) (a3 : Int32) (u0 : XS) : Option (Int32 × XS) :=
  bnd (f_X5_stepNumber a1 a2 (0 : Int32) u0) fun r1 u2 =>
  if a1 < 0 ∨ 8 ≤ a1.toNatClampNeg then none else
  nmv ((tKinds (xT u2)) a1.toNatClampNeg) fun x4 =>
  (if x4 = (1 : Int32) then
    bnd (f_X0_firstDay r1 a3 (0 : Int32) u2) fun r11 u12 =>
    some (r11, u12)
  else
  (if x4 = (2 : Int32) then
    (if a2 = 0 then
      bnd (f_X0_zeroFrom a3 u2) fun r16 u17 =>
      bnd (f_X0_firstDay r1 r16 (0 : Int32) u17) fun r18 u19 =>
      some (r18, u19)
    else
      bnd (f_X0_plannedFrom r1 a2 a3 u2) fun r14 u15 =>
      some (r14, u15))
  else
  (if x4 = (3 : Int32) then
    (if a2 ≤ 0 then
      bnd (f_X0_plannedFrom r1 a2 a3 u2) fun r21 u22 =>
      some (r21, u22)
    else
      bnd (f_X5_stepNumber a1 (a2 - (1 : Int32)) (0 : Int32) u2) fun r23 u24 =>
      (if r23 = r1 then
        some (a3, u24)
      else
        bnd (f_X0_plannedFrom r1 a2 a3 u24) fun r26 u27 =>
        some (r26, u27)))
  else
  (if x4 = (4 : Int32) then
    bnd (f_X0_walkedFrom r1 a3 u2) fun r28 u29 =>
    some (r28, u29)
  else
  (if x4 = (5 : Int32) then
    bnd (f_X0_walkedFrom r1 a3 u2) fun r30 u31 =>
    if a1 < 0 ∨ 8 ≤ a1.toNatClampNeg then none else
    (if a2 = (((tCounts (xT u31)) a1.toNatClampNeg) - (1 : Int32)) then
      bnd (f_X0_bestOf r30 a3 (1 : Int32) u31) fun r36 u37 =>
      some (r36, u37)
    else
      bnd (f_X0_bestOf r30 a3 (0 : Int32) u31) fun r34 u35 =>
      some (r34, u35))
  else
  (if x4 = (6 : Int32) then
    (if a2 = 0 then
      bnd (f_X0_plannedFrom r1 a2 a3 u2) fun r41 u42 =>
      some (r41, u42)
    else
      bnd (f_X0_plannedFrom r1 a2 (a3 + (1 : Int32)) u2) fun r39 u40 =>
      some (r39, u40))
  else
  bnd (f_X0_plannedFrom r1 a2 a3 u2) fun r43 u44 =>
  some (r43, u44)))))))
set_option maxRecDepth 100000 in
set_option maxHeartbeats 4000000 in
theorem c_X0_dayBehind {a1 : Int32} {a2 : Int32} {a3 : Int32} {u0 : XS} {r : Int32} {u' : XS} (h : f_X0_dayBehind a1 a2 a3 u0 = some (r, u')) : MI l D cI cZ cQ adK adV A yX0_dayBehind cX0_dayBehind 5 (some .int) { frames := 2, cells := 0, slots := 0, locals := 50 } [.ref (ad 24), .int a1, .int a2, .int a3] (wX cI cZ cQ ad) u0 r u' := by
  unfold f_X0_dayBehind at h
  refine entI (by decide) (Nat.le_of_ble_eq_true rfl) (fun p e s m below meth c ls X K G hl => ?_)
  have hl : lv_has ls 5 [(0, .ref (ad 24)), (1, .int a1), (2, .int a2), (3, .int a3)] := hl
  obtain ⟨hx, hb, -⟩ := id X
  generalize hH : s.heap = H at G
  subst hH
  refine lv_aload_n hx hb dX0_dayBehind_0 rfl (lv_at hl 0 rfl) ?_
  refine gX_24_0 X K G q_184 dX0_dayBehind_1 ?_
  refine lv_iload_n hx hb dX0_dayBehind_4 rfl (lv_at hl 1 rfl) ?_
  refine lv_iload_n hx hb dX0_dayBehind_5 rfl (lv_at hl 2 rfl) ?_
  refine lv_iconst (v := 0) hx hb dX0_dayBehind_6 (by decide) ?_
  obtain ⟨r1, u2, er1, h⟩ := bnd_at h
  refine cvI (rest := []) X K G (c_X5_stepNumber er1) q_588 my_X5_stepNumber ⟨rfl, rfl⟩ ⟨Nat.le_of_ble_eq_true rfl, Nat.le_of_ble_eq_true rfl⟩ ⟨Nat.zero_le _, Nat.zero_le _⟩ 1 5 rfl rfl rfl rfl hl.1 rfl (Nat.le_of_ble_eq_true rfl) dX0_dayBehind_7 (fun H locs G => ?_)
  clear er1
  refine lv_istore (lv' := [(4, .int r1), (0, .ref (ad 24)), (1, .int a1), (2, .int a2), (3, .int a3)]) hx hb dX0_dayBehind_10 hl (by decide) rfl (fun ls hl => ?_)
  refine lv_aload_n hx hb dX0_dayBehind_12 rfl (lv_at hl 1 rfl) ?_
  refine gX_24_0 X K G q_184 dX0_dayBehind_13 ?_
  refine gX_1_7 X K G q_126 dX0_dayBehind_16 ?_
  refine lv_iload_n hx hb dX0_dayBehind_19 rfl (lv_at hl 2 rfl) ?_
  obtain ⟨g3, h⟩ := ck_at h
  refine lX_3 X K G g3 dX0_dayBehind_20 ?_
  refine lv_topi (fun x4 ex4 => ?_)
  have h := nm_at ex4 h
  by_cases c5 : x4 = (1 : Int32)
  · have h := it_at c5 h
    refine tswI X (1 : Int32) c5 dX0_dayBehind_21 (off := 39) (tgt := 60) (by decide) ?_
    refine lv_aload_n hx hb dX0_dayBehind_60 rfl (lv_at hl 1 rfl) ?_
    refine lv_iload hx hb dX0_dayBehind_61 (lv_at hl 0 rfl) ?_
    refine lv_iload_n hx hb dX0_dayBehind_63 rfl (lv_at hl 4 rfl) ?_
    refine lv_iconst (v := 0) hx hb dX0_dayBehind_64 (by decide) ?_
    obtain ⟨r11, u12, er11, h⟩ := bnd_at h
    refine cvI (rest := []) X K G (c_X0_firstDay er11) q_589 my_X0_firstDay ⟨rfl, rfl⟩ ⟨Nat.le_of_ble_eq_true rfl, Nat.le_of_ble_eq_true rfl⟩ ⟨Nat.zero_le _, Nat.zero_le _⟩ 24 0 rfl rfl rfl rfl hl.1 rfl (Nat.le_of_ble_eq_true rfl) dX0_dayBehind_65 (fun H locs G => ?_)
    clear er11
    obtain ⟨rfl, rfl⟩ := pair_at h
    exact reI X G dX0_dayBehind_68
  have h := if_at c5 h
  by_cases c6 : x4 = (2 : Int32)
  · have h := it_at c6 h
    refine tswI X (2 : Int32) c6 dX0_dayBehind_21 (off := 48) (tgt := 69) (by decide) ?_
    refine lv_iload_n hx hb dX0_dayBehind_69 rfl (lv_at hl 3 rfl) ?_
    refine lv_if_ne (tgt := 88) hx hb dX0_dayBehind_70 (by decide) (fun c13 => ?_) (fun c13 => ?_)
    · have h := if_at c13 h
      refine lv_aload_n hx hb dX0_dayBehind_88 rfl (lv_at hl 1 rfl) ?_
      refine lv_iload hx hb dX0_dayBehind_89 (lv_at hl 0 rfl) ?_
      refine lv_iload_n hx hb dX0_dayBehind_91 rfl (lv_at hl 3 rfl) ?_
      refine lv_iload_n hx hb dX0_dayBehind_92 rfl (lv_at hl 4 rfl) ?_
      obtain ⟨r14, u15, er14, h⟩ := bnd_at h
      refine cvI (rest := []) X K G (c_X0_plannedFrom er14) q_594 my_X0_plannedFrom ⟨rfl, rfl⟩ ⟨Nat.le_of_ble_eq_true rfl, Nat.le_of_ble_eq_true rfl⟩ ⟨Nat.zero_le _, Nat.zero_le _⟩ 24 0 rfl rfl rfl rfl hl.1 rfl (Nat.le_of_ble_eq_true rfl) dX0_dayBehind_93 (fun H locs G => ?_)
      clear er14
      obtain ⟨rfl, rfl⟩ := pair_at h
      exact reI X G dX0_dayBehind_96
    · have h := it_at c13 h
      refine lv_aload_n hx hb dX0_dayBehind_73 rfl (lv_at hl 1 rfl) ?_
      refine lv_iload hx hb dX0_dayBehind_74 (lv_at hl 0 rfl) ?_
      refine lv_aload_n hx hb dX0_dayBehind_76 rfl (lv_at hl 1 rfl) ?_
      refine lv_iload_n hx hb dX0_dayBehind_77 rfl (lv_at hl 4 rfl) ?_
      obtain ⟨r16, u17, er16, h⟩ := bnd_at h
      refine cvI (rest := [.int r1, .ref (ad 24)]) X K G (c_X0_zeroFrom er16) q_590 my_X0_zeroFrom ⟨rfl, rfl⟩ ⟨Nat.le_of_ble_eq_true rfl, Nat.le_of_ble_eq_true rfl⟩ ⟨Nat.zero_le _, Nat.zero_le _⟩ 24 0 rfl rfl rfl rfl hl.1 rfl (Nat.le_of_ble_eq_true rfl) dX0_dayBehind_78 (fun H locs G => ?_)
      clear er16
      refine lv_iconst (v := 0) hx hb dX0_dayBehind_81 (by decide) ?_
      obtain ⟨r18, u19, er18, h⟩ := bnd_at h
      refine cvI (rest := []) X K G (c_X0_firstDay er18) q_589 my_X0_firstDay ⟨rfl, rfl⟩ ⟨Nat.le_of_ble_eq_true rfl, Nat.le_of_ble_eq_true rfl⟩ ⟨Nat.zero_le _, Nat.zero_le _⟩ 24 0 rfl rfl rfl rfl hl.1 rfl (Nat.le_of_ble_eq_true rfl) dX0_dayBehind_82 (fun H locs G => ?_)
      clear er18
      refine lv_goto (tgt := 96) hx hb dX0_dayBehind_85 (by decide) ?_
      obtain ⟨rfl, rfl⟩ := pair_at h
      exact reI X G dX0_dayBehind_96
  have h := if_at c6 h
  by_cases c7 : x4 = (3 : Int32)
  · have h := it_at c7 h
    refine tswI X (3 : Int32) c7 dX0_dayBehind_21 (off := 76) (tgt := 97) (by decide) ?_
    refine lv_iload_n hx hb dX0_dayBehind_97 rfl (lv_at hl 3 rfl) ?_
    refine lv_if_le (tgt := 122) hx hb dX0_dayBehind_98 (by decide) (fun c20 => ?_) (fun c20 => ?_)
    · have h := it_at c20 h
      refine lv_aload_n hx hb dX0_dayBehind_122 rfl (lv_at hl 1 rfl) ?_
      refine lv_iload hx hb dX0_dayBehind_123 (lv_at hl 0 rfl) ?_
      refine lv_iload_n hx hb dX0_dayBehind_125 rfl (lv_at hl 3 rfl) ?_
      refine lv_iload_n hx hb dX0_dayBehind_126 rfl (lv_at hl 4 rfl) ?_
      obtain ⟨r21, u22, er21, h⟩ := bnd_at h
      refine cvI (rest := []) X K G (c_X0_plannedFrom er21) q_594 my_X0_plannedFrom ⟨rfl, rfl⟩ ⟨Nat.le_of_ble_eq_true rfl, Nat.le_of_ble_eq_true rfl⟩ ⟨Nat.zero_le _, Nat.zero_le _⟩ 24 0 rfl rfl rfl rfl hl.1 rfl (Nat.le_of_ble_eq_true rfl) dX0_dayBehind_127 (fun H locs G => ?_)
      clear er21
      obtain ⟨rfl, rfl⟩ := pair_at h
      exact reI X G dX0_dayBehind_130
    · have h := if_at c20 h
      refine lv_aload_n hx hb dX0_dayBehind_101 rfl (lv_at hl 1 rfl) ?_
      refine gX_24_0 X K G q_184 dX0_dayBehind_102 ?_
      refine lv_iload_n hx hb dX0_dayBehind_105 rfl (lv_at hl 2 rfl) ?_
      refine lv_iload_n hx hb dX0_dayBehind_106 rfl (lv_at hl 3 rfl) ?_
      refine lv_iconst (v := 1) hx hb dX0_dayBehind_107 (by decide) ?_
      refine lv_isub hx hb dX0_dayBehind_108 ?_
      refine lv_iconst (v := 0) hx hb dX0_dayBehind_109 (by decide) ?_
      obtain ⟨r23, u24, er23, h⟩ := bnd_at h
      refine cvI (rest := []) X K G (c_X5_stepNumber er23) q_588 my_X5_stepNumber ⟨rfl, rfl⟩ ⟨Nat.le_of_ble_eq_true rfl, Nat.le_of_ble_eq_true rfl⟩ ⟨Nat.zero_le _, Nat.zero_le _⟩ 1 5 rfl rfl rfl rfl hl.1 rfl (Nat.le_of_ble_eq_true rfl) dX0_dayBehind_110 (fun H locs G => ?_)
      clear er23
      refine lv_iload hx hb dX0_dayBehind_113 (lv_at hl 0 rfl) ?_
      refine lv_icmp_ne (tgt := 122) hx hb dX0_dayBehind_115 (by decide) (fun c25 => ?_) (fun c25 => ?_)
      · have h := if_at c25 h
        refine lv_aload_n hx hb dX0_dayBehind_122 rfl (lv_at hl 1 rfl) ?_
        refine lv_iload hx hb dX0_dayBehind_123 (lv_at hl 0 rfl) ?_
        refine lv_iload_n hx hb dX0_dayBehind_125 rfl (lv_at hl 3 rfl) ?_
        refine lv_iload_n hx hb dX0_dayBehind_126 rfl (lv_at hl 4 rfl) ?_
        obtain ⟨r26, u27, er26, h⟩ := bnd_at h
        refine cvI (rest := []) X K G (c_X0_plannedFrom er26) q_594 my_X0_plannedFrom ⟨rfl, rfl⟩ ⟨Nat.le_of_ble_eq_true rfl, Nat.le_of_ble_eq_true rfl⟩ ⟨Nat.zero_le _, Nat.zero_le _⟩ 24 0 rfl rfl rfl rfl hl.1 rfl (Nat.le_of_ble_eq_true rfl) dX0_dayBehind_127 (fun H locs G => ?_)
        clear er26
        obtain ⟨rfl, rfl⟩ := pair_at h
        exact reI X G dX0_dayBehind_130
      · have h := it_at c25 h
        refine lv_iload_n hx hb dX0_dayBehind_118 rfl (lv_at hl 4 rfl) ?_
        refine lv_goto (tgt := 130) hx hb dX0_dayBehind_119 (by decide) ?_
        obtain ⟨rfl, rfl⟩ := pair_at h
        exact reI X G dX0_dayBehind_130
  have h := if_at c7 h
  by_cases c8 : x4 = (4 : Int32)
  · have h := it_at c8 h
    refine tswI X (4 : Int32) c8 dX0_dayBehind_21 (off := 110) (tgt := 131) (by decide) ?_
    refine lv_aload_n hx hb dX0_dayBehind_131 rfl (lv_at hl 1 rfl) ?_
    refine lv_iload hx hb dX0_dayBehind_132 (lv_at hl 0 rfl) ?_
    refine lv_iload_n hx hb dX0_dayBehind_134 rfl (lv_at hl 4 rfl) ?_
    obtain ⟨r28, u29, er28, h⟩ := bnd_at h
    refine cvI (rest := []) X K G (c_X0_walkedFrom er28) q_598 my_X0_walkedFrom ⟨rfl, rfl⟩ ⟨Nat.le_of_ble_eq_true rfl, Nat.le_of_ble_eq_true rfl⟩ ⟨Nat.zero_le _, Nat.zero_le _⟩ 24 0 rfl rfl rfl rfl hl.1 rfl (Nat.le_of_ble_eq_true rfl) dX0_dayBehind_135 (fun H locs G => ?_)
    clear er28
    obtain ⟨rfl, rfl⟩ := pair_at h
    exact reI X G dX0_dayBehind_138
  have h := if_at c8 h
  by_cases c9 : x4 = (5 : Int32)
  · have h := it_at c9 h
    refine tswI X (5 : Int32) c9 dX0_dayBehind_21 (off := 118) (tgt := 139) (by decide) ?_
    refine lv_aload_n hx hb dX0_dayBehind_139 rfl (lv_at hl 1 rfl) ?_
    refine lv_aload_n hx hb dX0_dayBehind_140 rfl (lv_at hl 1 rfl) ?_
    refine lv_iload hx hb dX0_dayBehind_141 (lv_at hl 0 rfl) ?_
    refine lv_iload_n hx hb dX0_dayBehind_143 rfl (lv_at hl 4 rfl) ?_
    obtain ⟨r30, u31, er30, h⟩ := bnd_at h
    refine cvI (rest := [.ref (ad 24)]) X K G (c_X0_walkedFrom er30) q_598 my_X0_walkedFrom ⟨rfl, rfl⟩ ⟨Nat.le_of_ble_eq_true rfl, Nat.le_of_ble_eq_true rfl⟩ ⟨Nat.zero_le _, Nat.zero_le _⟩ 24 0 rfl rfl rfl rfl hl.1 rfl (Nat.le_of_ble_eq_true rfl) dX0_dayBehind_144 (fun H locs G => ?_)
    clear er30
    refine lv_iload_n hx hb dX0_dayBehind_147 rfl (lv_at hl 4 rfl) ?_
    refine lv_iload_n hx hb dX0_dayBehind_148 rfl (lv_at hl 3 rfl) ?_
    refine lv_aload_n hx hb dX0_dayBehind_149 rfl (lv_at hl 1 rfl) ?_
    refine gX_24_0 X K G q_184 dX0_dayBehind_150 ?_
    refine gX_1_8 X K G q_129 dX0_dayBehind_153 ?_
    refine lv_iload_n hx hb dX0_dayBehind_156 rfl (lv_at hl 2 rfl) ?_
    obtain ⟨g32, h⟩ := ck_at h
    refine lX_4 X K G g32 dX0_dayBehind_157 ?_
    refine lv_iconst (v := 1) hx hb dX0_dayBehind_158 (by decide) ?_
    refine lv_isub hx hb dX0_dayBehind_159 ?_
    refine lv_icmp_ne (tgt := 167) hx hb dX0_dayBehind_160 (by decide) (fun c33 => ?_) (fun c33 => ?_)
    · have h := if_at c33 h
      refine lv_iconst (v := 0) hx hb dX0_dayBehind_167 (by decide) ?_
      obtain ⟨r34, u35, er34, h⟩ := bnd_at h
      refine cvI (rest := []) X K G (c_X0_bestOf er34) q_605 my_X0_bestOf ⟨rfl, rfl⟩ ⟨Nat.le_of_ble_eq_true rfl, Nat.le_of_ble_eq_true rfl⟩ ⟨Nat.zero_le _, Nat.zero_le _⟩ 24 0 rfl rfl rfl rfl hl.1 rfl (Nat.le_of_ble_eq_true rfl) dX0_dayBehind_168 (fun H locs G => ?_)
      clear er34
      obtain ⟨rfl, rfl⟩ := pair_at h
      exact reI X G dX0_dayBehind_171
    · have h := it_at c33 h
      refine lv_iconst (v := 1) hx hb dX0_dayBehind_163 (by decide) ?_
      refine lv_goto (tgt := 168) hx hb dX0_dayBehind_164 (by decide) ?_
      obtain ⟨r36, u37, er36, h⟩ := bnd_at h
      refine cvI (rest := []) X K G (c_X0_bestOf er36) q_605 my_X0_bestOf ⟨rfl, rfl⟩ ⟨Nat.le_of_ble_eq_true rfl, Nat.le_of_ble_eq_true rfl⟩ ⟨Nat.zero_le _, Nat.zero_le _⟩ 24 0 rfl rfl rfl rfl hl.1 rfl (Nat.le_of_ble_eq_true rfl) dX0_dayBehind_168 (fun H locs G => ?_)
      clear er36
      obtain ⟨rfl, rfl⟩ := pair_at h
      exact reI X G dX0_dayBehind_171
  have h := if_at c9 h
  by_cases c10 : x4 = (6 : Int32)
  · have h := it_at c10 h
    refine tswI X (6 : Int32) c10 dX0_dayBehind_21 (off := 151) (tgt := 172) (by decide) ?_
    refine lv_aload_n hx hb dX0_dayBehind_172 rfl (lv_at hl 1 rfl) ?_
    refine lv_iload hx hb dX0_dayBehind_173 (lv_at hl 0 rfl) ?_
    refine lv_iload_n hx hb dX0_dayBehind_175 rfl (lv_at hl 3 rfl) ?_
    refine lv_iload_n hx hb dX0_dayBehind_176 rfl (lv_at hl 3 rfl) ?_
    refine lv_if_ne (tgt := 184) hx hb dX0_dayBehind_177 (by decide) (fun c38 => ?_) (fun c38 => ?_)
    · have h := if_at c38 h
      refine lv_iload_n hx hb dX0_dayBehind_184 rfl (lv_at hl 4 rfl) ?_
      refine lv_iconst (v := 1) hx hb dX0_dayBehind_185 (by decide) ?_
      refine lv_iadd hx hb dX0_dayBehind_186 ?_
      obtain ⟨r39, u40, er39, h⟩ := bnd_at h
      refine cvI (rest := []) X K G (c_X0_plannedFrom er39) q_594 my_X0_plannedFrom ⟨rfl, rfl⟩ ⟨Nat.le_of_ble_eq_true rfl, Nat.le_of_ble_eq_true rfl⟩ ⟨Nat.zero_le _, Nat.zero_le _⟩ 24 0 rfl rfl rfl rfl hl.1 rfl (Nat.le_of_ble_eq_true rfl) dX0_dayBehind_187 (fun H locs G => ?_)
      clear er39
      obtain ⟨rfl, rfl⟩ := pair_at h
      exact reI X G dX0_dayBehind_190
    · have h := it_at c38 h
      refine lv_iload_n hx hb dX0_dayBehind_180 rfl (lv_at hl 4 rfl) ?_
      refine lv_goto (tgt := 187) hx hb dX0_dayBehind_181 (by decide) ?_
      obtain ⟨r41, u42, er41, h⟩ := bnd_at h
      refine cvI (rest := []) X K G (c_X0_plannedFrom er41) q_594 my_X0_plannedFrom ⟨rfl, rfl⟩ ⟨Nat.le_of_ble_eq_true rfl, Nat.le_of_ble_eq_true rfl⟩ ⟨Nat.zero_le _, Nat.zero_le _⟩ 24 0 rfl rfl rfl rfl hl.1 rfl (Nat.le_of_ble_eq_true rfl) dX0_dayBehind_187 (fun H locs G => ?_)
      clear er41
      obtain ⟨rfl, rfl⟩ := pair_at h
      exact reI X G dX0_dayBehind_190
  have h := if_at c10 h
  have tc5 := lv_neT (a := 1) c5 rfl
  have tc6 := lv_neT (a := 2) c6 rfl
  have tc7 := lv_neT (a := 3) c7 rfl
  have tc8 := lv_neT (a := 4) c8 rfl
  have tc9 := lv_neT (a := 5) c9 rfl
  have tc10 := lv_neT (a := 6) c10 rfl
  refine tswO X (by omega) dX0_dayBehind_21 (tgt := 191) (by decide) ?_
  refine lv_aload_n hx hb dX0_dayBehind_191 rfl (lv_at hl 1 rfl) ?_
  refine lv_iload hx hb dX0_dayBehind_192 (lv_at hl 0 rfl) ?_
  refine lv_iload_n hx hb dX0_dayBehind_194 rfl (lv_at hl 3 rfl) ?_
  refine lv_iload_n hx hb dX0_dayBehind_195 rfl (lv_at hl 4 rfl) ?_
  obtain ⟨r43, u44, er43, h⟩ := bnd_at h
  refine cvI (rest := []) X K G (c_X0_plannedFrom er43) q_594 my_X0_plannedFrom ⟨rfl, rfl⟩ ⟨Nat.le_of_ble_eq_true rfl, Nat.le_of_ble_eq_true rfl⟩ ⟨Nat.zero_le _, Nat.zero_le _⟩ 24 0 rfl rfl rfl rfl hl.1 rfl (Nat.le_of_ble_eq_true rfl) dX0_dayBehind_196 (fun H locs G => ?_)
  clear er43
  obtain ⟨rfl, rfl⟩ := pair_at h
  exact reI X G dX0_dayBehind_199
noncomputable def f_X6_dayOrNone (a1 : Int32) (u0 : XS) : Option (Int32 × XS) :=
  (if 0 ≤ a1 then
    some (a1, u0)
  else
    bnd (f_X6_found (3 : Int32) u0) fun r2 u3 =>
    some (r2, u3))
set_option maxRecDepth 100000 in
set_option maxHeartbeats 4000000 in
theorem c_X6_dayOrNone {a1 : Int32} {u0 : XS} {r : Int32} {u' : XS} (h : f_X6_dayOrNone a1 u0 = some (r, u')) : MI l D cI cZ cQ adK adV A yX6_dayOrNone cX6_dayOrNone 2 (some .int) { frames := 2, cells := 0, slots := 0, locals := 43 } [.ref (ad 0), .int a1] (wX cI cZ cQ ad) u0 r u' := by
  unfold f_X6_dayOrNone at h
  refine entI (by decide) (Nat.le_of_ble_eq_true rfl) (fun p e s m below meth c ls X K G hl => ?_)
  have hl : lv_has ls 2 [(0, .ref (ad 0)), (1, .int a1)] := hl
  obtain ⟨hx, hb, -⟩ := id X
  generalize hH : s.heap = H at G
  subst hH
  refine lv_iload_n hx hb dX6_dayOrNone_0 rfl (lv_at hl 1 rfl) ?_
  refine lv_if_ge (tgt := 12) hx hb dX6_dayOrNone_1 (by decide) (fun c1 => ?_) (fun c1 => ?_)
  · have h := it_at c1 h
    refine lv_iload_n hx hb dX6_dayOrNone_12 rfl (lv_at hl 1 rfl) ?_
    obtain ⟨rfl, rfl⟩ := pair_at h
    exact reI X G dX6_dayOrNone_13
  · have h := if_at c1 h
    refine lv_aload_n hx hb dX6_dayOrNone_4 rfl (lv_at hl 0 rfl) ?_
    refine lv_iconst (v := 3) hx hb dX6_dayOrNone_5 (by decide) ?_
    obtain ⟨r2, u3, er2, h⟩ := bnd_at h
    refine cvI (rest := []) X K G (c_X6_found er2) q_338 my_X6_found ⟨rfl, rfl⟩ ⟨Nat.le_of_ble_eq_true rfl, Nat.le_of_ble_eq_true rfl⟩ ⟨Nat.zero_le _, Nat.zero_le _⟩ 0 6 rfl rfl rfl rfl hl.1 rfl (Nat.le_of_ble_eq_true rfl) dX6_dayOrNone_6 (fun H locs G => ?_)
    clear er2
    refine lv_goto (tgt := 13) hx hb dX6_dayOrNone_9 (by decide) ?_
    obtain ⟨rfl, rfl⟩ := pair_at h
    exact reI X G dX6_dayOrNone_13
noncomputable def f_X6_next (a1 : Int32) (a2 : Int32) (a3 : Int32) (u0 : XS) : Option (Int32 × XS) :=
  bnd (f_X5_hasStep a1 a2 u0) fun r1 u2 =>
  (if r1 = 0 then
    bnd (f_X6_found (0 : Int32) u2) fun r4 u5 =>
    some (r4, u5)
  else
    bnd (f_X6_within a3 (0 : Int32) (999 : Int32) u2) fun r6 u7 =>
    (if r6 = 0 then
      bnd (f_X6_found (0 : Int32) u7) fun r13 u14 =>
      some (r13, u14)
    else
      bnd (f_X0_dayBehind a1 a2 a3 u7) fun r9 u10 =>
      bnd (f_X6_dayOrNone r9 u10) fun r11 u12 =>
      some (r11, u12)))
set_option maxRecDepth 100000 in
set_option maxHeartbeats 4000000 in
theorem c_X6_next {a1 : Int32} {a2 : Int32} {a3 : Int32} {u0 : XS} {r : Int32} {u' : XS} (h : f_X6_next a1 a2 a3 u0 = some (r, u')) : MI l D cI cZ cQ adK adV A yX6_next cX6_next 4 (some .int) { frames := 3, cells := 0, slots := 0, locals := 74 } [.ref (ad 0), .int a1, .int a2, .int a3] (wX cI cZ cQ ad) u0 r u' := by
  unfold f_X6_next at h
  refine entI (by decide) (Nat.le_of_ble_eq_true rfl) (fun p e s m below meth c ls X K G hl => ?_)
  have hl : lv_has ls 4 [(0, .ref (ad 0)), (1, .int a1), (2, .int a2), (3, .int a3)] := hl
  obtain ⟨hx, hb, -⟩ := id X
  generalize hH : s.heap = H at G
  subst hH
  refine lv_aload_n hx hb dX6_next_0 rfl (lv_at hl 0 rfl) ?_
  refine gX_0_0 X K G q_300 dX6_next_1 ?_
  refine lv_iload_n hx hb dX6_next_4 rfl (lv_at hl 1 rfl) ?_
  refine lv_iload_n hx hb dX6_next_5 rfl (lv_at hl 2 rfl) ?_
  obtain ⟨r1, u2, er1, h⟩ := bnd_at h
  refine cvI (rest := []) X K G (c_X5_hasStep er1) q_558 my_X5_hasStep ⟨rfl, rfl⟩ ⟨Nat.le_of_ble_eq_true rfl, Nat.le_of_ble_eq_true rfl⟩ ⟨Nat.zero_le _, Nat.zero_le _⟩ 1 5 rfl rfl rfl rfl hl.1 rfl (Nat.le_of_ble_eq_true rfl) dX6_next_6 (fun H locs G => ?_)
  clear er1
  refine lv_if_eq (tgt := 23) hx hb dX6_next_9 (by decide) (fun c3 => ?_) (fun c3 => ?_)
  · have h := it_at c3 h
    refine lv_aload_n hx hb dX6_next_23 rfl (lv_at hl 0 rfl) ?_
    refine lv_iconst (v := 0) hx hb dX6_next_24 (by decide) ?_
    obtain ⟨r4, u5, er4, h⟩ := bnd_at h
    refine cvI (rest := []) X K G (c_X6_found er4) q_338 my_X6_found ⟨rfl, rfl⟩ ⟨Nat.le_of_ble_eq_true rfl, Nat.le_of_ble_eq_true rfl⟩ ⟨Nat.zero_le _, Nat.zero_le _⟩ 0 6 rfl rfl rfl rfl hl.1 rfl (Nat.le_of_ble_eq_true rfl) dX6_next_25 (fun H locs G => ?_)
    clear er4
    obtain ⟨rfl, rfl⟩ := pair_at h
    exact reI X G dX6_next_28
  · have h := if_at c3 h
    refine lv_iload_n hx hb dX6_next_12 rfl (lv_at hl 3 rfl) ?_
    refine lv_iconst (v := 0) hx hb dX6_next_13 (by decide) ?_
    refine lv_sipush (v := 999) hx hb dX6_next_14 (by decide) ?_
    obtain ⟨r6, u7, er6, h⟩ := bnd_at h
    refine csI (rest := []) X K G (c_X6_within er6) q_335 my_X6_within ⟨rfl, rfl⟩ ⟨Nat.le_of_ble_eq_true rfl, Nat.le_of_ble_eq_true rfl⟩ ⟨Nat.zero_le _, Nat.zero_le _⟩ rfl hl.1 rfl (Nat.le_of_ble_eq_true rfl) dX6_next_17 (fun H locs G => ?_)
    clear er6
    refine lv_if_ne (tgt := 29) hx hb dX6_next_20 (by decide) (fun c8 => ?_) (fun c8 => ?_)
    · have h := if_at c8 h
      refine lv_aload_n hx hb dX6_next_29 rfl (lv_at hl 0 rfl) ?_
      refine lv_aload_n hx hb dX6_next_30 rfl (lv_at hl 0 rfl) ?_
      refine gX_0_4 X K G q_304 dX6_next_31 ?_
      refine lv_iload_n hx hb dX6_next_34 rfl (lv_at hl 1 rfl) ?_
      refine lv_iload_n hx hb dX6_next_35 rfl (lv_at hl 2 rfl) ?_
      refine lv_iload_n hx hb dX6_next_36 rfl (lv_at hl 3 rfl) ?_
      obtain ⟨r9, u10, er9, h⟩ := bnd_at h
      refine cvI (rest := [.ref (ad 0)]) X K G (c_X0_dayBehind er9) q_584 my_X0_dayBehind ⟨rfl, rfl⟩ ⟨Nat.le_of_ble_eq_true rfl, Nat.le_of_ble_eq_true rfl⟩ ⟨Nat.zero_le _, Nat.zero_le _⟩ 24 0 rfl rfl rfl rfl hl.1 rfl (Nat.le_of_ble_eq_true rfl) dX6_next_37 (fun H locs G => ?_)
      clear er9
      obtain ⟨r11, u12, er11, h⟩ := bnd_at h
      refine cvI (rest := []) X K G (c_X6_dayOrNone er11) q_612 my_X6_dayOrNone ⟨rfl, rfl⟩ ⟨Nat.le_of_ble_eq_true rfl, Nat.le_of_ble_eq_true rfl⟩ ⟨Nat.zero_le _, Nat.zero_le _⟩ 0 6 rfl rfl rfl rfl hl.1 rfl (Nat.le_of_ble_eq_true rfl) dX6_next_40 (fun H locs G => ?_)
      clear er11
      obtain ⟨rfl, rfl⟩ := pair_at h
      exact reI X G dX6_next_43
    · have h := it_at c8 h
      refine lv_aload_n hx hb dX6_next_23 rfl (lv_at hl 0 rfl) ?_
      refine lv_iconst (v := 0) hx hb dX6_next_24 (by decide) ?_
      obtain ⟨r13, u14, er13, h⟩ := bnd_at h
      refine cvI (rest := []) X K G (c_X6_found er13) q_338 my_X6_found ⟨rfl, rfl⟩ ⟨Nat.le_of_ble_eq_true rfl, Nat.le_of_ble_eq_true rfl⟩ ⟨Nat.zero_le _, Nat.zero_le _⟩ 0 6 rfl rfl rfl rfl hl.1 rfl (Nat.le_of_ble_eq_true rfl) dX6_next_25 (fun H locs G => ?_)
      clear er13
      obtain ⟨rfl, rfl⟩ := pair_at h
      exact reI X G dX6_next_28
noncomputable def f_X0_goThrough_L16_64 (v1 : Int32) (v4 : Int32) (v5 : Int32) (v6 : Int32) (u0 : XS) : Option ((Int32 × Int32 × Int32 × Int32 × XS) ⊕ ((Int32 × XS) ⊕ (XS))) :=
  if v5 < 0 ∨ 8 ≤ v5.toNatClampNeg then none else
  nmv (sL u0 (upd (xL u0) v5.toNatClampNeg v6)) fun u2 =>
  nmv (v5 + (1 : Int32)) fun x3 =>
  some (.inl (v1, v6, v4, x3, u2))
set_option maxRecDepth 100000 in
set_option maxHeartbeats 4000000 in
theorem b_X0_goThrough_L16_64 (X : cx p s m args meth c cX0_goThrough 7 RX0 (some .int)) (K : kx D cI cZ cQ adK adV A s s.heap) {v1 : Int32} {v4 : Int32} {v5 : Int32} {v6 : Int32} {u0 : XS} (G : wg D A s.heap H locs (wX cI cZ cQ ad u0)) (hl : lv_has ls 7 [(0, .ref (ad 24)), (1, .int v1), (4, .int v4), (5, .int v5), (6, .int v6)]) {q : ((Int32 × Int32 × Int32 × Int32 × XS) ⊕ ((Int32 × XS) ⊕ (XS)))} (h : f_X0_goThrough_L16_64 v1 v4 v5 v6 u0 = some q) (hB : ∀ (v1 : Int32) (v3 : Int32) (v4 : Int32) (v5 : Int32) (u : XS), q = .inl (v1, v3, v4, v5, u) → ∀ (H : Heap) (locs : List Loc) (ls : Array Slot), wg D A s.heap H locs (wX cI cZ cQ ad u) → lv_has ls 7 [(0, .ref (ad 24)), (1, .int v1), (3, .int v3), (4, .int v4), (5, .int v5)] → W p l e { frames := 3, cells := 0, slots := 0, locals := 74 } s m args below meth c H locs 0 0 Q (F0 m 16 ls [])) (hX : ∀ (u : XS), q = .inr (.inr u) → ∀ (H : Heap) (locs : List Loc) (ls : Array Slot), wg D A s.heap H locs (wX cI cZ cQ ad u) → lv_has ls 7 [] → W p l e { frames := 3, cells := 0, slots := 0, locals := 74 } s m args below meth c H locs 0 0 Q (F0 m 82 ls [])) (hR : ∀ (r : Int32) (u : XS), q = .inr (.inl (r, u)) → Q = (qI D A (wX cI cZ cQ ad) below args s r u)) : W p l e { frames := 3, cells := 0, slots := 0, locals := 74 } s m args below meth c H locs 0 0 Q (F0 m 64 ls []) := by
  unfold f_X0_goThrough_L16_64 at h
  obtain ⟨hx, hb, -⟩ := id X
  refine lv_aload_n hx hb dX0_goThrough_64 rfl (lv_at hl 0 rfl) ?_
  refine gX_24_1 X K G q_185 dX0_goThrough_65 ?_
  refine lv_iload hx hb dX0_goThrough_68 (lv_at hl 3 rfl) ?_
  refine lv_iload hx hb dX0_goThrough_70 (lv_at hl 4 rfl) ?_
  obtain ⟨g1, h⟩ := ck_at h
  refine aX_25 X K G g1 dX0_goThrough_72 (fun H locs G => ?_)
  obtain ⟨u2, eu2⟩ : ∃ z : XS, z = sL u0 (upd (xL u0) v5.toNatClampNeg v6) := ⟨_, rfl⟩
  have G : wg D A s.heap H locs (wX cI cZ cQ ad u2) := by rw [eu2]; exact G
  have h := nm_at eu2 h
  clear eu2
  refine lv_iload hx hb dX0_goThrough_73 (lv_at hl 4 rfl) ?_
  refine lv_istore_n (lv' := [(3, .int v6), (0, .ref (ad 24)), (1, .int v1), (4, .int v4), (5, .int v5), (6, .int v6)]) hx hb dX0_goThrough_75 rfl hl (by decide) rfl (fun ls hl => ?_)
  obtain ⟨x3, ex3⟩ : ∃ z : Int32, z = v5 + (1 : Int32) := ⟨_, rfl⟩
  have h := nm_at ex3 h
  refine lv_iinc (v := x3) (lv' := [(5, .int x3), (3, .int v6), (0, .ref (ad 24)), (1, .int v1), (4, .int v4), (6, .int v6)]) hx hb dX0_goThrough_76 hl (k := 4) rfl (by rw [ex3]; rfl) (by decide) rfl (fun ls hl => ?_)
  refine lv_goto (tgt := 16) hx hb dX0_goThrough_79 (by decide) ?_
  exact hB _ _ _ _ _ (Option.some.inj h).symm _ _ _ G (lv_sub hl [2, 3, 1, 4, 0] rfl)
noncomputable def f_X0_goThrough_L16_16 (v1 : Int32) (v3 : Int32) (v4 : Int32) (v5 : Int32) (u0 : XS) : Option ((Int32 × Int32 × Int32 × Int32 × XS) ⊕ ((Int32 × XS) ⊕ (XS))) :=
  (if v4 ≤ v5 then
    some (.inr (.inr u0))
  else
    bnd (f_X0_dayBehind v1 v5 v3 u0) fun r2 u3 =>
    (if r2 < 0 then
      some (.inr (.inl (v5, u3)))
    else
      (if v5 ≤ 0 then
        f_X0_goThrough_L16_64 v1 v4 v5 r2 u3
      else
        bnd (f_X5_stepNumber v1 v5 (2 : Int32) u3) fun r6 u7 =>
        (if (r2 - v3) ≤ r6 then
          f_X0_goThrough_L16_64 v1 v4 v5 r2 u7
        else
          some (.inr (.inl (v5, u7)))))))
set_option maxRecDepth 100000 in
set_option maxHeartbeats 4000000 in
theorem b_X0_goThrough_L16_16 (X : cx p s m args meth c cX0_goThrough 7 RX0 (some .int)) (K : kx D cI cZ cQ adK adV A s s.heap) {v1 : Int32} {v3 : Int32} {v4 : Int32} {v5 : Int32} {u0 : XS} (G : wg D A s.heap H locs (wX cI cZ cQ ad u0)) (hl : lv_has ls 7 [(0, .ref (ad 24)), (1, .int v1), (3, .int v3), (4, .int v4), (5, .int v5)]) {q : ((Int32 × Int32 × Int32 × Int32 × XS) ⊕ ((Int32 × XS) ⊕ (XS)))} (h : f_X0_goThrough_L16_16 v1 v3 v4 v5 u0 = some q) (hB : ∀ (v1 : Int32) (v3 : Int32) (v4 : Int32) (v5 : Int32) (u : XS), q = .inl (v1, v3, v4, v5, u) → ∀ (H : Heap) (locs : List Loc) (ls : Array Slot), wg D A s.heap H locs (wX cI cZ cQ ad u) → lv_has ls 7 [(0, .ref (ad 24)), (1, .int v1), (3, .int v3), (4, .int v4), (5, .int v5)] → W p l e { frames := 3, cells := 0, slots := 0, locals := 74 } s m args below meth c H locs 0 0 Q (F0 m 16 ls [])) (hX : ∀ (u : XS), q = .inr (.inr u) → ∀ (H : Heap) (locs : List Loc) (ls : Array Slot), wg D A s.heap H locs (wX cI cZ cQ ad u) → lv_has ls 7 [] → W p l e { frames := 3, cells := 0, slots := 0, locals := 74 } s m args below meth c H locs 0 0 Q (F0 m 82 ls [])) (hR : ∀ (r : Int32) (u : XS), q = .inr (.inl (r, u)) → Q = (qI D A (wX cI cZ cQ ad) below args s r u)) : W p l e { frames := 3, cells := 0, slots := 0, locals := 74 } s m args below meth c H locs 0 0 Q (F0 m 16 ls []) := by
  unfold f_X0_goThrough_L16_16 at h
  obtain ⟨hx, hb, -⟩ := id X
  refine lv_iload hx hb dX0_goThrough_16 (lv_at hl 4 rfl) ?_
  refine lv_iload hx hb dX0_goThrough_18 (lv_at hl 3 rfl) ?_
  refine lv_icmp_ge (tgt := 82) hx hb dX0_goThrough_20 (by decide) (fun c1 => ?_) (fun c1 => ?_)
  · have h := it_at c1 h
    exact hX _ (Option.some.inj h).symm _ _ _ G (lv_sub hl [] rfl)
  · have h := if_at c1 h
    refine lv_aload_n hx hb dX0_goThrough_23 rfl (lv_at hl 0 rfl) ?_
    refine lv_iload_n hx hb dX0_goThrough_24 rfl (lv_at hl 1 rfl) ?_
    refine lv_iload hx hb dX0_goThrough_25 (lv_at hl 4 rfl) ?_
    refine lv_iload_n hx hb dX0_goThrough_27 rfl (lv_at hl 2 rfl) ?_
    obtain ⟨r2, u3, er2, h⟩ := bnd_at h
    refine cvI (rest := []) X K G (c_X0_dayBehind er2) q_624 my_X0_dayBehind ⟨rfl, rfl⟩ ⟨Nat.le_of_ble_eq_true rfl, Nat.le_of_ble_eq_true rfl⟩ ⟨Nat.zero_le _, Nat.zero_le _⟩ 24 0 rfl rfl rfl rfl hl.1 rfl (Nat.le_of_ble_eq_true rfl) dX0_goThrough_28 (fun H locs G => ?_)
    clear er2
    refine lv_istore (lv' := [(6, .int r2), (0, .ref (ad 24)), (1, .int v1), (3, .int v3), (4, .int v4), (5, .int v5)]) hx hb dX0_goThrough_31 hl (by decide) rfl (fun ls hl => ?_)
    refine lv_iload hx hb dX0_goThrough_33 (lv_at hl 0 rfl) ?_
    refine lv_if_lt (tgt := 61) hx hb dX0_goThrough_35 (by decide) (fun c4 => ?_) (fun c4 => ?_)
    · have h := it_at c4 h
      refine lv_iload hx hb dX0_goThrough_61 (lv_at hl 5 rfl) ?_
      rw [hR _ _ (Option.some.inj h).symm]
      exact reI X G dX0_goThrough_63
    · have h := if_at c4 h
      refine lv_iload hx hb dX0_goThrough_38 (lv_at hl 5 rfl) ?_
      refine lv_if_le (tgt := 64) hx hb dX0_goThrough_40 (by decide) (fun c5 => ?_) (fun c5 => ?_)
      · have h := it_at c5 h
        exact b_X0_goThrough_L16_64 X K G (lv_sub hl [1, 2, 4, 5, 0] rfl) h hB hX hR
      · have h := if_at c5 h
        refine lv_iload hx hb dX0_goThrough_43 (lv_at hl 0 rfl) ?_
        refine lv_iload_n hx hb dX0_goThrough_45 rfl (lv_at hl 3 rfl) ?_
        refine lv_isub hx hb dX0_goThrough_46 ?_
        refine lv_aload_n hx hb dX0_goThrough_47 rfl (lv_at hl 1 rfl) ?_
        refine gX_24_0 X K G q_184 dX0_goThrough_48 ?_
        refine lv_iload_n hx hb dX0_goThrough_51 rfl (lv_at hl 2 rfl) ?_
        refine lv_iload hx hb dX0_goThrough_52 (lv_at hl 5 rfl) ?_
        refine lv_iconst (v := 2) hx hb dX0_goThrough_54 (by decide) ?_
        obtain ⟨r6, u7, er6, h⟩ := bnd_at h
        refine cvI (rest := [.int (r2 - v3)]) X K G (c_X5_stepNumber er6) q_588 my_X5_stepNumber ⟨rfl, rfl⟩ ⟨Nat.le_of_ble_eq_true rfl, Nat.le_of_ble_eq_true rfl⟩ ⟨Nat.zero_le _, Nat.zero_le _⟩ 1 5 rfl rfl rfl rfl hl.1 rfl (Nat.le_of_ble_eq_true rfl) dX0_goThrough_55 (fun H locs G => ?_)
        clear er6
        refine lv_icmp_le (tgt := 64) hx hb dX0_goThrough_58 (by decide) (fun c8 => ?_) (fun c8 => ?_)
        · have h := it_at c8 h
          exact b_X0_goThrough_L16_64 X K G (lv_sub hl [1, 2, 4, 5, 0] rfl) h hB hX hR
        · have h := if_at c8 h
          refine lv_iload hx hb dX0_goThrough_61 (lv_at hl 5 rfl) ?_
          rw [hR _ _ (Option.some.inj h).symm]
          exact reI X G dX0_goThrough_63
noncomputable def f_X0_goThrough_L16_16s (q : Int32 × Int32 × Int32 × Int32 × XS) : Option ((Int32 × Int32 × Int32 × Int32 × XS) ⊕ ((Int32 × XS) ⊕ (XS))) := f_X0_goThrough_L16_16 q.1 q.2.1 q.2.2.1 q.2.2.2.1 q.2.2.2.2
set_option maxRecDepth 100000 in
set_option maxHeartbeats 4000000 in
theorem w_X0_goThrough_L16_16 (X : cx p s m args meth c cX0_goThrough 7 RX0 (some .int)) (K : kx D cI cZ cQ adK adV A s s.heap) {e0 : (Int32 × XS) ⊕ (XS)} : ∀ (n : Nat) (v1 : Int32) (v3 : Int32) (v4 : Int32) (v5 : Int32) (u : XS) {H : Heap} {locs : List Loc} {ls : Array Slot}, wh f_X0_goThrough_L16_16s n (v1, v3, v4, v5, u) = some e0 → wg D A s.heap H locs (wX cI cZ cQ ad u) → lv_has ls 7 [(0, .ref (ad 24)), (1, .int v1), (3, .int v3), (4, .int v4), (5, .int v5)] → (∀ (u : XS), e0 = .inr u → ∀ (H : Heap) (locs : List Loc) (ls : Array Slot), wg D A s.heap H locs (wX cI cZ cQ ad u) → lv_has ls 7 [] → W p l e { frames := 3, cells := 0, slots := 0, locals := 74 } s m args below meth c H locs 0 0 Q (F0 m 82 ls [])) → (∀ (r : Int32) (u : XS), e0 = .inl (r, u) → Q = (qI D A (wX cI cZ cQ ad) below args s r u)) → W p l e { frames := 3, cells := 0, slots := 0, locals := 74 } s m args below meth c H locs 0 0 Q (F0 m 16 ls []) := by
  intro n
  induction n with
  | zero => intro v1 v3 v4 v5 u H locs ls h; cases h
  | succ n ih =>
    intro v1 v3 v4 v5 u H locs ls h G hl hX hR
    obtain ⟨q, h1, h2, h3⟩ := wh_at h
    exact b_X0_goThrough_L16_16 X K G hl (show f_X0_goThrough_L16_16 v1 v3 v4 v5 u = some q from h1) (fun b0 b1 b2 b3 b4 ee H locs ls G hl => ih b0 b1 b2 b3 b4 (h2 _ ee) G hl hX hR) (fun z0 ee => hX z0 (h3 _ ee).symm) (fun r u ee => hR r u (h3 _ ee).symm)
noncomputable def f_X0_goThrough (a1 : Int32) (a2 : Int32) (u0 : XS) : Option (Int32 × XS) :=
  if a1 < 0 ∨ 8 ≤ a1.toNatClampNeg then none else
  nmv ((tCounts (xT u0)) a1.toNatClampNeg) fun x2 =>
  bne (wl f_X0_goThrough_L16_16s (a1, a2, x2, (0 : Int32), u0)) (fun a => some a) fun b =>
    nmv b fun u5 =>
    some ((-1 : Int32), u5)
set_option maxRecDepth 100000 in
set_option maxHeartbeats 4000000 in
theorem c_X0_goThrough {a1 : Int32} {a2 : Int32} {u0 : XS} {r : Int32} {u' : XS} (h : f_X0_goThrough a1 a2 u0 = some (r, u')) : MI l D cI cZ cQ adK adV A yX0_goThrough cX0_goThrough 7 (some .int) { frames := 3, cells := 0, slots := 0, locals := 74 } [.ref (ad 24), .int a1, .int a2] (wX cI cZ cQ ad) u0 r u' := by
  unfold f_X0_goThrough at h
  refine entI (by decide) (Nat.le_of_ble_eq_true rfl) (fun p e s m below meth c ls X K G hl => ?_)
  have hl : lv_has ls 7 [(0, .ref (ad 24)), (1, .int a1), (2, .int a2)] := hl
  obtain ⟨hx, hb, -⟩ := id X
  generalize hH : s.heap = H at G
  subst hH
  refine lv_iload_n hx hb dX0_goThrough_0 rfl (lv_at hl 2 rfl) ?_
  refine lv_istore_n (lv' := [(3, .int a2), (0, .ref (ad 24)), (1, .int a1), (2, .int a2)]) hx hb dX0_goThrough_1 rfl hl (by decide) rfl (fun ls hl => ?_)
  refine lv_aload_n hx hb dX0_goThrough_2 rfl (lv_at hl 1 rfl) ?_
  refine gX_24_0 X K G q_184 dX0_goThrough_3 ?_
  refine gX_1_8 X K G q_129 dX0_goThrough_6 ?_
  refine lv_iload_n hx hb dX0_goThrough_9 rfl (lv_at hl 2 rfl) ?_
  obtain ⟨g1, h⟩ := ck_at h
  refine lX_4 X K G g1 dX0_goThrough_10 ?_
  refine lv_topi (fun x2 ex2 => ?_)
  have h := nm_at ex2 h
  refine lv_istore (lv' := [(4, .int x2), (3, .int a2), (0, .ref (ad 24)), (1, .int a1), (2, .int a2)]) hx hb dX0_goThrough_11 hl (by decide) rfl (fun ls hl => ?_)
  refine lv_iconst (v := 0) hx hb dX0_goThrough_13 (by decide) ?_
  refine lv_istore (lv' := [(5, .int (0 : Int32)), (4, .int x2), (3, .int a2), (0, .ref (ad 24)), (1, .int a1), (2, .int a2)]) hx hb dX0_goThrough_14 hl (by decide) rfl (fun ls hl => ?_)
  obtain ⟨q4, hq4, ha, hb1⟩ := bne_at h
  obtain ⟨n3, hn3⟩ := wl_iff.mp hq4
  refine w_X0_goThrough_L16_16 X K n3 _ _ _ _ _ hn3 G (lv_sub hl [3, 4, 2, 1, 0] rfl) (fun  u5 ee H locs ls G hl => ?_) (fun r u1 ee => by obtain ⟨rfl, rfl⟩ := pair_at (ha _ ee); rfl)
  have h := hb1 _ ee
  clear ee ha hb1 hq4 hn3
  have h := nm_at (x := u5) rfl h
  refine lv_iconst (v := -1) hx hb dX0_goThrough_82 (by decide) ?_
  obtain ⟨rfl, rfl⟩ := pair_at h
  exact reI X G dX0_goThrough_83
noncomputable def f_X6_run (a1 : Int32) (a2 : Int32) (a3 : Int32) (u0 : XS) : Option (Int32 × XS) :=
  bnd (f_X5_hasStep a1 a3 u0) fun r1 u2 =>
  (if r1 = 0 then
    bnd (f_X6_found (0 : Int32) u2) fun r4 u5 =>
    some (r4, u5)
  else
    bnd (f_X6_within a2 (0 : Int32) (999 : Int32) u2) fun r6 u7 =>
    (if r6 = 0 then
      bnd (f_X6_found (0 : Int32) u7) fun r17 u18 =>
      some (r17, u18)
    else
      bnd (f_X0_goThrough a1 a2 u7) fun r9 u10 =>
      (if 0 ≤ r9 then
        bnd (f_X6_dayOrNone (-1 : Int32) u10) fun r12 u13 =>
        some (r12, u13)
      else
        if a3 < 0 ∨ 8 ≤ a3.toNatClampNeg then none else
        bnd (f_X6_dayOrNone ((xL u10) a3.toNatClampNeg) u10) fun r15 u16 =>
        some (r15, u16))))
set_option maxRecDepth 100000 in
set_option maxHeartbeats 4000000 in
theorem c_X6_run {a1 : Int32} {a2 : Int32} {a3 : Int32} {u0 : XS} {r : Int32} {u' : XS} (h : f_X6_run a1 a2 a3 u0 = some (r, u')) : MI l D cI cZ cQ adK adV A yX6_run cX6_run 4 (some .int) { frames := 4, cells := 0, slots := 0, locals := 100 } [.ref (ad 0), .int a1, .int a2, .int a3] (wX cI cZ cQ ad) u0 r u' := by
  unfold f_X6_run at h
  refine entI (by decide) (Nat.le_of_ble_eq_true rfl) (fun p e s m below meth c ls X K G hl => ?_)
  have hl : lv_has ls 4 [(0, .ref (ad 0)), (1, .int a1), (2, .int a2), (3, .int a3)] := hl
  obtain ⟨hx, hb, -⟩ := id X
  generalize hH : s.heap = H at G
  subst hH
  refine lv_aload_n hx hb dX6_run_0 rfl (lv_at hl 0 rfl) ?_
  refine gX_0_0 X K G q_300 dX6_run_1 ?_
  refine lv_iload_n hx hb dX6_run_4 rfl (lv_at hl 1 rfl) ?_
  refine lv_iload_n hx hb dX6_run_5 rfl (lv_at hl 3 rfl) ?_
  obtain ⟨r1, u2, er1, h⟩ := bnd_at h
  refine cvI (rest := []) X K G (c_X5_hasStep er1) q_558 my_X5_hasStep ⟨rfl, rfl⟩ ⟨Nat.le_of_ble_eq_true rfl, Nat.le_of_ble_eq_true rfl⟩ ⟨Nat.zero_le _, Nat.zero_le _⟩ 1 5 rfl rfl rfl rfl hl.1 rfl (Nat.le_of_ble_eq_true rfl) dX6_run_6 (fun H locs G => ?_)
  clear er1
  refine lv_if_eq (tgt := 23) hx hb dX6_run_9 (by decide) (fun c3 => ?_) (fun c3 => ?_)
  · have h := it_at c3 h
    refine lv_aload_n hx hb dX6_run_23 rfl (lv_at hl 0 rfl) ?_
    refine lv_iconst (v := 0) hx hb dX6_run_24 (by decide) ?_
    obtain ⟨r4, u5, er4, h⟩ := bnd_at h
    refine cvI (rest := []) X K G (c_X6_found er4) q_338 my_X6_found ⟨rfl, rfl⟩ ⟨Nat.le_of_ble_eq_true rfl, Nat.le_of_ble_eq_true rfl⟩ ⟨Nat.zero_le _, Nat.zero_le _⟩ 0 6 rfl rfl rfl rfl hl.1 rfl (Nat.le_of_ble_eq_true rfl) dX6_run_25 (fun H locs G => ?_)
    clear er4
    obtain ⟨rfl, rfl⟩ := pair_at h
    exact reI X G dX6_run_28
  · have h := if_at c3 h
    refine lv_iload_n hx hb dX6_run_12 rfl (lv_at hl 2 rfl) ?_
    refine lv_iconst (v := 0) hx hb dX6_run_13 (by decide) ?_
    refine lv_sipush (v := 999) hx hb dX6_run_14 (by decide) ?_
    obtain ⟨r6, u7, er6, h⟩ := bnd_at h
    refine csI (rest := []) X K G (c_X6_within er6) q_335 my_X6_within ⟨rfl, rfl⟩ ⟨Nat.le_of_ble_eq_true rfl, Nat.le_of_ble_eq_true rfl⟩ ⟨Nat.zero_le _, Nat.zero_le _⟩ rfl hl.1 rfl (Nat.le_of_ble_eq_true rfl) dX6_run_17 (fun H locs G => ?_)
    clear er6
    refine lv_if_ne (tgt := 29) hx hb dX6_run_20 (by decide) (fun c8 => ?_) (fun c8 => ?_)
    · have h := if_at c8 h
      refine lv_aload_n hx hb dX6_run_29 rfl (lv_at hl 0 rfl) ?_
      refine lv_aload_n hx hb dX6_run_30 rfl (lv_at hl 0 rfl) ?_
      refine gX_0_4 X K G q_304 dX6_run_31 ?_
      refine lv_iload_n hx hb dX6_run_34 rfl (lv_at hl 1 rfl) ?_
      refine lv_iload_n hx hb dX6_run_35 rfl (lv_at hl 2 rfl) ?_
      obtain ⟨r9, u10, er9, h⟩ := bnd_at h
      refine cvI (rest := [.ref (ad 0)]) X K G (c_X0_goThrough er9) q_620 my_X0_goThrough ⟨rfl, rfl⟩ ⟨Nat.le_of_ble_eq_true rfl, Nat.le_of_ble_eq_true rfl⟩ ⟨Nat.zero_le _, Nat.zero_le _⟩ 24 0 rfl rfl rfl rfl hl.1 rfl (Nat.le_of_ble_eq_true rfl) dX6_run_36 (fun H locs G => ?_)
      clear er9
      refine lv_if_ge (tgt := 54) hx hb dX6_run_39 (by decide) (fun c11 => ?_) (fun c11 => ?_)
      · have h := it_at c11 h
        refine lv_iconst (v := -1) hx hb dX6_run_54 (by decide) ?_
        obtain ⟨r12, u13, er12, h⟩ := bnd_at h
        refine cvI (rest := []) X K G (c_X6_dayOrNone er12) q_612 my_X6_dayOrNone ⟨rfl, rfl⟩ ⟨Nat.le_of_ble_eq_true rfl, Nat.le_of_ble_eq_true rfl⟩ ⟨Nat.zero_le _, Nat.zero_le _⟩ 0 6 rfl rfl rfl rfl hl.1 rfl (Nat.le_of_ble_eq_true rfl) dX6_run_55 (fun H locs G => ?_)
        clear er12
        obtain ⟨rfl, rfl⟩ := pair_at h
        exact reI X G dX6_run_58
      · have h := if_at c11 h
        refine lv_aload_n hx hb dX6_run_42 rfl (lv_at hl 0 rfl) ?_
        refine gX_0_4 X K G q_304 dX6_run_43 ?_
        refine gX_24_1 X K G q_187 dX6_run_46 ?_
        refine lv_iload_n hx hb dX6_run_49 rfl (lv_at hl 3 rfl) ?_
        obtain ⟨g14, h⟩ := ck_at h
        refine lX_25 X K G g14 dX6_run_50 ?_
        refine lv_goto (tgt := 55) hx hb dX6_run_51 (by decide) ?_
        obtain ⟨r15, u16, er15, h⟩ := bnd_at h
        refine cvI (rest := []) X K G (c_X6_dayOrNone er15) q_612 my_X6_dayOrNone ⟨rfl, rfl⟩ ⟨Nat.le_of_ble_eq_true rfl, Nat.le_of_ble_eq_true rfl⟩ ⟨Nat.zero_le _, Nat.zero_le _⟩ 0 6 rfl rfl rfl rfl hl.1 rfl (Nat.le_of_ble_eq_true rfl) dX6_run_55 (fun H locs G => ?_)
        clear er15
        obtain ⟨rfl, rfl⟩ := pair_at h
        exact reI X G dX6_run_58
    · have h := it_at c8 h
      refine lv_aload_n hx hb dX6_run_23 rfl (lv_at hl 0 rfl) ?_
      refine lv_iconst (v := 0) hx hb dX6_run_24 (by decide) ?_
      obtain ⟨r17, u18, er17, h⟩ := bnd_at h
      refine cvI (rest := []) X K G (c_X6_found er17) q_338 my_X6_found ⟨rfl, rfl⟩ ⟨Nat.le_of_ble_eq_true rfl, Nat.le_of_ble_eq_true rfl⟩ ⟨Nat.zero_le _, Nat.zero_le _⟩ 0 6 rfl rfl rfl rfl hl.1 rfl (Nat.le_of_ble_eq_true rfl) dX6_run_25 (fun H locs G => ?_)
      clear er17
      obtain ⟨rfl, rfl⟩ := pair_at h
      exact reI X G dX6_run_28
noncomputable def f_X6_spoils (a1 : Int32) (a2 : Int32) (u0 : XS) : Option (Int32 × XS) :=
  bnd (f_X5_hasThing a1 u0) fun r1 u2 =>
  (if r1 = 0 then
    bnd (f_X6_found (0 : Int32) u2) fun r4 u5 =>
    some (r4, u5)
  else
    bnd (f_X6_within a2 (0 : Int32) (999 : Int32) u2) fun r6 u7 =>
    (if r6 = 0 then
      bnd (f_X6_found (0 : Int32) u7) fun r13 u14 =>
      some (r13, u14)
    else
      bnd (f_X0_goThrough a1 a2 u7) fun r9 u10 =>
      bnd (f_X6_dayOrNone r9 u10) fun r11 u12 =>
      some (r11, u12)))
set_option maxRecDepth 100000 in
set_option maxHeartbeats 4000000 in
theorem c_X6_spoils {a1 : Int32} {a2 : Int32} {u0 : XS} {r : Int32} {u' : XS} (h : f_X6_spoils a1 a2 u0 = some (r, u')) : MI l D cI cZ cQ adK adV A yX6_spoils cX6_spoils 3 (some .int) { frames := 4, cells := 0, slots := 0, locals := 100 } [.ref (ad 0), .int a1, .int a2] (wX cI cZ cQ ad) u0 r u' := by
  unfold f_X6_spoils at h
  refine entI (by decide) (Nat.le_of_ble_eq_true rfl) (fun p e s m below meth c ls X K G hl => ?_)
  have hl : lv_has ls 3 [(0, .ref (ad 0)), (1, .int a1), (2, .int a2)] := hl
  obtain ⟨hx, hb, -⟩ := id X
  generalize hH : s.heap = H at G
  subst hH
  refine lv_aload_n hx hb dX6_spoils_0 rfl (lv_at hl 0 rfl) ?_
  refine gX_0_0 X K G q_300 dX6_spoils_1 ?_
  refine lv_iload_n hx hb dX6_spoils_4 rfl (lv_at hl 1 rfl) ?_
  obtain ⟨r1, u2, er1, h⟩ := bnd_at h
  refine cvI (rest := []) X K G (c_X5_hasThing er1) q_553 my_X5_hasThing ⟨rfl, rfl⟩ ⟨Nat.le_of_ble_eq_true rfl, Nat.le_of_ble_eq_true rfl⟩ ⟨Nat.zero_le _, Nat.zero_le _⟩ 1 5 rfl rfl rfl rfl hl.1 rfl (Nat.le_of_ble_eq_true rfl) dX6_spoils_5 (fun H locs G => ?_)
  clear er1
  refine lv_if_eq (tgt := 22) hx hb dX6_spoils_8 (by decide) (fun c3 => ?_) (fun c3 => ?_)
  · have h := it_at c3 h
    refine lv_aload_n hx hb dX6_spoils_22 rfl (lv_at hl 0 rfl) ?_
    refine lv_iconst (v := 0) hx hb dX6_spoils_23 (by decide) ?_
    obtain ⟨r4, u5, er4, h⟩ := bnd_at h
    refine cvI (rest := []) X K G (c_X6_found er4) q_338 my_X6_found ⟨rfl, rfl⟩ ⟨Nat.le_of_ble_eq_true rfl, Nat.le_of_ble_eq_true rfl⟩ ⟨Nat.zero_le _, Nat.zero_le _⟩ 0 6 rfl rfl rfl rfl hl.1 rfl (Nat.le_of_ble_eq_true rfl) dX6_spoils_24 (fun H locs G => ?_)
    clear er4
    obtain ⟨rfl, rfl⟩ := pair_at h
    exact reI X G dX6_spoils_27
  · have h := if_at c3 h
    refine lv_iload_n hx hb dX6_spoils_11 rfl (lv_at hl 2 rfl) ?_
    refine lv_iconst (v := 0) hx hb dX6_spoils_12 (by decide) ?_
    refine lv_sipush (v := 999) hx hb dX6_spoils_13 (by decide) ?_
    obtain ⟨r6, u7, er6, h⟩ := bnd_at h
    refine csI (rest := []) X K G (c_X6_within er6) q_335 my_X6_within ⟨rfl, rfl⟩ ⟨Nat.le_of_ble_eq_true rfl, Nat.le_of_ble_eq_true rfl⟩ ⟨Nat.zero_le _, Nat.zero_le _⟩ rfl hl.1 rfl (Nat.le_of_ble_eq_true rfl) dX6_spoils_16 (fun H locs G => ?_)
    clear er6
    refine lv_if_ne (tgt := 28) hx hb dX6_spoils_19 (by decide) (fun c8 => ?_) (fun c8 => ?_)
    · have h := if_at c8 h
      refine lv_aload_n hx hb dX6_spoils_28 rfl (lv_at hl 0 rfl) ?_
      refine lv_aload_n hx hb dX6_spoils_29 rfl (lv_at hl 0 rfl) ?_
      refine gX_0_4 X K G q_304 dX6_spoils_30 ?_
      refine lv_iload_n hx hb dX6_spoils_33 rfl (lv_at hl 1 rfl) ?_
      refine lv_iload_n hx hb dX6_spoils_34 rfl (lv_at hl 2 rfl) ?_
      obtain ⟨r9, u10, er9, h⟩ := bnd_at h
      refine cvI (rest := [.ref (ad 0)]) X K G (c_X0_goThrough er9) q_620 my_X0_goThrough ⟨rfl, rfl⟩ ⟨Nat.le_of_ble_eq_true rfl, Nat.le_of_ble_eq_true rfl⟩ ⟨Nat.zero_le _, Nat.zero_le _⟩ 24 0 rfl rfl rfl rfl hl.1 rfl (Nat.le_of_ble_eq_true rfl) dX6_spoils_35 (fun H locs G => ?_)
      clear er9
      obtain ⟨r11, u12, er11, h⟩ := bnd_at h
      refine cvI (rest := []) X K G (c_X6_dayOrNone er11) q_612 my_X6_dayOrNone ⟨rfl, rfl⟩ ⟨Nat.le_of_ble_eq_true rfl, Nat.le_of_ble_eq_true rfl⟩ ⟨Nat.zero_le _, Nat.zero_le _⟩ 0 6 rfl rfl rfl rfl hl.1 rfl (Nat.le_of_ble_eq_true rfl) dX6_spoils_38 (fun H locs G => ?_)
      clear er11
      obtain ⟨rfl, rfl⟩ := pair_at h
      exact reI X G dX6_spoils_41
    · have h := it_at c8 h
      refine lv_aload_n hx hb dX6_spoils_22 rfl (lv_at hl 0 rfl) ?_
      refine lv_iconst (v := 0) hx hb dX6_spoils_23 (by decide) ?_
      obtain ⟨r13, u14, er13, h⟩ := bnd_at h
      refine cvI (rest := []) X K G (c_X6_found er13) q_338 my_X6_found ⟨rfl, rfl⟩ ⟨Nat.le_of_ble_eq_true rfl, Nat.le_of_ble_eq_true rfl⟩ ⟨Nat.zero_le _, Nat.zero_le _⟩ 0 6 rfl rfl rfl rfl hl.1 rfl (Nat.le_of_ble_eq_true rfl) dX6_spoils_24 (fun H locs G => ?_)
      clear er13
      obtain ⟨rfl, rfl⟩ := pair_at h
      exact reI X G dX6_spoils_27
noncomputable def f_X0_begunFrom_L2_2 (v1 : Int32) (v2 : Int32) (v3 : Int32) (u0 : XS) : Option ((Int32 × Int32 × Int32 × XS) ⊕ ((Int32 × XS) ⊕ (XS))) :=
  (if (v2 + (tRound (xT u0))) ≤ v3 then
    some (.inr (.inr u0))
  else
    bnd (f_X0_goThrough v1 v3 u0) fun r2 u3 =>
    (if 0 ≤ r2 then
      nmv (v3 + (1 : Int32)) fun x5 =>
      some (.inl (v1, v2, x5, u3))
    else
      some (.inr (.inl (v3, u3)))))
set_option maxRecDepth 100000 in
set_option maxHeartbeats 4000000 in
theorem b_X0_begunFrom_L2_2 (X : cx p s m args meth c cX0_begunFrom 4 RX0 (some .int)) (K : kx D cI cZ cQ adK adV A s s.heap) {v1 : Int32} {v2 : Int32} {v3 : Int32} {u0 : XS} (G : wg D A s.heap H locs (wX cI cZ cQ ad u0)) (hl : lv_has ls 4 [(0, .ref (ad 24)), (1, .int v1), (2, .int v2), (3, .int v3)]) {q : ((Int32 × Int32 × Int32 × XS) ⊕ ((Int32 × XS) ⊕ (XS)))} (h : f_X0_begunFrom_L2_2 v1 v2 v3 u0 = some q) (hB : ∀ (v1 : Int32) (v2 : Int32) (v3 : Int32) (u : XS), q = .inl (v1, v2, v3, u) → ∀ (H : Heap) (locs : List Loc) (ls : Array Slot), wg D A s.heap H locs (wX cI cZ cQ ad u) → lv_has ls 4 [(0, .ref (ad 24)), (1, .int v1), (2, .int v2), (3, .int v3)] → W p l e { frames := 4, cells := 0, slots := 0, locals := 100 } s m args below meth c H locs 0 0 Q (F0 m 2 ls [])) (hX : ∀ (u : XS), q = .inr (.inr u) → ∀ (H : Heap) (locs : List Loc) (ls : Array Slot), wg D A s.heap H locs (wX cI cZ cQ ad u) → lv_has ls 4 [] → W p l e { frames := 4, cells := 0, slots := 0, locals := 100 } s m args below meth c H locs 0 0 Q (F0 m 32 ls [])) (hR : ∀ (r : Int32) (u : XS), q = .inr (.inl (r, u)) → Q = (qI D A (wX cI cZ cQ ad) below args s r u)) : W p l e { frames := 4, cells := 0, slots := 0, locals := 100 } s m args below meth c H locs 0 0 Q (F0 m 2 ls []) := by
  unfold f_X0_begunFrom_L2_2 at h
  obtain ⟨hx, hb, -⟩ := id X
  refine lv_iload_n hx hb dX0_begunFrom_2 rfl (lv_at hl 3 rfl) ?_
  refine lv_iload_n hx hb dX0_begunFrom_3 rfl (lv_at hl 2 rfl) ?_
  refine lv_aload_n hx hb dX0_begunFrom_4 rfl (lv_at hl 0 rfl) ?_
  refine gX_24_0 X K G q_184 dX0_begunFrom_5 ?_
  refine gX_1_0 X K G q_102 dX0_begunFrom_8 ?_
  refine lv_iadd hx hb dX0_begunFrom_11 ?_
  refine lv_icmp_ge (tgt := 32) hx hb dX0_begunFrom_12 (by decide) (fun c1 => ?_) (fun c1 => ?_)
  · have h := it_at c1 h
    exact hX _ (Option.some.inj h).symm _ _ _ G (lv_sub hl [] rfl)
  · have h := if_at c1 h
    refine lv_aload_n hx hb dX0_begunFrom_15 rfl (lv_at hl 0 rfl) ?_
    refine lv_iload_n hx hb dX0_begunFrom_16 rfl (lv_at hl 1 rfl) ?_
    refine lv_iload_n hx hb dX0_begunFrom_17 rfl (lv_at hl 3 rfl) ?_
    obtain ⟨r2, u3, er2, h⟩ := bnd_at h
    refine cvI (rest := []) X K G (c_X0_goThrough er2) q_641 my_X0_goThrough ⟨rfl, rfl⟩ ⟨Nat.le_of_ble_eq_true rfl, Nat.le_of_ble_eq_true rfl⟩ ⟨Nat.zero_le _, Nat.zero_le _⟩ 24 0 rfl rfl rfl rfl hl.1 rfl (Nat.le_of_ble_eq_true rfl) dX0_begunFrom_18 (fun H locs G => ?_)
    clear er2
    refine lv_if_ge (tgt := 26) hx hb dX0_begunFrom_21 (by decide) (fun c4 => ?_) (fun c4 => ?_)
    · have h := it_at c4 h
      obtain ⟨x5, ex5⟩ : ∃ z : Int32, z = v3 + (1 : Int32) := ⟨_, rfl⟩
      have h := nm_at ex5 h
      refine lv_iinc (v := x5) (lv' := [(3, .int x5), (0, .ref (ad 24)), (1, .int v1), (2, .int v2)]) hx hb dX0_begunFrom_26 hl (k := 3) rfl (by rw [ex5]; rfl) (by decide) rfl (fun ls hl => ?_)
      refine lv_goto (tgt := 2) hx hb dX0_begunFrom_29 (by decide) ?_
      exact hB _ _ _ _ (Option.some.inj h).symm _ _ _ G (lv_sub hl [1, 2, 3, 0] rfl)
    · have h := if_at c4 h
      refine lv_iload_n hx hb dX0_begunFrom_24 rfl (lv_at hl 3 rfl) ?_
      rw [hR _ _ (Option.some.inj h).symm]
      exact reI X G dX0_begunFrom_25
noncomputable def f_X0_begunFrom_L2_2s (q : Int32 × Int32 × Int32 × XS) : Option ((Int32 × Int32 × Int32 × XS) ⊕ ((Int32 × XS) ⊕ (XS))) := f_X0_begunFrom_L2_2 q.1 q.2.1 q.2.2.1 q.2.2.2
set_option maxRecDepth 100000 in
set_option maxHeartbeats 4000000 in
theorem w_X0_begunFrom_L2_2 (X : cx p s m args meth c cX0_begunFrom 4 RX0 (some .int)) (K : kx D cI cZ cQ adK adV A s s.heap) {e0 : (Int32 × XS) ⊕ (XS)} : ∀ (n : Nat) (v1 : Int32) (v2 : Int32) (v3 : Int32) (u : XS) {H : Heap} {locs : List Loc} {ls : Array Slot}, wh f_X0_begunFrom_L2_2s n (v1, v2, v3, u) = some e0 → wg D A s.heap H locs (wX cI cZ cQ ad u) → lv_has ls 4 [(0, .ref (ad 24)), (1, .int v1), (2, .int v2), (3, .int v3)] → (∀ (u : XS), e0 = .inr u → ∀ (H : Heap) (locs : List Loc) (ls : Array Slot), wg D A s.heap H locs (wX cI cZ cQ ad u) → lv_has ls 4 [] → W p l e { frames := 4, cells := 0, slots := 0, locals := 100 } s m args below meth c H locs 0 0 Q (F0 m 32 ls [])) → (∀ (r : Int32) (u : XS), e0 = .inl (r, u) → Q = (qI D A (wX cI cZ cQ ad) below args s r u)) → W p l e { frames := 4, cells := 0, slots := 0, locals := 100 } s m args below meth c H locs 0 0 Q (F0 m 2 ls []) := by
  intro n
  induction n with
  | zero => intro v1 v2 v3 u H locs ls h; cases h
  | succ n ih =>
    intro v1 v2 v3 u H locs ls h G hl hX hR
    obtain ⟨q, h1, h2, h3⟩ := wh_at h
    exact b_X0_begunFrom_L2_2 X K G hl (show f_X0_begunFrom_L2_2 v1 v2 v3 u = some q from h1) (fun b0 b1 b2 b3 ee H locs ls G hl => ih b0 b1 b2 b3 (h2 _ ee) G hl hX hR) (fun z0 ee => hX z0 (h3 _ ee).symm) (fun r u ee => hR r u (h3 _ ee).symm)
noncomputable def f_X0_begunFrom (a1 : Int32) (a2 : Int32) (u0 : XS) : Option (Int32 × XS) :=
  bne (wl f_X0_begunFrom_L2_2s (a1, a2, a2, u0)) (fun a => some a) fun b =>
    nmv b fun u3 =>
    some ((-1 : Int32), u3)
set_option maxRecDepth 100000 in
set_option maxHeartbeats 4000000 in
theorem c_X0_begunFrom {a1 : Int32} {a2 : Int32} {u0 : XS} {r : Int32} {u' : XS} (h : f_X0_begunFrom a1 a2 u0 = some (r, u')) : MI l D cI cZ cQ adK adV A yX0_begunFrom cX0_begunFrom 4 (some .int) { frames := 4, cells := 0, slots := 0, locals := 100 } [.ref (ad 24), .int a1, .int a2] (wX cI cZ cQ ad) u0 r u' := by
  unfold f_X0_begunFrom at h
  refine entI (by decide) (Nat.le_of_ble_eq_true rfl) (fun p e s m below meth c ls X K G hl => ?_)
  have hl : lv_has ls 4 [(0, .ref (ad 24)), (1, .int a1), (2, .int a2)] := hl
  obtain ⟨hx, hb, -⟩ := id X
  generalize hH : s.heap = H at G
  subst hH
  refine lv_iload_n hx hb dX0_begunFrom_0 rfl (lv_at hl 2 rfl) ?_
  refine lv_istore_n (lv' := [(3, .int a2), (0, .ref (ad 24)), (1, .int a1), (2, .int a2)]) hx hb dX0_begunFrom_1 rfl hl (by decide) rfl (fun ls hl => ?_)
  obtain ⟨q2, hq2, ha, hb1⟩ := bne_at h
  obtain ⟨n1, hn1⟩ := wl_iff.mp hq2
  refine w_X0_begunFrom_L2_2 X K n1 _ _ _ _ hn1 G (lv_sub hl [1, 2, 3, 0] rfl) (fun  u3 ee H locs ls G hl => ?_) (fun r u1 ee => by obtain ⟨rfl, rfl⟩ := pair_at (ha _ ee); rfl)
  have h := hb1 _ ee
  clear ee ha hb1 hq2 hn1
  have h := nm_at (x := u3) rfl h
  refine lv_iconst (v := -1) hx hb dX0_begunFrom_32 (by decide) ?_
  obtain ⟨rfl, rfl⟩ := pair_at h
  exact reI X G dX0_begunFrom_33
noncomputable def f_X0_lastRunDay (a1 : Int32) (u0 : XS) : Option (Int32 × XS) :=
  if a1 < 0 ∨ 8 ≤ a1.toNatClampNeg then none else
  nmv ((tCounts (xT u0)) a1.toNatClampNeg) fun x2 =>
  (if (1 : Int32) ≤ x2 then
    nmv (x2 - (1 : Int32)) fun x4 =>
    if x4 < 0 ∨ 8 ≤ x4.toNatClampNeg then none else
    some ((xL u0) x4.toNatClampNeg, u0)
  else
    some ((-1 : Int32), u0))
set_option maxRecDepth 100000 in
set_option maxHeartbeats 4000000 in
theorem c_X0_lastRunDay {a1 : Int32} {u0 : XS} {r : Int32} {u' : XS} (h : f_X0_lastRunDay a1 u0 = some (r, u')) : MI l D cI cZ cQ adK adV A yX0_lastRunDay cX0_lastRunDay 3 (some .int) { frames := 0, cells := 0, slots := 0, locals := 0 } [.ref (ad 24), .int a1] (wX cI cZ cQ ad) u0 r u' := by
  unfold f_X0_lastRunDay at h
  refine entI (by decide) (Nat.le_of_ble_eq_true rfl) (fun p e s m below meth c ls X K G hl => ?_)
  have hl : lv_has ls 3 [(0, .ref (ad 24)), (1, .int a1)] := hl
  obtain ⟨hx, hb, -⟩ := id X
  generalize hH : s.heap = H at G
  subst hH
  refine lv_aload_n hx hb dX0_lastRunDay_0 rfl (lv_at hl 0 rfl) ?_
  refine gX_24_0 X K G q_184 dX0_lastRunDay_1 ?_
  refine gX_1_8 X K G q_129 dX0_lastRunDay_4 ?_
  refine lv_iload_n hx hb dX0_lastRunDay_7 rfl (lv_at hl 1 rfl) ?_
  obtain ⟨g1, h⟩ := ck_at h
  refine lX_4 X K G g1 dX0_lastRunDay_8 ?_
  refine lv_topi (fun x2 ex2 => ?_)
  have h := nm_at ex2 h
  refine lv_istore_n (lv' := [(2, .int x2), (0, .ref (ad 24)), (1, .int a1)]) hx hb dX0_lastRunDay_9 rfl hl (by decide) rfl (fun ls hl => ?_)
  refine lv_iload_n hx hb dX0_lastRunDay_10 rfl (lv_at hl 0 rfl) ?_
  refine lv_iconst (v := 1) hx hb dX0_lastRunDay_11 (by decide) ?_
  refine lv_icmp_ge (tgt := 19) hx hb dX0_lastRunDay_12 (by decide) (fun c3 => ?_) (fun c3 => ?_)
  · have h := it_at c3 h
    refine lv_aload_n hx hb dX0_lastRunDay_19 rfl (lv_at hl 1 rfl) ?_
    refine gX_24_1 X K G q_185 dX0_lastRunDay_20 ?_
    refine lv_iload_n hx hb dX0_lastRunDay_23 rfl (lv_at hl 0 rfl) ?_
    refine lv_iconst (v := 1) hx hb dX0_lastRunDay_24 (by decide) ?_
    refine lv_isub hx hb dX0_lastRunDay_25 ?_
    refine lv_topi (fun x4 ex4 => ?_)
    have h := nm_at ex4 h
    obtain ⟨g5, h⟩ := ck_at h
    refine lX_25 X K G g5 dX0_lastRunDay_26 ?_
    obtain ⟨rfl, rfl⟩ := pair_at h
    exact reI X G dX0_lastRunDay_27
  · have h := if_at c3 h
    refine lv_iconst (v := -1) hx hb dX0_lastRunDay_15 (by decide) ?_
    refine lv_goto (tgt := 27) hx hb dX0_lastRunDay_16 (by decide) ?_
    obtain ⟨rfl, rfl⟩ := pair_at h
    exact reI X G dX0_lastRunDay_27
noncomputable def f_X0_readyFrom (a1 : Int32) (a2 : Int32) (u0 : XS) : Option (Int32 × XS) :=
  bnd (f_X0_begunFrom a1 a2 u0) fun r1 u2 =>
  (if 0 ≤ r1 then
    bnd (f_X0_lastRunDay a1 u2) fun r4 u5 =>
    some (r4, u5)
  else
    some ((-1 : Int32), u2))
set_option maxRecDepth 100000 in
set_option maxHeartbeats 4000000 in
theorem c_X0_readyFrom {a1 : Int32} {a2 : Int32} {u0 : XS} {r : Int32} {u' : XS} (h : f_X0_readyFrom a1 a2 u0 = some (r, u')) : MI l D cI cZ cQ adK adV A yX0_readyFrom cX0_readyFrom 3 (some .int) { frames := 5, cells := 0, slots := 0, locals := 123 } [.ref (ad 24), .int a1, .int a2] (wX cI cZ cQ ad) u0 r u' := by
  unfold f_X0_readyFrom at h
  refine entI (by decide) (Nat.le_of_ble_eq_true rfl) (fun p e s m below meth c ls X K G hl => ?_)
  have hl : lv_has ls 3 [(0, .ref (ad 24)), (1, .int a1), (2, .int a2)] := hl
  obtain ⟨hx, hb, -⟩ := id X
  generalize hH : s.heap = H at G
  subst hH
  refine lv_aload_n hx hb dX0_readyFrom_0 rfl (lv_at hl 0 rfl) ?_
  refine lv_iload_n hx hb dX0_readyFrom_1 rfl (lv_at hl 1 rfl) ?_
  refine lv_iload_n hx hb dX0_readyFrom_2 rfl (lv_at hl 2 rfl) ?_
  obtain ⟨r1, u2, er1, h⟩ := bnd_at h
  refine cvI (rest := []) X K G (c_X0_begunFrom er1) q_637 my_X0_begunFrom ⟨rfl, rfl⟩ ⟨Nat.le_of_ble_eq_true rfl, Nat.le_of_ble_eq_true rfl⟩ ⟨Nat.zero_le _, Nat.zero_le _⟩ 24 0 rfl rfl rfl rfl hl.1 rfl (Nat.le_of_ble_eq_true rfl) dX0_readyFrom_3 (fun H locs G => ?_)
  clear er1
  refine lv_if_ge (tgt := 13) hx hb dX0_readyFrom_6 (by decide) (fun c3 => ?_) (fun c3 => ?_)
  · have h := it_at c3 h
    refine lv_aload_n hx hb dX0_readyFrom_13 rfl (lv_at hl 0 rfl) ?_
    refine lv_iload_n hx hb dX0_readyFrom_14 rfl (lv_at hl 1 rfl) ?_
    obtain ⟨r4, u5, er4, h⟩ := bnd_at h
    refine cvI (rest := []) X K G (c_X0_lastRunDay er4) q_642 my_X0_lastRunDay ⟨rfl, rfl⟩ ⟨Nat.le_of_ble_eq_true rfl, Nat.le_of_ble_eq_true rfl⟩ ⟨Nat.zero_le _, Nat.zero_le _⟩ 24 0 rfl rfl rfl rfl hl.1 rfl (Nat.le_of_ble_eq_true rfl) dX0_readyFrom_15 (fun H locs G => ?_)
    clear er4
    obtain ⟨rfl, rfl⟩ := pair_at h
    exact reI X G dX0_readyFrom_18
  · have h := if_at c3 h
    refine lv_iconst (v := -1) hx hb dX0_readyFrom_9 (by decide) ?_
    refine lv_goto (tgt := 18) hx hb dX0_readyFrom_10 (by decide) ?_
    obtain ⟨rfl, rfl⟩ := pair_at h
    exact reI X G dX0_readyFrom_18
noncomputable def f_X6_ready (a1 : Int32) (a2 : Int32) (u0 : XS) : Option (Int32 × XS) :=
  bnd (f_X5_hasThing a1 u0) fun r1 u2 =>
  (if r1 = 0 then
    bnd (f_X6_found (0 : Int32) u2) fun r4 u5 =>
    some (r4, u5)
  else
    bnd (f_X6_within a2 (0 : Int32) (999 : Int32) u2) fun r6 u7 =>
    (if r6 = 0 then
      bnd (f_X6_found (0 : Int32) u7) fun r13 u14 =>
      some (r13, u14)
    else
      bnd (f_X0_readyFrom a1 a2 u7) fun r9 u10 =>
      bnd (f_X6_dayOrNone r9 u10) fun r11 u12 =>
      some (r11, u12)))
set_option maxRecDepth 100000 in
set_option maxHeartbeats 4000000 in
theorem c_X6_ready {a1 : Int32} {a2 : Int32} {u0 : XS} {r : Int32} {u' : XS} (h : f_X6_ready a1 a2 u0 = some (r, u')) : MI l D cI cZ cQ adK adV A yX6_ready cX6_ready 3 (some .int) { frames := 6, cells := 0, slots := 0, locals := 145 } [.ref (ad 0), .int a1, .int a2] (wX cI cZ cQ ad) u0 r u' := by
  unfold f_X6_ready at h
  refine entI (by decide) (Nat.le_of_ble_eq_true rfl) (fun p e s m below meth c ls X K G hl => ?_)
  have hl : lv_has ls 3 [(0, .ref (ad 0)), (1, .int a1), (2, .int a2)] := hl
  obtain ⟨hx, hb, -⟩ := id X
  generalize hH : s.heap = H at G
  subst hH
  refine lv_aload_n hx hb dX6_ready_0 rfl (lv_at hl 0 rfl) ?_
  refine gX_0_0 X K G q_300 dX6_ready_1 ?_
  refine lv_iload_n hx hb dX6_ready_4 rfl (lv_at hl 1 rfl) ?_
  obtain ⟨r1, u2, er1, h⟩ := bnd_at h
  refine cvI (rest := []) X K G (c_X5_hasThing er1) q_553 my_X5_hasThing ⟨rfl, rfl⟩ ⟨Nat.le_of_ble_eq_true rfl, Nat.le_of_ble_eq_true rfl⟩ ⟨Nat.zero_le _, Nat.zero_le _⟩ 1 5 rfl rfl rfl rfl hl.1 rfl (Nat.le_of_ble_eq_true rfl) dX6_ready_5 (fun H locs G => ?_)
  clear er1
  refine lv_if_eq (tgt := 22) hx hb dX6_ready_8 (by decide) (fun c3 => ?_) (fun c3 => ?_)
  · have h := it_at c3 h
    refine lv_aload_n hx hb dX6_ready_22 rfl (lv_at hl 0 rfl) ?_
    refine lv_iconst (v := 0) hx hb dX6_ready_23 (by decide) ?_
    obtain ⟨r4, u5, er4, h⟩ := bnd_at h
    refine cvI (rest := []) X K G (c_X6_found er4) q_338 my_X6_found ⟨rfl, rfl⟩ ⟨Nat.le_of_ble_eq_true rfl, Nat.le_of_ble_eq_true rfl⟩ ⟨Nat.zero_le _, Nat.zero_le _⟩ 0 6 rfl rfl rfl rfl hl.1 rfl (Nat.le_of_ble_eq_true rfl) dX6_ready_24 (fun H locs G => ?_)
    clear er4
    obtain ⟨rfl, rfl⟩ := pair_at h
    exact reI X G dX6_ready_27
  · have h := if_at c3 h
    refine lv_iload_n hx hb dX6_ready_11 rfl (lv_at hl 2 rfl) ?_
    refine lv_iconst (v := 0) hx hb dX6_ready_12 (by decide) ?_
    refine lv_sipush (v := 999) hx hb dX6_ready_13 (by decide) ?_
    obtain ⟨r6, u7, er6, h⟩ := bnd_at h
    refine csI (rest := []) X K G (c_X6_within er6) q_335 my_X6_within ⟨rfl, rfl⟩ ⟨Nat.le_of_ble_eq_true rfl, Nat.le_of_ble_eq_true rfl⟩ ⟨Nat.zero_le _, Nat.zero_le _⟩ rfl hl.1 rfl (Nat.le_of_ble_eq_true rfl) dX6_ready_16 (fun H locs G => ?_)
    clear er6
    refine lv_if_ne (tgt := 28) hx hb dX6_ready_19 (by decide) (fun c8 => ?_) (fun c8 => ?_)
    · have h := if_at c8 h
      refine lv_aload_n hx hb dX6_ready_28 rfl (lv_at hl 0 rfl) ?_
      refine lv_aload_n hx hb dX6_ready_29 rfl (lv_at hl 0 rfl) ?_
      refine gX_0_4 X K G q_304 dX6_ready_30 ?_
      refine lv_iload_n hx hb dX6_ready_33 rfl (lv_at hl 1 rfl) ?_
      refine lv_iload_n hx hb dX6_ready_34 rfl (lv_at hl 2 rfl) ?_
      obtain ⟨r9, u10, er9, h⟩ := bnd_at h
      refine cvI (rest := [.ref (ad 0)]) X K G (c_X0_readyFrom er9) q_633 my_X0_readyFrom ⟨rfl, rfl⟩ ⟨Nat.le_of_ble_eq_true rfl, Nat.le_of_ble_eq_true rfl⟩ ⟨Nat.zero_le _, Nat.zero_le _⟩ 24 0 rfl rfl rfl rfl hl.1 rfl (Nat.le_of_ble_eq_true rfl) dX6_ready_35 (fun H locs G => ?_)
      clear er9
      obtain ⟨r11, u12, er11, h⟩ := bnd_at h
      refine cvI (rest := []) X K G (c_X6_dayOrNone er11) q_612 my_X6_dayOrNone ⟨rfl, rfl⟩ ⟨Nat.le_of_ble_eq_true rfl, Nat.le_of_ble_eq_true rfl⟩ ⟨Nat.zero_le _, Nat.zero_le _⟩ 0 6 rfl rfl rfl rfl hl.1 rfl (Nat.le_of_ble_eq_true rfl) dX6_ready_38 (fun H locs G => ?_)
      clear er11
      obtain ⟨rfl, rfl⟩ := pair_at h
      exact reI X G dX6_ready_41
    · have h := it_at c8 h
      refine lv_aload_n hx hb dX6_ready_22 rfl (lv_at hl 0 rfl) ?_
      refine lv_iconst (v := 0) hx hb dX6_ready_23 (by decide) ?_
      obtain ⟨r13, u14, er13, h⟩ := bnd_at h
      refine cvI (rest := []) X K G (c_X6_found er13) q_338 my_X6_found ⟨rfl, rfl⟩ ⟨Nat.le_of_ble_eq_true rfl, Nat.le_of_ble_eq_true rfl⟩ ⟨Nat.zero_le _, Nat.zero_le _⟩ 0 6 rfl rfl rfl rfl hl.1 rfl (Nat.le_of_ble_eq_true rfl) dX6_ready_24 (fun H locs G => ?_)
      clear er13
      obtain ⟨rfl, rfl⟩ := pair_at h
      exact reI X G dX6_ready_27
noncomputable def f_X6_begun (a1 : Int32) (a2 : Int32) (u0 : XS) : Option (Int32 × XS) :=
  bnd (f_X5_hasThing a1 u0) fun r1 u2 =>
  (if r1 = 0 then
    bnd (f_X6_found (0 : Int32) u2) fun r4 u5 =>
    some (r4, u5)
  else
    bnd (f_X6_within a2 (0 : Int32) (999 : Int32) u2) fun r6 u7 =>
    (if r6 = 0 then
      bnd (f_X6_found (0 : Int32) u7) fun r13 u14 =>
      some (r13, u14)
    else
      bnd (f_X0_begunFrom a1 a2 u7) fun r9 u10 =>
      bnd (f_X6_dayOrNone r9 u10) fun r11 u12 =>
      some (r11, u12)))
set_option maxRecDepth 100000 in
set_option maxHeartbeats 4000000 in
theorem c_X6_begun {a1 : Int32} {a2 : Int32} {u0 : XS} {r : Int32} {u' : XS} (h : f_X6_begun a1 a2 u0 = some (r, u')) : MI l D cI cZ cQ adK adV A yX6_begun cX6_begun 3 (some .int) { frames := 5, cells := 0, slots := 0, locals := 123 } [.ref (ad 0), .int a1, .int a2] (wX cI cZ cQ ad) u0 r u' := by
  unfold f_X6_begun at h
  refine entI (by decide) (Nat.le_of_ble_eq_true rfl) (fun p e s m below meth c ls X K G hl => ?_)
  have hl : lv_has ls 3 [(0, .ref (ad 0)), (1, .int a1), (2, .int a2)] := hl
  obtain ⟨hx, hb, -⟩ := id X
  generalize hH : s.heap = H at G
  subst hH
  refine lv_aload_n hx hb dX6_begun_0 rfl (lv_at hl 0 rfl) ?_
  refine gX_0_0 X K G q_300 dX6_begun_1 ?_
  refine lv_iload_n hx hb dX6_begun_4 rfl (lv_at hl 1 rfl) ?_
  obtain ⟨r1, u2, er1, h⟩ := bnd_at h
  refine cvI (rest := []) X K G (c_X5_hasThing er1) q_553 my_X5_hasThing ⟨rfl, rfl⟩ ⟨Nat.le_of_ble_eq_true rfl, Nat.le_of_ble_eq_true rfl⟩ ⟨Nat.zero_le _, Nat.zero_le _⟩ 1 5 rfl rfl rfl rfl hl.1 rfl (Nat.le_of_ble_eq_true rfl) dX6_begun_5 (fun H locs G => ?_)
  clear er1
  refine lv_if_eq (tgt := 22) hx hb dX6_begun_8 (by decide) (fun c3 => ?_) (fun c3 => ?_)
  · have h := it_at c3 h
    refine lv_aload_n hx hb dX6_begun_22 rfl (lv_at hl 0 rfl) ?_
    refine lv_iconst (v := 0) hx hb dX6_begun_23 (by decide) ?_
    obtain ⟨r4, u5, er4, h⟩ := bnd_at h
    refine cvI (rest := []) X K G (c_X6_found er4) q_338 my_X6_found ⟨rfl, rfl⟩ ⟨Nat.le_of_ble_eq_true rfl, Nat.le_of_ble_eq_true rfl⟩ ⟨Nat.zero_le _, Nat.zero_le _⟩ 0 6 rfl rfl rfl rfl hl.1 rfl (Nat.le_of_ble_eq_true rfl) dX6_begun_24 (fun H locs G => ?_)
    clear er4
    obtain ⟨rfl, rfl⟩ := pair_at h
    exact reI X G dX6_begun_27
  · have h := if_at c3 h
    refine lv_iload_n hx hb dX6_begun_11 rfl (lv_at hl 2 rfl) ?_
    refine lv_iconst (v := 0) hx hb dX6_begun_12 (by decide) ?_
    refine lv_sipush (v := 999) hx hb dX6_begun_13 (by decide) ?_
    obtain ⟨r6, u7, er6, h⟩ := bnd_at h
    refine csI (rest := []) X K G (c_X6_within er6) q_335 my_X6_within ⟨rfl, rfl⟩ ⟨Nat.le_of_ble_eq_true rfl, Nat.le_of_ble_eq_true rfl⟩ ⟨Nat.zero_le _, Nat.zero_le _⟩ rfl hl.1 rfl (Nat.le_of_ble_eq_true rfl) dX6_begun_16 (fun H locs G => ?_)
    clear er6
    refine lv_if_ne (tgt := 28) hx hb dX6_begun_19 (by decide) (fun c8 => ?_) (fun c8 => ?_)
    · have h := if_at c8 h
      refine lv_aload_n hx hb dX6_begun_28 rfl (lv_at hl 0 rfl) ?_
      refine lv_aload_n hx hb dX6_begun_29 rfl (lv_at hl 0 rfl) ?_
      refine gX_0_4 X K G q_304 dX6_begun_30 ?_
      refine lv_iload_n hx hb dX6_begun_33 rfl (lv_at hl 1 rfl) ?_
      refine lv_iload_n hx hb dX6_begun_34 rfl (lv_at hl 2 rfl) ?_
      obtain ⟨r9, u10, er9, h⟩ := bnd_at h
      refine cvI (rest := [.ref (ad 0)]) X K G (c_X0_begunFrom er9) q_650 my_X0_begunFrom ⟨rfl, rfl⟩ ⟨Nat.le_of_ble_eq_true rfl, Nat.le_of_ble_eq_true rfl⟩ ⟨Nat.zero_le _, Nat.zero_le _⟩ 24 0 rfl rfl rfl rfl hl.1 rfl (Nat.le_of_ble_eq_true rfl) dX6_begun_35 (fun H locs G => ?_)
      clear er9
      obtain ⟨r11, u12, er11, h⟩ := bnd_at h
      refine cvI (rest := []) X K G (c_X6_dayOrNone er11) q_612 my_X6_dayOrNone ⟨rfl, rfl⟩ ⟨Nat.le_of_ble_eq_true rfl, Nat.le_of_ble_eq_true rfl⟩ ⟨Nat.zero_le _, Nat.zero_le _⟩ 0 6 rfl rfl rfl rfl hl.1 rfl (Nat.le_of_ble_eq_true rfl) dX6_begun_38 (fun H locs G => ?_)
      clear er11
      obtain ⟨rfl, rfl⟩ := pair_at h
      exact reI X G dX6_begun_41
    · have h := it_at c8 h
      refine lv_aload_n hx hb dX6_begun_22 rfl (lv_at hl 0 rfl) ?_
      refine lv_iconst (v := 0) hx hb dX6_begun_23 (by decide) ?_
      obtain ⟨r13, u14, er13, h⟩ := bnd_at h
      refine cvI (rest := []) X K G (c_X6_found er13) q_338 my_X6_found ⟨rfl, rfl⟩ ⟨Nat.le_of_ble_eq_true rfl, Nat.le_of_ble_eq_true rfl⟩ ⟨Nat.zero_le _, Nat.zero_le _⟩ 0 6 rfl rfl rfl rfl hl.1 rfl (Nat.le_of_ble_eq_true rfl) dX6_begun_24 (fun H locs G => ?_)
      clear er13
      obtain ⟨rfl, rfl⟩ := pair_at h
      exact reI X G dX6_begun_27
end WALK_cls2
