section WALK_T
variable {p : Program} {l : Launch} {e : Env} {s : State} {m : MethodId} {args : Array Value} {below : List Frame} {meth : Method} {c : Code} {H : Heap} {locs : List Loc} {Q : State → Prop} {D : va_G} {cI cZ cQ : ClassId} {adK adV ad : Nat → Nat} {A : Nat → Prop} {ls : Array Slot}

noncomputable def f_X6_within (a0 : Int32) (a1 : Int32) (a2 : Int32) (u0 : XS) : Option (Int32 × XS) :=
  (if a0 < a1 then
    some ((0 : Int32), u0)
  else
    (if a2 < a0 then
      some ((0 : Int32), u0)
    else
      some ((1 : Int32), u0)))
set_option maxRecDepth 100000 in
set_option maxHeartbeats 4000000 in
theorem c_X6_within {a0 : Int32} {a1 : Int32} {a2 : Int32} {u0 : XS} {r : Int32} {u' : XS} (h : f_X6_within a0 a1 a2 u0 = some (r, u')) : MI l D cI cZ cQ adK adV A yX6_within cX6_within 3 (some .boolean) { frames := 0, cells := 0, slots := 0, locals := 0 } [.int a0, .int a1, .int a2] (wX cI cZ cQ ad) u0 r u' := by
  unfold f_X6_within at h
  refine entI (by decide) (Nat.le_of_ble_eq_true rfl) (fun p e s m below meth c ls X K G hl => ?_)
  have hl : lv_has ls 3 [(0, .int a0), (1, .int a1), (2, .int a2)] := hl
  obtain ⟨hx, hb, -⟩ := id X
  generalize hH : s.heap = H at G
  subst hH
  refine lv_iload_n hx hb dX6_within_0 rfl (lv_at hl 0 rfl) ?_
  refine lv_iload_n hx hb dX6_within_1 rfl (lv_at hl 1 rfl) ?_
  refine lv_icmp_lt (tgt := 14) hx hb dX6_within_2 (by decide) (fun c1 => ?_) (fun c1 => ?_)
  · have h := it_at c1 h
    refine lv_iconst (v := 0) hx hb dX6_within_14 (by decide) ?_
    cases h
    exact reZ X G (Or.inl rfl) dX6_within_15
  · have h := if_at c1 h
    refine lv_iload_n hx hb dX6_within_5 rfl (lv_at hl 0 rfl) ?_
    refine lv_iload_n hx hb dX6_within_6 rfl (lv_at hl 2 rfl) ?_
    refine lv_icmp_gt (tgt := 14) hx hb dX6_within_7 (by decide) (fun c2 => ?_) (fun c2 => ?_)
    · have h := it_at c2 h
      refine lv_iconst (v := 0) hx hb dX6_within_14 (by decide) ?_
      cases h
      exact reZ X G (Or.inl rfl) dX6_within_15
    · have h := if_at c2 h
      refine lv_iconst (v := 1) hx hb dX6_within_10 (by decide) ?_
      refine lv_goto (tgt := 15) hx hb dX6_within_11 (by decide) ?_
      cases h
      exact reZ X G (Or.inr rfl) dX6_within_15
noncomputable def f_X5_hasTool (a1 : Int32) (u0 : XS) : Option (Int32 × XS) :=
  bnd (f_X6_within a1 (0 : Int32) ((tTools (xT u0)) - (1 : Int32)) u0) fun r1 u2 =>
  if ¬ (r1 = 0 ∨ r1 = 1) then none else
  some (r1, u2)
set_option maxRecDepth 100000 in
set_option maxHeartbeats 4000000 in
theorem c_X5_hasTool {a1 : Int32} {u0 : XS} {r : Int32} {u' : XS} (h : f_X5_hasTool a1 u0 = some (r, u')) : MI l D cI cZ cQ adK adV A yX5_hasTool cX5_hasTool 2 (some .boolean) { frames := 1, cells := 0, slots := 0, locals := 22 } [.ref (ad 1), .int a1] (wX cI cZ cQ ad) u0 r u' := by
  unfold f_X5_hasTool at h
  refine entI (by decide) (Nat.le_of_ble_eq_true rfl) (fun p e s m below meth c ls X K G hl => ?_)
  have hl : lv_has ls 2 [(0, .ref (ad 1)), (1, .int a1)] := hl
  obtain ⟨hx, hb, -⟩ := id X
  generalize hH : s.heap = H at G
  subst hH
  refine lv_iload_n hx hb dX5_hasTool_0 rfl (lv_at hl 1 rfl) ?_
  refine lv_iconst (v := 0) hx hb dX5_hasTool_1 (by decide) ?_
  refine lv_aload_n hx hb dX5_hasTool_2 rfl (lv_at hl 0 rfl) ?_
  refine gX_1_3 X K G q_112 dX5_hasTool_3 ?_
  refine lv_iconst (v := 1) hx hb dX5_hasTool_6 (by decide) ?_
  refine lv_isub hx hb dX5_hasTool_7 ?_
  obtain ⟨r1, u2, er1, h⟩ := bnd_at h
  refine cnI (rest := []) X K G (c_X6_within er1) K.2.1.2.1 my_X6_within ⟨rfl, rfl⟩ ⟨Nat.le_of_ble_eq_true rfl, Nat.le_of_ble_eq_true rfl⟩ ⟨Nat.zero_le _, Nat.zero_le _⟩ rfl hl.1 rfl (Nat.le_of_ble_eq_true rfl) dX5_hasTool_8 (fun H locs G => ?_)
  clear er1
  obtain ⟨g3, h⟩ := ck_at h
  cases h
  exact reZ X G (Decidable.not_not.mp g3) dX5_hasTool_11
noncomputable def f_X5_hasThing (a1 : Int32) (u0 : XS) : Option (Int32 × XS) :=
  bnd (f_X6_within a1 (0 : Int32) ((tThings (xT u0)) - (1 : Int32)) u0) fun r1 u2 =>
  if ¬ (r1 = 0 ∨ r1 = 1) then none else
  some (r1, u2)
set_option maxRecDepth 100000 in
set_option maxHeartbeats 4000000 in
theorem c_X5_hasThing {a1 : Int32} {u0 : XS} {r : Int32} {u' : XS} (h : f_X5_hasThing a1 u0 = some (r, u')) : MI l D cI cZ cQ adK adV A yX5_hasThing cX5_hasThing 2 (some .boolean) { frames := 1, cells := 0, slots := 0, locals := 22 } [.ref (ad 1), .int a1] (wX cI cZ cQ ad) u0 r u' := by
  unfold f_X5_hasThing at h
  refine entI (by decide) (Nat.le_of_ble_eq_true rfl) (fun p e s m below meth c ls X K G hl => ?_)
  have hl : lv_has ls 2 [(0, .ref (ad 1)), (1, .int a1)] := hl
  obtain ⟨hx, hb, -⟩ := id X
  generalize hH : s.heap = H at G
  subst hH
  refine lv_iload_n hx hb dX5_hasThing_0 rfl (lv_at hl 1 rfl) ?_
  refine lv_iconst (v := 0) hx hb dX5_hasThing_1 (by decide) ?_
  refine lv_aload_n hx hb dX5_hasThing_2 rfl (lv_at hl 0 rfl) ?_
  refine gX_1_4 X K G q_115 dX5_hasThing_3 ?_
  refine lv_iconst (v := 1) hx hb dX5_hasThing_6 (by decide) ?_
  refine lv_isub hx hb dX5_hasThing_7 ?_
  obtain ⟨r1, u2, er1, h⟩ := bnd_at h
  refine cnI (rest := []) X K G (c_X6_within er1) K.2.1.2.1 my_X6_within ⟨rfl, rfl⟩ ⟨Nat.le_of_ble_eq_true rfl, Nat.le_of_ble_eq_true rfl⟩ ⟨Nat.zero_le _, Nat.zero_le _⟩ rfl hl.1 rfl (Nat.le_of_ble_eq_true rfl) dX5_hasThing_8 (fun H locs G => ?_)
  clear er1
  obtain ⟨g3, h⟩ := ck_at h
  cases h
  exact reZ X G (Decidable.not_not.mp g3) dX5_hasThing_11
noncomputable def f_X5_hasStep (a1 : Int32) (a2 : Int32) (u0 : XS) : Option (Int32 × XS) :=
  bnd (f_X5_hasThing a1 u0) fun r1 u2 =>
  (if r1 = 0 then
    some ((0 : Int32), u2)
  else
    if a1 < 0 ∨ 8 ≤ a1.toNatClampNeg then none else
    bnd (f_X6_within a2 (0 : Int32) (((tCounts (xT u2)) a1.toNatClampNeg) - (1 : Int32)) u2) fun r5 u6 =>
    (if r5 = 0 then
      some ((0 : Int32), u6)
    else
      some ((1 : Int32), u6)))
set_option maxRecDepth 100000 in
set_option maxHeartbeats 4000000 in
theorem c_X5_hasStep {a1 : Int32} {a2 : Int32} {u0 : XS} {r : Int32} {u' : XS} (h : f_X5_hasStep a1 a2 u0 = some (r, u')) : MI l D cI cZ cQ adK adV A yX5_hasStep cX5_hasStep 3 (some .boolean) { frames := 2, cells := 0, slots := 0, locals := 43 } [.ref (ad 1), .int a1, .int a2] (wX cI cZ cQ ad) u0 r u' := by
  unfold f_X5_hasStep at h
  refine entI (by decide) (Nat.le_of_ble_eq_true rfl) (fun p e s m below meth c ls X K G hl => ?_)
  have hl : lv_has ls 3 [(0, .ref (ad 1)), (1, .int a1), (2, .int a2)] := hl
  obtain ⟨hx, hb, -⟩ := id X
  generalize hH : s.heap = H at G
  subst hH
  refine lv_aload_n hx hb dX5_hasStep_0 rfl (lv_at hl 0 rfl) ?_
  refine lv_iload_n hx hb dX5_hasStep_1 rfl (lv_at hl 1 rfl) ?_
  obtain ⟨r1, u2, er1, h⟩ := bnd_at h
  refine cvI (rest := []) X K G (c_X5_hasThing er1) q_504 my_X5_hasThing ⟨rfl, rfl⟩ ⟨Nat.le_of_ble_eq_true rfl, Nat.le_of_ble_eq_true rfl⟩ ⟨Nat.zero_le _, Nat.zero_le _⟩ 1 5 rfl rfl rfl rfl hl.1 rfl (Nat.le_of_ble_eq_true rfl) dX5_hasStep_2 (fun H locs G => ?_)
  clear er1
  refine lv_if_eq (tgt := 28) hx hb dX5_hasStep_5 (by decide) (fun c3 => ?_) (fun c3 => ?_)
  · have h := it_at c3 h
    refine lv_iconst (v := 0) hx hb dX5_hasStep_28 (by decide) ?_
    cases h
    exact reZ X G (Or.inl rfl) dX5_hasStep_29
  · have h := if_at c3 h
    refine lv_iload_n hx hb dX5_hasStep_8 rfl (lv_at hl 2 rfl) ?_
    refine lv_iconst (v := 0) hx hb dX5_hasStep_9 (by decide) ?_
    refine lv_aload_n hx hb dX5_hasStep_10 rfl (lv_at hl 0 rfl) ?_
    refine gX_1_8 X K G q_128 dX5_hasStep_11 ?_
    refine lv_iload_n hx hb dX5_hasStep_14 rfl (lv_at hl 1 rfl) ?_
    obtain ⟨g4, h⟩ := ck_at h
    refine lX_4 X K G g4 dX5_hasStep_15 ?_
    refine lv_iconst (v := 1) hx hb dX5_hasStep_16 (by decide) ?_
    refine lv_isub hx hb dX5_hasStep_17 ?_
    obtain ⟨r5, u6, er5, h⟩ := bnd_at h
    refine cnI (rest := []) X K G (c_X6_within er5) K.2.1.2.1 my_X6_within ⟨rfl, rfl⟩ ⟨Nat.le_of_ble_eq_true rfl, Nat.le_of_ble_eq_true rfl⟩ ⟨Nat.zero_le _, Nat.zero_le _⟩ rfl hl.1 rfl (Nat.le_of_ble_eq_true rfl) dX5_hasStep_18 (fun H locs G => ?_)
    clear er5
    refine lv_if_eq (tgt := 28) hx hb dX5_hasStep_21 (by decide) (fun c7 => ?_) (fun c7 => ?_)
    · have h := it_at c7 h
      refine lv_iconst (v := 0) hx hb dX5_hasStep_28 (by decide) ?_
      cases h
      exact reZ X G (Or.inl rfl) dX5_hasStep_29
    · have h := if_at c7 h
      refine lv_iconst (v := 1) hx hb dX5_hasStep_24 (by decide) ?_
      refine lv_goto (tgt := 29) hx hb dX5_hasStep_25 (by decide) ?_
      cases h
      exact reZ X G (Or.inr rfl) dX5_hasStep_29
noncomputable def f_X5_stepNumber (a1 : Int32) (a2 : Int32) (a3 : Int32) (u0 : XS) : Option (Int32 × XS) :=
  nmv ((((a1 * (8 : Int32)) + a2) * (3 : Int32)) + a3) fun x1 =>
  if x1 < 0 ∨ 192 ≤ x1.toNatClampNeg then none else
  some ((tNums (xT u0)) x1.toNatClampNeg, u0)
set_option maxRecDepth 100000 in
set_option maxHeartbeats 4000000 in
theorem c_X5_stepNumber {a1 : Int32} {a2 : Int32} {a3 : Int32} {u0 : XS} {r : Int32} {u' : XS} (h : f_X5_stepNumber a1 a2 a3 u0 = some (r, u')) : MI l D cI cZ cQ adK adV A yX5_stepNumber cX5_stepNumber 4 (some .int) { frames := 0, cells := 0, slots := 0, locals := 0 } [.ref (ad 1), .int a1, .int a2, .int a3] (wX cI cZ cQ ad) u0 r u' := by
  unfold f_X5_stepNumber at h
  refine entI (by decide) (Nat.le_of_ble_eq_true rfl) (fun p e s m below meth c ls X K G hl => ?_)
  have hl : lv_has ls 4 [(0, .ref (ad 1)), (1, .int a1), (2, .int a2), (3, .int a3)] := hl
  obtain ⟨hx, hb, -⟩ := id X
  generalize hH : s.heap = H at G
  subst hH
  refine lv_aload_n hx hb dX5_stepNumber_0 rfl (lv_at hl 0 rfl) ?_
  refine gX_1_9 X K G q_132 dX5_stepNumber_1 ?_
  refine lv_iload_n hx hb dX5_stepNumber_4 rfl (lv_at hl 1 rfl) ?_
  refine lv_bipush (v := 8) hx hb dX5_stepNumber_5 (by decide) ?_
  refine lv_imul hx hb dX5_stepNumber_7 ?_
  refine lv_iload_n hx hb dX5_stepNumber_8 rfl (lv_at hl 2 rfl) ?_
  refine lv_iadd hx hb dX5_stepNumber_9 ?_
  refine lv_iconst (v := 3) hx hb dX5_stepNumber_10 (by decide) ?_
  refine lv_imul hx hb dX5_stepNumber_11 ?_
  refine lv_iload_n hx hb dX5_stepNumber_12 rfl (lv_at hl 3 rfl) ?_
  refine lv_iadd hx hb dX5_stepNumber_13 ?_
  refine lv_topi (fun x1 ex1 => ?_)
  have h := nm_at ex1 h
  obtain ⟨g2, h⟩ := ck_at h
  refine lX_5 X K G g2 dX5_stepNumber_14 ?_
  cases h
  exact reI X G dX5_stepNumber_15
noncomputable def f_X0_firstDay_L44_44 (v2 : Int32) (v4 : Int32) (v5 : Int32) (v6 : Int32) (v7 : Int32) (u0 : XS) : Option ((Int32 × Int32 × Int32 × Int32 × Int32 × XS) ⊕ ((Int32 × XS) ⊕ (XS))) :=
  (if v5 ≤ v7 then
    some (.inr (.inr u0))
  else
    (if ((v4 >>> (v6 &&& 31)) &&& (1 : Int32)) = 0 then
      (if (v6 + (1 : Int32)) = v5 then
        nmv (v7 + (1 : Int32)) fun x6 =>
        some (.inl (v2, v4, v5, (0 : Int32), x6, u0))
      else
        nmv (v6 + (1 : Int32)) fun x4 =>
        nmv (v7 + (1 : Int32)) fun x5 =>
        some (.inl (v2, v4, v5, x4, x5, u0)))
    else
      some (.inr (.inl (v2 + v7, u0)))))
set_option maxRecDepth 100000 in
set_option maxHeartbeats 4000000 in
theorem b_X0_firstDay_L44_44 (X : cx p s m args meth c cX0_firstDay 8 RX0 (some .int)) (K : kx D cI cZ cQ adK adV A s s.heap) {v2 : Int32} {v4 : Int32} {v5 : Int32} {v6 : Int32} {v7 : Int32} {u0 : XS} (G : wg D A s.heap H locs (wX cI cZ cQ ad u0)) (hl : lv_has ls 8 [(2, .int v2), (4, .int v4), (5, .int v5), (6, .int v6), (7, .int v7)]) {q : ((Int32 × Int32 × Int32 × Int32 × Int32 × XS) ⊕ ((Int32 × XS) ⊕ (XS)))} (h : f_X0_firstDay_L44_44 v2 v4 v5 v6 v7 u0 = some q) (hB : ∀ (v2 : Int32) (v4 : Int32) (v5 : Int32) (v6 : Int32) (v7 : Int32) (u : XS), q = .inl (v2, v4, v5, v6, v7, u) → ∀ (H : Heap) (locs : List Loc) (ls : Array Slot), wg D A s.heap H locs (wX cI cZ cQ ad u) → lv_has ls 8 [(2, .int v2), (4, .int v4), (5, .int v5), (6, .int v6), (7, .int v7)] → W p l e { frames := 0, cells := 0, slots := 0, locals := 0 } s m args below meth c H locs 0 0 Q (F0 m 44 ls [])) (hX : ∀ (u : XS), q = .inr (.inr u) → ∀ (H : Heap) (locs : List Loc) (ls : Array Slot), wg D A s.heap H locs (wX cI cZ cQ ad u) → lv_has ls 8 [] → W p l e { frames := 0, cells := 0, slots := 0, locals := 0 } s m args below meth c H locs 0 0 Q (F0 m 91 ls [])) (hR : ∀ (r : Int32) (u : XS), q = .inr (.inl (r, u)) → Q = (qI D A (wX cI cZ cQ ad) below args s r u)) : W p l e { frames := 0, cells := 0, slots := 0, locals := 0 } s m args below meth c H locs 0 0 Q (F0 m 44 ls []) := by
  unfold f_X0_firstDay_L44_44 at h
  obtain ⟨hx, hb, -⟩ := id X
  refine lv_iload hx hb dX0_firstDay_44 (lv_at hl 4 rfl) ?_
  refine lv_iload hx hb dX0_firstDay_46 (lv_at hl 2 rfl) ?_
  refine lv_icmp_ge (tgt := 91) hx hb dX0_firstDay_48 (by decide) (fun c1 => ?_) (fun c1 => ?_)
  · have h := it_at c1 h
    exact hX _ (Option.some.inj h).symm _ _ _ G (lv_sub hl [] rfl)
  · have h := if_at c1 h
    refine lv_iload hx hb dX0_firstDay_51 (lv_at hl 1 rfl) ?_
    refine lv_iload hx hb dX0_firstDay_53 (lv_at hl 3 rfl) ?_
    refine lv_ishr hx hb dX0_firstDay_55 ?_
    refine lv_iconst (v := 1) hx hb dX0_firstDay_56 (by decide) ?_
    refine lv_iand hx hb dX0_firstDay_57 ?_
    refine lv_if_eq (tgt := 66) hx hb dX0_firstDay_58 (by decide) (fun c2 => ?_) (fun c2 => ?_)
    · have h := it_at c2 h
      refine lv_iload hx hb dX0_firstDay_66 (lv_at hl 3 rfl) ?_
      refine lv_iconst (v := 1) hx hb dX0_firstDay_68 (by decide) ?_
      refine lv_iadd hx hb dX0_firstDay_69 ?_
      refine lv_iload hx hb dX0_firstDay_70 (lv_at hl 2 rfl) ?_
      refine lv_icmp_ne (tgt := 79) hx hb dX0_firstDay_72 (by decide) (fun c3 => ?_) (fun c3 => ?_)
      · have h := if_at c3 h
        refine lv_iload hx hb dX0_firstDay_79 (lv_at hl 3 rfl) ?_
        refine lv_iconst (v := 1) hx hb dX0_firstDay_81 (by decide) ?_
        refine lv_iadd hx hb dX0_firstDay_82 ?_
        refine lv_topi (fun x4 ex4 => ?_)
        have h := nm_at ex4 h
        refine lv_istore (lv' := [(6, .int x4), (2, .int v2), (4, .int v4), (5, .int v5), (7, .int v7)]) hx hb dX0_firstDay_83 hl (by decide) rfl (fun ls hl => ?_)
        obtain ⟨x5, ex5⟩ : ∃ z : Int32, z = v7 + (1 : Int32) := ⟨_, rfl⟩
        have h := nm_at ex5 h
        refine lv_iinc (v := x5) (lv' := [(7, .int x5), (6, .int x4), (2, .int v2), (4, .int v4), (5, .int v5)]) hx hb dX0_firstDay_85 hl (k := 4) rfl (by rw [ex5]; rfl) (by decide) rfl (fun ls hl => ?_)
        refine lv_goto (tgt := 44) hx hb dX0_firstDay_88 (by decide) ?_
        exact hB _ _ _ _ _ _ (Option.some.inj h).symm _ _ _ G (lv_sub hl [2, 3, 4, 1, 0] rfl)
      · have h := it_at c3 h
        refine lv_iconst (v := 0) hx hb dX0_firstDay_75 (by decide) ?_
        refine lv_goto (tgt := 83) hx hb dX0_firstDay_76 (by decide) ?_
        refine lv_istore (lv' := [(6, .int (0 : Int32)), (2, .int v2), (4, .int v4), (5, .int v5), (7, .int v7)]) hx hb dX0_firstDay_83 hl (by decide) rfl (fun ls hl => ?_)
        obtain ⟨x6, ex6⟩ : ∃ z : Int32, z = v7 + (1 : Int32) := ⟨_, rfl⟩
        have h := nm_at ex6 h
        refine lv_iinc (v := x6) (lv' := [(7, .int x6), (6, .int (0 : Int32)), (2, .int v2), (4, .int v4), (5, .int v5)]) hx hb dX0_firstDay_85 hl (k := 4) rfl (by rw [ex6]; rfl) (by decide) rfl (fun ls hl => ?_)
        refine lv_goto (tgt := 44) hx hb dX0_firstDay_88 (by decide) ?_
        exact hB _ _ _ _ _ _ (Option.some.inj h).symm _ _ _ G (lv_sub hl [2, 3, 4, 1, 0] rfl)
    · have h := if_at c2 h
      refine lv_iload_n hx hb dX0_firstDay_61 rfl (lv_at hl 0 rfl) ?_
      refine lv_iload hx hb dX0_firstDay_62 (lv_at hl 4 rfl) ?_
      refine lv_iadd hx hb dX0_firstDay_64 ?_
      rw [hR _ _ (Option.some.inj h).symm]
      exact reI X G dX0_firstDay_65
noncomputable def f_X0_firstDay_L44_44s (q : Int32 × Int32 × Int32 × Int32 × Int32 × XS) : Option ((Int32 × Int32 × Int32 × Int32 × Int32 × XS) ⊕ ((Int32 × XS) ⊕ (XS))) := f_X0_firstDay_L44_44 q.1 q.2.1 q.2.2.1 q.2.2.2.1 q.2.2.2.2.1 q.2.2.2.2.2
set_option maxRecDepth 100000 in
set_option maxHeartbeats 4000000 in
theorem w_X0_firstDay_L44_44 (X : cx p s m args meth c cX0_firstDay 8 RX0 (some .int)) (K : kx D cI cZ cQ adK adV A s s.heap) {e0 : (Int32 × XS) ⊕ (XS)} : ∀ (n : Nat) (v2 : Int32) (v4 : Int32) (v5 : Int32) (v6 : Int32) (v7 : Int32) (u : XS) {H : Heap} {locs : List Loc} {ls : Array Slot}, wh f_X0_firstDay_L44_44s n (v2, v4, v5, v6, v7, u) = some e0 → wg D A s.heap H locs (wX cI cZ cQ ad u) → lv_has ls 8 [(2, .int v2), (4, .int v4), (5, .int v5), (6, .int v6), (7, .int v7)] → (∀ (u : XS), e0 = .inr u → ∀ (H : Heap) (locs : List Loc) (ls : Array Slot), wg D A s.heap H locs (wX cI cZ cQ ad u) → lv_has ls 8 [] → W p l e { frames := 0, cells := 0, slots := 0, locals := 0 } s m args below meth c H locs 0 0 Q (F0 m 91 ls [])) → (∀ (r : Int32) (u : XS), e0 = .inl (r, u) → Q = (qI D A (wX cI cZ cQ ad) below args s r u)) → W p l e { frames := 0, cells := 0, slots := 0, locals := 0 } s m args below meth c H locs 0 0 Q (F0 m 44 ls []) := by
  intro n
  induction n with
  | zero => intro v2 v4 v5 v6 v7 u H locs ls h; cases h
  | succ n ih =>
    intro v2 v4 v5 v6 v7 u H locs ls h G hl hX hR
    obtain ⟨q, h1, h2, h3⟩ := wh_at h
    exact b_X0_firstDay_L44_44 X K G hl (show f_X0_firstDay_L44_44 v2 v4 v5 v6 v7 u = some q from h1) (fun b0 b1 b2 b3 b4 b5 ee H locs ls G hl => ih b0 b1 b2 b3 b4 b5 (h2 _ ee) G hl hX hR) (fun z0 ee => hX z0 (h3 _ ee).symm) (fun r u ee => hR r u (h3 _ ee).symm)
noncomputable def f_X0_firstDay (a1 : Int32) (a2 : Int32) (a3 : Int32) (u0 : XS) : Option (Int32 × XS) :=
  if a1 < 0 ∨ 8 ≤ a1.toNatClampNeg then none else
  nmv ((tDays (xT u0)) a1.toNatClampNeg) fun x2 =>
  nmv (tRound (xT u0)) fun x3 =>
  (if x2 = 0 then
    some ((-1 : Int32), u0)
  else
    (if (1 : Int32) ≤ x3 then
      nmv (a2 + a3) fun x6 =>
      if x3 = 0 then none else
      nmv (x6 - x6 / x3 * x3) fun x7 =>
      bne (wl f_X0_firstDay_L44_44s (a2, x2, x3, x7, (0 : Int32), u0)) (fun a => some a) fun b =>
        nmv b fun u10 =>
        some ((-1 : Int32), u10)
    else
      some ((-1 : Int32), u0)))
set_option maxRecDepth 100000 in
set_option maxHeartbeats 4000000 in
theorem c_X0_firstDay {a1 : Int32} {a2 : Int32} {a3 : Int32} {u0 : XS} {r : Int32} {u' : XS} (h : f_X0_firstDay a1 a2 a3 u0 = some (r, u')) : MI l D cI cZ cQ adK adV A yX0_firstDay cX0_firstDay 8 (some .int) { frames := 0, cells := 0, slots := 0, locals := 0 } [.ref (ad 24), .int a1, .int a2, .int a3] (wX cI cZ cQ ad) u0 r u' := by
  unfold f_X0_firstDay at h
  refine entI (by decide) (Nat.le_of_ble_eq_true rfl) (fun p e s m below meth c ls X K G hl => ?_)
  have hl : lv_has ls 8 [(0, .ref (ad 24)), (1, .int a1), (2, .int a2), (3, .int a3)] := hl
  obtain ⟨hx, hb, -⟩ := id X
  generalize hH : s.heap = H at G
  subst hH
  refine lv_aload_n hx hb dX0_firstDay_0 rfl (lv_at hl 0 rfl) ?_
  refine gX_24_0 X K G q_184 dX0_firstDay_1 ?_
  refine gX_1_6 X K G q_123 dX0_firstDay_4 ?_
  refine lv_iload_n hx hb dX0_firstDay_7 rfl (lv_at hl 1 rfl) ?_
  obtain ⟨g1, h⟩ := ck_at h
  refine lX_2 X K G g1 dX0_firstDay_8 ?_
  refine lv_topi (fun x2 ex2 => ?_)
  have h := nm_at ex2 h
  refine lv_istore (lv' := [(4, .int x2), (0, .ref (ad 24)), (1, .int a1), (2, .int a2), (3, .int a3)]) hx hb dX0_firstDay_9 hl (by decide) rfl (fun ls hl => ?_)
  refine lv_aload_n hx hb dX0_firstDay_11 rfl (lv_at hl 1 rfl) ?_
  refine gX_24_0 X K G q_184 dX0_firstDay_12 ?_
  refine gX_1_0 X K G q_102 dX0_firstDay_15 ?_
  refine lv_topi (fun x3 ex3 => ?_)
  have h := nm_at ex3 h
  refine lv_istore (lv' := [(5, .int x3), (4, .int x2), (0, .ref (ad 24)), (1, .int a1), (2, .int a2), (3, .int a3)]) hx hb dX0_firstDay_18 hl (by decide) rfl (fun ls hl => ?_)
  refine lv_iload hx hb dX0_firstDay_20 (lv_at hl 1 rfl) ?_
  refine lv_if_eq (tgt := 31) hx hb dX0_firstDay_22 (by decide) (fun c4 => ?_) (fun c4 => ?_)
  · have h := it_at c4 h
    refine lv_iconst (v := -1) hx hb dX0_firstDay_31 (by decide) ?_
    cases h
    exact reI X G dX0_firstDay_32
  · have h := if_at c4 h
    refine lv_iload hx hb dX0_firstDay_25 (lv_at hl 0 rfl) ?_
    refine lv_iconst (v := 1) hx hb dX0_firstDay_27 (by decide) ?_
    refine lv_icmp_ge (tgt := 33) hx hb dX0_firstDay_28 (by decide) (fun c5 => ?_) (fun c5 => ?_)
    · have h := it_at c5 h
      refine lv_iload_n hx hb dX0_firstDay_33 rfl (lv_at hl 4 rfl) ?_
      refine lv_iload_n hx hb dX0_firstDay_34 rfl (lv_at hl 5 rfl) ?_
      refine lv_iadd hx hb dX0_firstDay_35 ?_
      refine lv_iload hx hb dX0_firstDay_36 (lv_at hl 0 rfl) ?_
      refine nm2 (fun x6 ex6 => ?_)
      have h := nm_at ex6 h
      obtain ⟨g11, h⟩ := ck_at h
      refine lv_irem hx hb dX0_firstDay_38 g11 ?_
      refine lv_topi (fun x7 ex7 => ?_)
      have h := nm_at ex7 h
      refine lv_istore (lv' := [(6, .int x7), (5, .int x3), (4, .int x2), (0, .ref (ad 24)), (1, .int a1), (2, .int a2), (3, .int a3)]) hx hb dX0_firstDay_39 hl (by decide) rfl (fun ls hl => ?_)
      refine lv_iconst (v := 0) hx hb dX0_firstDay_41 (by decide) ?_
      refine lv_istore (lv' := [(7, .int (0 : Int32)), (6, .int x7), (5, .int x3), (4, .int x2), (0, .ref (ad 24)), (1, .int a1), (2, .int a2), (3, .int a3)]) hx hb dX0_firstDay_42 hl (by decide) rfl (fun ls hl => ?_)
      obtain ⟨q9, hq9, ha, hb1⟩ := bne_at h
      obtain ⟨n8, hn8⟩ := wl_iff.mp hq9
      refine w_X0_firstDay_L44_44 X K n8 _ _ _ _ _ _ hn8 G (lv_sub hl [6, 3, 2, 1, 0] rfl) (fun  u10 ee H locs ls G hl => ?_) (fun r u1 ee => by have h := ha _ ee; cases h; rfl)
      have h := hb1 _ ee
      clear ee ha hb1 hq9 hn8
      have h := nm_at (x := u10) rfl h
      refine lv_iconst (v := -1) hx hb dX0_firstDay_91 (by decide) ?_
      cases h
      exact reI X G dX0_firstDay_92
    · have h := if_at c5 h
      refine lv_iconst (v := -1) hx hb dX0_firstDay_31 (by decide) ?_
      cases h
      exact reI X G dX0_firstDay_32
end WALK_T
