section WALK_cls0
variable {p : Program} {l : Launch} {e : Env} {s : State} {m : MethodId} {args : Array Value} {below : List Frame} {meth : Method} {c : Code} {H : Heap} {locs : List Loc} {Q : State → Prop} {D : va_G} {cI cZ cQ : ClassId} {adK adV ad : Nat → Nat} {A : Nat → Prop} {ls : Array Slot}
noncomputable def f_X6_within (a0 : Int32) (a1 : Int32) (a2 : Int32) (u0 : XS) : Option (Int32 × XS) :=
  (if a0 < a1 then
    some ((0 : Int32), u0)
  else
    (if a2 < a0 then
      some ((0 : Int32), u0)
    else
      some ((1 : Int32), u0)))
set_option maxRecDepth 100000 in
set_option maxHeartbeats 4000000 in
theorem c_X6_within {a0 : Int32} {a1 : Int32} {a2 : Int32} {u0 : XS} {r : Int32} {u' : XS} (h : f_X6_within a0 a1 a2 u0 = some (r, u')) : MI l D cI cZ cQ adK adV A yX6_within cX6_within 3 (some .boolean) { frames := 0, cells := 0, slots := 0, locals := 0 } [.int a0, .int a1, .int a2] (wX cI cZ cQ ad) u0 r u' := by
  unfold f_X6_within at h
  refine entI (by decide) (Nat.le_of_ble_eq_true rfl) (fun p e s m below meth c ls X K G hl => ?_)
  have hl : lv_has ls 3 [(0, .int a0), (1, .int a1), (2, .int a2)] := hl
  obtain ⟨hx, hb, -⟩ := id X
  generalize hH : s.heap = H at G
  subst hH
  refine lv_iload_n hx hb dX6_within_0 rfl (lv_at hl 0 rfl) ?_
  refine lv_iload_n hx hb dX6_within_1 rfl (lv_at hl 1 rfl) ?_
  refine lv_icmp_lt (tgt := 14) hx hb dX6_within_2 (by decide) (fun c1 => ?_) (fun c1 => ?_)
  · have h := it_at c1 h
    refine lv_iconst (v := 0) hx hb dX6_within_14 (by decide) ?_
    obtain ⟨rfl, rfl⟩ := pair_at h
    exact reZ X G (Or.inl rfl) dX6_within_15
  · have h := if_at c1 h
    refine lv_iload_n hx hb dX6_within_5 rfl (lv_at hl 0 rfl) ?_
    refine lv_iload_n hx hb dX6_within_6 rfl (lv_at hl 2 rfl) ?_
    refine lv_icmp_gt (tgt := 14) hx hb dX6_within_7 (by decide) (fun c2 => ?_) (fun c2 => ?_)
    · have h := it_at c2 h
      refine lv_iconst (v := 0) hx hb dX6_within_14 (by decide) ?_
      obtain ⟨rfl, rfl⟩ := pair_at h
      exact reZ X G (Or.inl rfl) dX6_within_15
    · have h := if_at c2 h
      refine lv_iconst (v := 1) hx hb dX6_within_10 (by decide) ?_
      refine lv_goto (tgt := 15) hx hb dX6_within_11 (by decide) ?_
      obtain ⟨rfl, rfl⟩ := pair_at h
      exact reZ X G (Or.inr rfl) dX6_within_15
noncomputable def f_X3_append_L4_4 (v1 : Int32) (v3 : Int32) (u0 : XS) : Option ((Int32 × Int32 × XS) ⊕ ((Int32 × XS) ⊕ (XS))) :=
  (if v3 < 0 then
    some (.inr (.inr u0))
  else
    (if (120 : Int32) ≤ ((xP u0).2) then
      some (.inr (.inr u0))
    else
      nmv (((v1.toUInt32 >>> (((8 : Int32) * v3).toUInt32 &&& Int32.toUInt32 31)).toInt32) &&& (255 : Int32)) fun x3 =>
      nmv ((xP u0).2) fun x4 =>
      if x4 < 0 ∨ 120 ≤ x4.toNatClampNeg then none else
      nmv (sP u0 ((upd ((xP u0).1) x4.toNatClampNeg x3), (xP u0).2)) fun u6 =>
      nmv (((xP u6).2) + (1 : Int32)) fun x7 =>
      nmv (sP u6 ((xP u6).1, x7)) fun u8 =>
      nmv (v3 + (-1 : Int32)) fun x9 =>
      some (.inl (v1, x9, u8))))
set_option maxRecDepth 100000 in
set_option maxHeartbeats 4000000 in
theorem b_X3_append_L4_4 (X : cx p s m args meth c cX3_append 4 RX3 none) (K : kx D cI cZ cQ adK adV A s s.heap) {v1 : Int32} {v3 : Int32} {u0 : XS} (G : wg D A s.heap H locs (wX cI cZ cQ ad u0)) (hl : lv_has ls 4 [(0, .ref (ad 22)), (1, .int v1), (3, .int v3)]) {q : ((Int32 × Int32 × XS) ⊕ ((Int32 × XS) ⊕ (XS)))} (h : f_X3_append_L4_4 v1 v3 u0 = some q) (hB : ∀ (v1 : Int32) (v3 : Int32) (u : XS), q = .inl (v1, v3, u) → ∀ (H : Heap) (locs : List Loc) (ls : Array Slot), wg D A s.heap H locs (wX cI cZ cQ ad u) → lv_has ls 4 [(0, .ref (ad 22)), (1, .int v1), (3, .int v3)] → W p l e { frames := 0, cells := 0, slots := 0, locals := 0 } s m args below meth c H locs 0 0 Q (F0 m 4 ls [])) (hX : ∀ (u : XS), q = .inr (.inr u) → ∀ (H : Heap) (locs : List Loc) (ls : Array Slot), wg D A s.heap H locs (wX cI cZ cQ ad u) → lv_has ls 4 [] → W p l e { frames := 0, cells := 0, slots := 0, locals := 0 } s m args below meth c H locs 0 0 Q (F0 m 52 ls [])) (hR : ∀ (r : Int32) (u : XS), q = .inr (.inl (r, u)) → Q = (qV D A (wX cI cZ cQ ad) below args s u)) : W p l e { frames := 0, cells := 0, slots := 0, locals := 0 } s m args below meth c H locs 0 0 Q (F0 m 4 ls []) := by
  unfold f_X3_append_L4_4 at h
  obtain ⟨hx, hb, -⟩ := id X
  refine lv_iload_n hx hb dX3_append_4 rfl (lv_at hl 2 rfl) ?_
  refine lv_if_lt (tgt := 52) hx hb dX3_append_5 (by decide) (fun c1 => ?_) (fun c1 => ?_)
  · have h := it_at c1 h
    exact hX _ (Option.some.inj h).symm _ _ _ G (lv_sub hl [] rfl)
  · have h := if_at c1 h
    refine lv_aload_n hx hb dX3_append_8 rfl (lv_at hl 0 rfl) ?_
    refine gX_22_1 X K G q_170 dX3_append_9 ?_
    refine lv_bipush (v := 120) hx hb dX3_append_12 (by decide) ?_
    refine lv_icmp_ge (tgt := 52) hx hb dX3_append_14 (by decide) (fun c2 => ?_) (fun c2 => ?_)
    · have h := it_at c2 h
      exact hX _ (Option.some.inj h).symm _ _ _ G (lv_sub hl [] rfl)
    · have h := if_at c2 h
      refine lv_aload_n hx hb dX3_append_17 rfl (lv_at hl 0 rfl) ?_
      refine gX_22_0 X K G q_168 dX3_append_18 ?_
      refine lv_aload_n hx hb dX3_append_21 rfl (lv_at hl 0 rfl) ?_
      refine gX_22_1 X K G q_170 dX3_append_22 ?_
      refine lv_iload_n hx hb dX3_append_25 rfl (lv_at hl 1 rfl) ?_
      refine lv_bipush (v := 8) hx hb dX3_append_26 (by decide) ?_
      refine lv_iload_n hx hb dX3_append_28 rfl (lv_at hl 2 rfl) ?_
      refine lv_imul hx hb dX3_append_29 ?_
      refine lv_iushr hx hb dX3_append_30 rfl ?_
      refine lv_sipush (v := 255) hx hb dX3_append_31 (by decide) ?_
      refine lv_iand hx hb dX3_append_34 ?_
      refine lv_topi (fun x3 ex3 => ?_)
      have h := nm_at ex3 h
      refine nm2 (fun x4 ex4 => ?_)
      have h := nm_at ex4 h
      obtain ⟨g5, h⟩ := ck_at h
      refine aX_23 X K G g5 dX3_append_35 (fun H locs G => ?_)
      obtain ⟨u6, eu6⟩ : ∃ z : XS, z = sP u0 ((upd ((xP u0).1) x4.toNatClampNeg x3), (xP u0).2) := ⟨_, rfl⟩
      have G : wg D A s.heap H locs (wX cI cZ cQ ad u6) := by rw [eu6]; exact G
      have h := nm_at eu6 h
      clear eu6
      refine lv_aload_n hx hb dX3_append_36 rfl (lv_at hl 0 rfl) ?_
      refine lv_dup hx hb dX3_append_37 rfl ?_
      refine gX_22_1 X K G q_170 dX3_append_38 ?_
      refine lv_iconst (v := 1) hx hb dX3_append_41 (by decide) ?_
      refine lv_iadd hx hb dX3_append_42 ?_
      refine lv_topi (fun x7 ex7 => ?_)
      have h := nm_at ex7 h
      refine pX_22_1 X K G q_170 dX3_append_43 (fun H locs G => ?_)
      obtain ⟨u8, eu8⟩ : ∃ z : XS, z = sP u6 ((xP u6).1, x7) := ⟨_, rfl⟩
      have G : wg D A s.heap H locs (wX cI cZ cQ ad u8) := by rw [eu8]; exact G
      have h := nm_at eu8 h
      clear eu8
      obtain ⟨x9, ex9⟩ : ∃ z : Int32, z = v3 + (-1 : Int32) := ⟨_, rfl⟩
      have h := nm_at ex9 h
      refine lv_iinc (v := x9) (lv' := [(3, .int x9), (0, .ref (ad 22)), (1, .int v1)]) hx hb dX3_append_46 hl (k := 2) rfl (by rw [ex9]; rfl) (by decide) rfl (fun ls hl => ?_)
      refine lv_goto (tgt := 4) hx hb dX3_append_49 (by decide) ?_
      exact hB _ _ _ (Option.some.inj h).symm _ _ _ G (lv_sub hl [1, 2, 0] rfl)
noncomputable def f_X3_append_L4_4s (q : Int32 × Int32 × XS) : Option ((Int32 × Int32 × XS) ⊕ ((Int32 × XS) ⊕ (XS))) := f_X3_append_L4_4 q.1 q.2.1 q.2.2
set_option maxRecDepth 100000 in
set_option maxHeartbeats 4000000 in
theorem w_X3_append_L4_4 (X : cx p s m args meth c cX3_append 4 RX3 none) (K : kx D cI cZ cQ adK adV A s s.heap) {e0 : (Int32 × XS) ⊕ (XS)} : ∀ (n : Nat) (v1 : Int32) (v3 : Int32) (u : XS) {H : Heap} {locs : List Loc} {ls : Array Slot}, wh f_X3_append_L4_4s n (v1, v3, u) = some e0 → wg D A s.heap H locs (wX cI cZ cQ ad u) → lv_has ls 4 [(0, .ref (ad 22)), (1, .int v1), (3, .int v3)] → (∀ (u : XS), e0 = .inr u → ∀ (H : Heap) (locs : List Loc) (ls : Array Slot), wg D A s.heap H locs (wX cI cZ cQ ad u) → lv_has ls 4 [] → W p l e { frames := 0, cells := 0, slots := 0, locals := 0 } s m args below meth c H locs 0 0 Q (F0 m 52 ls [])) → (∀ (r : Int32) (u : XS), e0 = .inl (r, u) → Q = (qV D A (wX cI cZ cQ ad) below args s u)) → W p l e { frames := 0, cells := 0, slots := 0, locals := 0 } s m args below meth c H locs 0 0 Q (F0 m 4 ls []) := by
  intro n
  induction n with
  | zero => intro v1 v3 u H locs ls h; cases h
  | succ n ih =>
    intro v1 v3 u H locs ls h G hl hX hR
    obtain ⟨q, h1, h2, h3⟩ := wh_at h
    exact b_X3_append_L4_4 X K G hl (show f_X3_append_L4_4 v1 v3 u = some q from h1) (fun b0 b1 b2 ee H locs ls G hl => ih b0 b1 b2 (h2 _ ee) G hl hX hR) (fun z0 ee => hX z0 (h3 _ ee).symm) (fun r u ee => hR r u (h3 _ ee).symm)
noncomputable def f_X3_append (a1 : Int32) (a2 : Int32) (u0 : XS) : Option (Int32 × XS) :=
  nmv (a2 - (1 : Int32)) fun x1 =>
  bne (wl f_X3_append_L4_4s (a1, x1, u0)) (fun a => some a) fun b =>
    nmv b fun u4 =>
    some ((0 : Int32), u4)
set_option maxRecDepth 100000 in
set_option maxHeartbeats 4000000 in
theorem c_X3_append {a1 : Int32} {a2 : Int32} {u0 : XS} {r : Int32} {u' : XS} (h : f_X3_append a1 a2 u0 = some (r, u')) : MV l D cI cZ cQ adK adV A yX3_append cX3_append 4 { frames := 0, cells := 0, slots := 0, locals := 0 } [.ref (ad 22), .int a1, .int a2] (wX cI cZ cQ ad) u0 u' := by
  unfold f_X3_append at h
  refine entV (by decide) (Nat.le_of_ble_eq_true rfl) (fun p e s m below meth c ls X K G hl => ?_)
  have hl : lv_has ls 4 [(0, .ref (ad 22)), (1, .int a1), (2, .int a2)] := hl
  obtain ⟨hx, hb, -⟩ := id X
  generalize hH : s.heap = H at G
  subst hH
  refine lv_iload_n hx hb dX3_append_0 rfl (lv_at hl 2 rfl) ?_
  refine lv_iconst (v := 1) hx hb dX3_append_1 (by decide) ?_
  refine lv_isub hx hb dX3_append_2 ?_
  refine lv_topi (fun x1 ex1 => ?_)
  have h := nm_at ex1 h
  refine lv_istore_n (lv' := [(3, .int x1), (0, .ref (ad 22)), (1, .int a1), (2, .int a2)]) hx hb dX3_append_3 rfl hl (by decide) rfl (fun ls hl => ?_)
  obtain ⟨q3, hq3, ha, hb1⟩ := bne_at h
  obtain ⟨n2, hn2⟩ := wl_iff.mp hq3
  refine w_X3_append_L4_4 X K n2 _ _ _ hn2 G (lv_sub hl [1, 2, 0] rfl) (fun  u4 ee H locs ls G hl => ?_) (fun r u1 ee => by obtain ⟨rfl, rfl⟩ := pair_at (ha _ ee); rfl)
  have h := hb1 _ ee
  clear ee ha hb1 hq3 hn2
  have h := nm_at (x := u4) rfl h
  obtain ⟨rfl, rfl⟩ := pair_at h
  exact reV X G dX3_append_52
noncomputable def f_X6_found (a1 : Int32) (u0 : XS) : Option (Int32 × XS) :=
  bnd (f_X6_within a1 (0 : Int32) (6 : Int32) u0) fun r1 u2 =>
  (if r1 = 0 then
    some ((-1000001 : Int32) - a1, u2)
  else
    if a1 < 0 ∨ 7 ≤ a1.toNatClampNeg then none else
    nmv (((xF u2) a1.toNatClampNeg) + (1 : Int32)) fun x5 =>
    if a1 < 0 ∨ 7 ≤ a1.toNatClampNeg then none else
    nmv (sF u2 (upd (xF u2) a1.toNatClampNeg x5)) fun u7 =>
    some ((-1000001 : Int32) - a1, u7))
set_option maxRecDepth 100000 in
set_option maxHeartbeats 4000000 in
theorem c_X6_found {a1 : Int32} {u0 : XS} {r : Int32} {u' : XS} (h : f_X6_found a1 u0 = some (r, u')) : MI l D cI cZ cQ adK adV A yX6_found cX6_found 2 (some .int) { frames := 1, cells := 0, slots := 0, locals := 22 } [.ref (ad 0), .int a1] (wX cI cZ cQ ad) u0 r u' := by
  unfold f_X6_found at h
  refine entI (by decide) (Nat.le_of_ble_eq_true rfl) (fun p e s m below meth c ls X K G hl => ?_)
  have hl : lv_has ls 2 [(0, .ref (ad 0)), (1, .int a1)] := hl
  obtain ⟨hx, hb, -⟩ := id X
  generalize hH : s.heap = H at G
  subst hH
  refine lv_iload_n hx hb dX6_found_0 rfl (lv_at hl 1 rfl) ?_
  refine lv_iconst (v := 0) hx hb dX6_found_1 (by decide) ?_
  refine lv_bipush (v := 6) hx hb dX6_found_2 (by decide) ?_
  obtain ⟨r1, u2, er1, h⟩ := bnd_at h
  refine csI (rest := []) X K G (c_X6_within er1) q_335 my_X6_within ⟨rfl, rfl⟩ ⟨Nat.le_of_ble_eq_true rfl, Nat.le_of_ble_eq_true rfl⟩ ⟨Nat.zero_le _, Nat.zero_le _⟩ rfl hl.1 rfl (Nat.le_of_ble_eq_true rfl) dX6_found_4 (fun H locs G => ?_)
  clear er1
  refine lv_if_eq (tgt := 20) hx hb dX6_found_7 (by decide) (fun c3 => ?_) (fun c3 => ?_)
  · have h := it_at c3 h
    refine lv_ldcw (v := -1000001) hx hb X.2.2.2.1 (X.2.2.2.2.1 _ q_342) dX6_found_20 ?_
    refine lv_iload_n hx hb dX6_found_23 rfl (lv_at hl 1 rfl) ?_
    refine lv_isub hx hb dX6_found_24 ?_
    obtain ⟨rfl, rfl⟩ := pair_at h
    exact reI X G dX6_found_25
  · have h := if_at c3 h
    refine lv_aload_n hx hb dX6_found_10 rfl (lv_at hl 0 rfl) ?_
    refine gX_0_8 X K G q_308 dX6_found_11 ?_
    refine lv_iload_n hx hb dX6_found_14 rfl (lv_at hl 1 rfl) ?_
    refine lv_dup2_11 hx hb dX6_found_15 rfl rfl ?_
    obtain ⟨g4, h⟩ := ck_at h
    refine lX_43 X K G g4 dX6_found_16 ?_
    refine lv_iconst (v := 1) hx hb dX6_found_17 (by decide) ?_
    refine lv_iadd hx hb dX6_found_18 ?_
    refine lv_topi (fun x5 ex5 => ?_)
    have h := nm_at ex5 h
    obtain ⟨g6, h⟩ := ck_at h
    refine aX_43 X K G g6 dX6_found_19 (fun H locs G => ?_)
    obtain ⟨u7, eu7⟩ : ∃ z : XS, z = sF u2 (upd (xF u2) a1.toNatClampNeg x5) := ⟨_, rfl⟩
    have G : wg D A s.heap H locs (wX cI cZ cQ ad u7) := by rw [eu7]; exact G
    have h := nm_at eu7 h
    clear eu7
    refine lv_ldcw (v := -1000001) hx hb X.2.2.2.1 (X.2.2.2.2.1 _ q_342) dX6_found_20 ?_
    refine lv_iload_n hx hb dX6_found_23 rfl (lv_at hl 1 rfl) ?_
    refine lv_isub hx hb dX6_found_24 ?_
    obtain ⟨rfl, rfl⟩ := pair_at h
    exact reI X G dX6_found_25
noncomputable def f_X6_feed (a1 : Int32) (a2 : Int32) (u0 : XS) : Option (Int32 × XS) :=
  bnd (f_X6_within a2 (1 : Int32) (4 : Int32) u0) fun r1 u2 =>
  (if r1 = 0 then
    bnd (f_X6_found (0 : Int32) u2) fun r9 u10 =>
    some (r9, u10)
  else
    (if (((xP u2).2) + a2) ≤ (120 : Int32) then
      bnd (f_X3_append a1 a2 u2) fun r5 u6 =>
      some ((xP u6).2, u6)
    else
      bnd (f_X6_found (1 : Int32) u2) fun r7 u8 =>
      some (r7, u8)))
set_option maxRecDepth 100000 in
set_option maxHeartbeats 4000000 in
theorem c_X6_feed {a1 : Int32} {a2 : Int32} {u0 : XS} {r : Int32} {u' : XS} (h : f_X6_feed a1 a2 u0 = some (r, u')) : MI l D cI cZ cQ adK adV A yX6_feed cX6_feed 3 (some .int) { frames := 2, cells := 0, slots := 0, locals := 43 } [.ref (ad 0), .int a1, .int a2] (wX cI cZ cQ ad) u0 r u' := by
  unfold f_X6_feed at h
  refine entI (by decide) (Nat.le_of_ble_eq_true rfl) (fun p e s m below meth c ls X K G hl => ?_)
  have hl : lv_has ls 3 [(0, .ref (ad 0)), (1, .int a1), (2, .int a2)] := hl
  obtain ⟨hx, hb, -⟩ := id X
  generalize hH : s.heap = H at G
  subst hH
  refine lv_iload_n hx hb dX6_feed_0 rfl (lv_at hl 2 rfl) ?_
  refine lv_iconst (v := 1) hx hb dX6_feed_1 (by decide) ?_
  refine lv_iconst (v := 4) hx hb dX6_feed_2 (by decide) ?_
  obtain ⟨r1, u2, er1, h⟩ := bnd_at h
  refine csI (rest := []) X K G (c_X6_within er1) q_335 my_X6_within ⟨rfl, rfl⟩ ⟨Nat.le_of_ble_eq_true rfl, Nat.le_of_ble_eq_true rfl⟩ ⟨Nat.zero_le _, Nat.zero_le _⟩ rfl hl.1 rfl (Nat.le_of_ble_eq_true rfl) dX6_feed_3 (fun H locs G => ?_)
  clear er1
  refine lv_if_ne (tgt := 15) hx hb dX6_feed_6 (by decide) (fun c3 => ?_) (fun c3 => ?_)
  · have h := if_at c3 h
    refine lv_aload_n hx hb dX6_feed_15 rfl (lv_at hl 0 rfl) ?_
    refine gX_0_3 X K G q_303 dX6_feed_16 ?_
    refine gX_22_1 X K G q_171 dX6_feed_19 ?_
    refine lv_iload_n hx hb dX6_feed_22 rfl (lv_at hl 2 rfl) ?_
    refine lv_iadd hx hb dX6_feed_23 ?_
    refine lv_bipush (v := 120) hx hb dX6_feed_24 (by decide) ?_
    refine lv_icmp_le (tgt := 35) hx hb dX6_feed_26 (by decide) (fun c4 => ?_) (fun c4 => ?_)
    · have h := it_at c4 h
      refine lv_aload_n hx hb dX6_feed_35 rfl (lv_at hl 0 rfl) ?_
      refine gX_0_3 X K G q_303 dX6_feed_36 ?_
      refine lv_iload_n hx hb dX6_feed_39 rfl (lv_at hl 1 rfl) ?_
      refine lv_iload_n hx hb dX6_feed_40 rfl (lv_at hl 2 rfl) ?_
      obtain ⟨r5, u6, er5, h⟩ := bnd_at h
      refine cvV (rest := []) X K G (c_X3_append er5) q_343 my_X3_append ⟨rfl, rfl⟩ ⟨Nat.le_of_ble_eq_true rfl, Nat.le_of_ble_eq_true rfl⟩ ⟨Nat.zero_le _, Nat.zero_le _⟩ 22 3 rfl rfl rfl rfl hl.1 rfl (Nat.le_of_ble_eq_true rfl) dX6_feed_41 (fun H locs G => ?_)
      clear er5
      refine lv_aload_n hx hb dX6_feed_44 rfl (lv_at hl 0 rfl) ?_
      refine gX_0_3 X K G q_303 dX6_feed_45 ?_
      refine gX_22_1 X K G q_171 dX6_feed_48 ?_
      obtain ⟨rfl, rfl⟩ := pair_at h
      exact reI X G dX6_feed_51
    · have h := if_at c4 h
      refine lv_aload_n hx hb dX6_feed_29 rfl (lv_at hl 0 rfl) ?_
      refine lv_iconst (v := 1) hx hb dX6_feed_30 (by decide) ?_
      obtain ⟨r7, u8, er7, h⟩ := bnd_at h
      refine cvI (rest := []) X K G (c_X6_found er7) q_338 my_X6_found ⟨rfl, rfl⟩ ⟨Nat.le_of_ble_eq_true rfl, Nat.le_of_ble_eq_true rfl⟩ ⟨Nat.zero_le _, Nat.zero_le _⟩ 0 6 rfl rfl rfl rfl hl.1 rfl (Nat.le_of_ble_eq_true rfl) dX6_feed_31 (fun H locs G => ?_)
      clear er7
      obtain ⟨rfl, rfl⟩ := pair_at h
      exact reI X G dX6_feed_34
  · have h := it_at c3 h
    refine lv_aload_n hx hb dX6_feed_9 rfl (lv_at hl 0 rfl) ?_
    refine lv_iconst (v := 0) hx hb dX6_feed_10 (by decide) ?_
    obtain ⟨r9, u10, er9, h⟩ := bnd_at h
    refine cvI (rest := []) X K G (c_X6_found er9) q_338 my_X6_found ⟨rfl, rfl⟩ ⟨Nat.le_of_ble_eq_true rfl, Nat.le_of_ble_eq_true rfl⟩ ⟨Nat.zero_le _, Nat.zero_le _⟩ 0 6 rfl rfl rfl rfl hl.1 rfl (Nat.le_of_ble_eq_true rfl) dX6_feed_11 (fun H locs G => ?_)
    clear er9
    obtain ⟨rfl, rfl⟩ := pair_at h
    exact reI X G dX6_feed_14
noncomputable def f_X6_wipe (u0 : XS) : Option (Int32 × XS) :=
  nmv ((xP u0).2) fun x1 =>
  nmv (sP u0 ((xP u0).1, (0 : Int32))) fun u2 =>
  some (x1, u2)
set_option maxRecDepth 100000 in
set_option maxHeartbeats 4000000 in
theorem c_X6_wipe {u0 : XS} {r : Int32} {u' : XS} (h : f_X6_wipe  u0 = some (r, u')) : MI l D cI cZ cQ adK adV A yX6_wipe cX6_wipe 2 (some .int) { frames := 0, cells := 0, slots := 0, locals := 0 } [.ref (ad 0)] (wX cI cZ cQ ad) u0 r u' := by
  unfold f_X6_wipe at h
  refine entI (by decide) (Nat.le_of_ble_eq_true rfl) (fun p e s m below meth c ls X K G hl => ?_)
  have hl : lv_has ls 2 [(0, .ref (ad 0))] := hl
  obtain ⟨hx, hb, -⟩ := id X
  generalize hH : s.heap = H at G
  subst hH
  refine lv_aload_n hx hb dX6_wipe_0 rfl (lv_at hl 0 rfl) ?_
  refine gX_0_3 X K G q_303 dX6_wipe_1 ?_
  refine gX_22_1 X K G q_171 dX6_wipe_4 ?_
  refine lv_topi (fun x1 ex1 => ?_)
  have h := nm_at ex1 h
  refine lv_istore_n (lv' := [(1, .int x1), (0, .ref (ad 0))]) hx hb dX6_wipe_7 rfl hl (by decide) rfl (fun ls hl => ?_)
  refine lv_aload_n hx hb dX6_wipe_8 rfl (lv_at hl 1 rfl) ?_
  refine gX_0_3 X K G q_303 dX6_wipe_9 ?_
  refine lv_iconst (v := 0) hx hb dX6_wipe_12 (by decide) ?_
  refine pX_22_1 X K G q_171 dX6_wipe_13 (fun H locs G => ?_)
  obtain ⟨u2, eu2⟩ : ∃ z : XS, z = sP u0 ((xP u0).1, (0 : Int32)) := ⟨_, rfl⟩
  have G : wg D A s.heap H locs (wX cI cZ cQ ad u2) := by rw [eu2]; exact G
  have h := nm_at eu2 h
  clear eu2
  refine lv_iload_n hx hb dX6_wipe_16 rfl (lv_at hl 0 rfl) ?_
  obtain ⟨rfl, rfl⟩ := pair_at h
  exact reI X G dX6_wipe_17
noncomputable def f_X6_round (a1 : Int32) (u0 : XS) : Option (Int32 × XS) :=
  bnd (f_X6_within a1 (1 : Int32) (12 : Int32) u0) fun r1 u2 =>
  (if r1 = 0 then
    bnd (f_X6_found (0 : Int32) u2) fun r6 u7 =>
    some (r6, u7)
  else
    nmv (tRound (xT u2)) fun x4 =>
    nmv (sT u2 (uRound (xT u2) a1)) fun u5 =>
    some (x4, u5))
set_option maxRecDepth 100000 in
set_option maxHeartbeats 4000000 in
theorem c_X6_round {a1 : Int32} {u0 : XS} {r : Int32} {u' : XS} (h : f_X6_round a1 u0 = some (r, u')) : MI l D cI cZ cQ adK adV A yX6_round cX6_round 3 (some .int) { frames := 2, cells := 0, slots := 0, locals := 43 } [.ref (ad 0), .int a1] (wX cI cZ cQ ad) u0 r u' := by
  unfold f_X6_round at h
  refine entI (by decide) (Nat.le_of_ble_eq_true rfl) (fun p e s m below meth c ls X K G hl => ?_)
  have hl : lv_has ls 3 [(0, .ref (ad 0)), (1, .int a1)] := hl
  obtain ⟨hx, hb, -⟩ := id X
  generalize hH : s.heap = H at G
  subst hH
  refine lv_iload_n hx hb dX6_round_0 rfl (lv_at hl 1 rfl) ?_
  refine lv_iconst (v := 1) hx hb dX6_round_1 (by decide) ?_
  refine lv_bipush (v := 12) hx hb dX6_round_2 (by decide) ?_
  obtain ⟨r1, u2, er1, h⟩ := bnd_at h
  refine csI (rest := []) X K G (c_X6_within er1) q_335 my_X6_within ⟨rfl, rfl⟩ ⟨Nat.le_of_ble_eq_true rfl, Nat.le_of_ble_eq_true rfl⟩ ⟨Nat.zero_le _, Nat.zero_le _⟩ rfl hl.1 rfl (Nat.le_of_ble_eq_true rfl) dX6_round_4 (fun H locs G => ?_)
  clear er1
  refine lv_if_ne (tgt := 16) hx hb dX6_round_7 (by decide) (fun c3 => ?_) (fun c3 => ?_)
  · have h := if_at c3 h
    refine lv_aload_n hx hb dX6_round_16 rfl (lv_at hl 0 rfl) ?_
    refine gX_0_0 X K G q_300 dX6_round_17 ?_
    refine gX_1_0 X K G q_105 dX6_round_20 ?_
    refine lv_topi (fun x4 ex4 => ?_)
    have h := nm_at ex4 h
    refine lv_istore_n (lv' := [(2, .int x4), (0, .ref (ad 0)), (1, .int a1)]) hx hb dX6_round_23 rfl hl (by decide) rfl (fun ls hl => ?_)
    refine lv_aload_n hx hb dX6_round_24 rfl (lv_at hl 1 rfl) ?_
    refine gX_0_0 X K G q_300 dX6_round_25 ?_
    refine lv_iload_n hx hb dX6_round_28 rfl (lv_at hl 2 rfl) ?_
    refine pX_1_0 X K G q_105 dX6_round_29 (fun H locs G => ?_)
    obtain ⟨u5, eu5⟩ : ∃ z : XS, z = sT u2 (uRound (xT u2) a1) := ⟨_, rfl⟩
    have G : wg D A s.heap H locs (wX cI cZ cQ ad u5) := by rw [eu5]; exact G
    have h := nm_at eu5 h
    clear eu5
    refine lv_iload_n hx hb dX6_round_32 rfl (lv_at hl 0 rfl) ?_
    obtain ⟨rfl, rfl⟩ := pair_at h
    exact reI X G dX6_round_33
  · have h := it_at c3 h
    refine lv_aload_n hx hb dX6_round_10 rfl (lv_at hl 0 rfl) ?_
    refine lv_iconst (v := 0) hx hb dX6_round_11 (by decide) ?_
    obtain ⟨r6, u7, er6, h⟩ := bnd_at h
    refine cvI (rest := []) X K G (c_X6_found er6) q_338 my_X6_found ⟨rfl, rfl⟩ ⟨Nat.le_of_ble_eq_true rfl, Nat.le_of_ble_eq_true rfl⟩ ⟨Nat.zero_le _, Nat.zero_le _⟩ 0 6 rfl rfl rfl rfl hl.1 rfl (Nat.le_of_ble_eq_true rfl) dX6_round_12 (fun H locs G => ?_)
    clear er6
    obtain ⟨rfl, rfl⟩ := pair_at h
    exact reI X G dX6_round_15
noncomputable def f_X6_near (a1 : Int32) (u0 : XS) : Option (Int32 × XS) :=
  bnd (f_X6_within a1 (-1 : Int32) (11 : Int32) u0) fun r1 u2 =>
  (if r1 = 0 then
    bnd (f_X6_found (0 : Int32) u2) fun r6 u7 =>
    some (r6, u7)
  else
    nmv (tNear (xT u2)) fun x4 =>
    nmv (sT u2 (uNear (xT u2) a1)) fun u5 =>
    some (x4, u5))
set_option maxRecDepth 100000 in
set_option maxHeartbeats 4000000 in
theorem c_X6_near {a1 : Int32} {u0 : XS} {r : Int32} {u' : XS} (h : f_X6_near a1 u0 = some (r, u')) : MI l D cI cZ cQ adK adV A yX6_near cX6_near 3 (some .int) { frames := 2, cells := 0, slots := 0, locals := 43 } [.ref (ad 0), .int a1] (wX cI cZ cQ ad) u0 r u' := by
  unfold f_X6_near at h
  refine entI (by decide) (Nat.le_of_ble_eq_true rfl) (fun p e s m below meth c ls X K G hl => ?_)
  have hl : lv_has ls 3 [(0, .ref (ad 0)), (1, .int a1)] := hl
  obtain ⟨hx, hb, -⟩ := id X
  generalize hH : s.heap = H at G
  subst hH
  refine lv_iload_n hx hb dX6_near_0 rfl (lv_at hl 1 rfl) ?_
  refine lv_iconst (v := -1) hx hb dX6_near_1 (by decide) ?_
  refine lv_bipush (v := 11) hx hb dX6_near_2 (by decide) ?_
  obtain ⟨r1, u2, er1, h⟩ := bnd_at h
  refine csI (rest := []) X K G (c_X6_within er1) q_335 my_X6_within ⟨rfl, rfl⟩ ⟨Nat.le_of_ble_eq_true rfl, Nat.le_of_ble_eq_true rfl⟩ ⟨Nat.zero_le _, Nat.zero_le _⟩ rfl hl.1 rfl (Nat.le_of_ble_eq_true rfl) dX6_near_4 (fun H locs G => ?_)
  clear er1
  refine lv_if_ne (tgt := 16) hx hb dX6_near_7 (by decide) (fun c3 => ?_) (fun c3 => ?_)
  · have h := if_at c3 h
    refine lv_aload_n hx hb dX6_near_16 rfl (lv_at hl 0 rfl) ?_
    refine gX_0_0 X K G q_300 dX6_near_17 ?_
    refine gX_1_1 X K G q_109 dX6_near_20 ?_
    refine lv_topi (fun x4 ex4 => ?_)
    have h := nm_at ex4 h
    refine lv_istore_n (lv' := [(2, .int x4), (0, .ref (ad 0)), (1, .int a1)]) hx hb dX6_near_23 rfl hl (by decide) rfl (fun ls hl => ?_)
    refine lv_aload_n hx hb dX6_near_24 rfl (lv_at hl 1 rfl) ?_
    refine gX_0_0 X K G q_300 dX6_near_25 ?_
    refine lv_iload_n hx hb dX6_near_28 rfl (lv_at hl 2 rfl) ?_
    refine pX_1_1 X K G q_109 dX6_near_29 (fun H locs G => ?_)
    obtain ⟨u5, eu5⟩ : ∃ z : XS, z = sT u2 (uNear (xT u2) a1) := ⟨_, rfl⟩
    have G : wg D A s.heap H locs (wX cI cZ cQ ad u5) := by rw [eu5]; exact G
    have h := nm_at eu5 h
    clear eu5
    refine lv_iload_n hx hb dX6_near_32 rfl (lv_at hl 0 rfl) ?_
    obtain ⟨rfl, rfl⟩ := pair_at h
    exact reI X G dX6_near_33
  · have h := it_at c3 h
    refine lv_aload_n hx hb dX6_near_10 rfl (lv_at hl 0 rfl) ?_
    refine lv_iconst (v := 0) hx hb dX6_near_11 (by decide) ?_
    obtain ⟨r6, u7, er6, h⟩ := bnd_at h
    refine cvI (rest := []) X K G (c_X6_found er6) q_338 my_X6_found ⟨rfl, rfl⟩ ⟨Nat.le_of_ble_eq_true rfl, Nat.le_of_ble_eq_true rfl⟩ ⟨Nat.zero_le _, Nat.zero_le _⟩ 0 6 rfl rfl rfl rfl hl.1 rfl (Nat.le_of_ble_eq_true rfl) dX6_near_12 (fun H locs G => ?_)
    clear er6
    obtain ⟨rfl, rfl⟩ := pair_at h
    exact reI X G dX6_near_15
noncomputable def f_X5_addTool (a1 : Int32) (u0 : XS) : Option (Int32 × XS) :=
  (if (tTools (xT u0)) < (8 : Int32) then
    nmv (tTools (xT u0)) fun x2 =>
    if x2 < 0 ∨ 8 ≤ x2.toNatClampNeg then none else
    nmv (sT u0 (uDays (xT u0) (upd (tDays (xT u0)) x2.toNatClampNeg a1))) fun u4 =>
    nmv ((tTools (xT u4)) + (1 : Int32)) fun x5 =>
    nmv (sT u4 (uTools (xT u4) x5)) fun u6 =>
    some ((tTools (xT u6)) - (1 : Int32), u6)
  else
    some ((-1 : Int32), u0))
set_option maxRecDepth 100000 in
set_option maxHeartbeats 4000000 in
theorem c_X5_addTool {a1 : Int32} {u0 : XS} {r : Int32} {u' : XS} (h : f_X5_addTool a1 u0 = some (r, u')) : MI l D cI cZ cQ adK adV A yX5_addTool cX5_addTool 2 (some .int) { frames := 0, cells := 0, slots := 0, locals := 0 } [.ref (ad 1), .int a1] (wX cI cZ cQ ad) u0 r u' := by
  unfold f_X5_addTool at h
  refine entI (by decide) (Nat.le_of_ble_eq_true rfl) (fun p e s m below meth c ls X K G hl => ?_)
  have hl : lv_has ls 2 [(0, .ref (ad 1)), (1, .int a1)] := hl
  obtain ⟨hx, hb, -⟩ := id X
  generalize hH : s.heap = H at G
  subst hH
  refine lv_aload_n hx hb dX5_addTool_0 rfl (lv_at hl 0 rfl) ?_
  refine gX_1_3 X K G q_112 dX5_addTool_1 ?_
  refine lv_bipush (v := 8) hx hb dX5_addTool_4 (by decide) ?_
  refine lv_icmp_lt (tgt := 11) hx hb dX5_addTool_6 (by decide) (fun c1 => ?_) (fun c1 => ?_)
  · have h := it_at c1 h
    refine lv_aload_n hx hb dX5_addTool_11 rfl (lv_at hl 0 rfl) ?_
    refine gX_1_6 X K G q_122 dX5_addTool_12 ?_
    refine lv_aload_n hx hb dX5_addTool_15 rfl (lv_at hl 0 rfl) ?_
    refine gX_1_3 X K G q_112 dX5_addTool_16 ?_
    refine lv_iload_n hx hb dX5_addTool_19 rfl (lv_at hl 1 rfl) ?_
    refine nm2 (fun x2 ex2 => ?_)
    have h := nm_at ex2 h
    obtain ⟨g3, h⟩ := ck_at h
    refine aX_2 X K G g3 dX5_addTool_20 (fun H locs G => ?_)
    obtain ⟨u4, eu4⟩ : ∃ z : XS, z = sT u0 (uDays (xT u0) (upd (tDays (xT u0)) x2.toNatClampNeg a1)) := ⟨_, rfl⟩
    have G : wg D A s.heap H locs (wX cI cZ cQ ad u4) := by rw [eu4]; exact G
    have h := nm_at eu4 h
    clear eu4
    refine lv_aload_n hx hb dX5_addTool_21 rfl (lv_at hl 0 rfl) ?_
    refine lv_dup hx hb dX5_addTool_22 rfl ?_
    refine gX_1_3 X K G q_112 dX5_addTool_23 ?_
    refine lv_iconst (v := 1) hx hb dX5_addTool_26 (by decide) ?_
    refine lv_iadd hx hb dX5_addTool_27 ?_
    refine lv_topi (fun x5 ex5 => ?_)
    have h := nm_at ex5 h
    refine pX_1_3 X K G q_112 dX5_addTool_28 (fun H locs G => ?_)
    obtain ⟨u6, eu6⟩ : ∃ z : XS, z = sT u4 (uTools (xT u4) x5) := ⟨_, rfl⟩
    have G : wg D A s.heap H locs (wX cI cZ cQ ad u6) := by rw [eu6]; exact G
    have h := nm_at eu6 h
    clear eu6
    refine lv_aload_n hx hb dX5_addTool_31 rfl (lv_at hl 0 rfl) ?_
    refine gX_1_3 X K G q_112 dX5_addTool_32 ?_
    refine lv_iconst (v := 1) hx hb dX5_addTool_35 (by decide) ?_
    refine lv_isub hx hb dX5_addTool_36 ?_
    obtain ⟨rfl, rfl⟩ := pair_at h
    exact reI X G dX5_addTool_37
  · have h := if_at c1 h
    refine lv_iconst (v := -1) hx hb dX5_addTool_9 (by decide) ?_
    obtain ⟨rfl, rfl⟩ := pair_at h
    exact reI X G dX5_addTool_10
noncomputable def f_X6_tool (a1 : Int32) (u0 : XS) : Option (Int32 × XS) :=
  bnd (f_X6_within a1 (0 : Int32) (4095 : Int32) u0) fun r1 u2 =>
  (if r1 = 0 then
    bnd (f_X6_found (0 : Int32) u2) fun r9 u10 =>
    some (r9, u10)
  else
    (if (tTools (xT u2)) < (8 : Int32) then
      bnd (f_X5_addTool a1 u2) fun r5 u6 =>
      some (r5, u6)
    else
      bnd (f_X6_found (1 : Int32) u2) fun r7 u8 =>
      some (r7, u8)))
set_option maxRecDepth 100000 in
set_option maxHeartbeats 4000000 in
theorem c_X6_tool {a1 : Int32} {u0 : XS} {r : Int32} {u' : XS} (h : f_X6_tool a1 u0 = some (r, u')) : MI l D cI cZ cQ adK adV A yX6_tool cX6_tool 2 (some .int) { frames := 2, cells := 0, slots := 0, locals := 43 } [.ref (ad 0), .int a1] (wX cI cZ cQ ad) u0 r u' := by
  unfold f_X6_tool at h
  refine entI (by decide) (Nat.le_of_ble_eq_true rfl) (fun p e s m below meth c ls X K G hl => ?_)
  have hl : lv_has ls 2 [(0, .ref (ad 0)), (1, .int a1)] := hl
  obtain ⟨hx, hb, -⟩ := id X
  generalize hH : s.heap = H at G
  subst hH
  refine lv_iload_n hx hb dX6_tool_0 rfl (lv_at hl 1 rfl) ?_
  refine lv_iconst (v := 0) hx hb dX6_tool_1 (by decide) ?_
  refine lv_sipush (v := 4095) hx hb dX6_tool_2 (by decide) ?_
  obtain ⟨r1, u2, er1, h⟩ := bnd_at h
  refine csI (rest := []) X K G (c_X6_within er1) q_335 my_X6_within ⟨rfl, rfl⟩ ⟨Nat.le_of_ble_eq_true rfl, Nat.le_of_ble_eq_true rfl⟩ ⟨Nat.zero_le _, Nat.zero_le _⟩ rfl hl.1 rfl (Nat.le_of_ble_eq_true rfl) dX6_tool_5 (fun H locs G => ?_)
  clear er1
  refine lv_if_ne (tgt := 17) hx hb dX6_tool_8 (by decide) (fun c3 => ?_) (fun c3 => ?_)
  · have h := if_at c3 h
    refine lv_aload_n hx hb dX6_tool_17 rfl (lv_at hl 0 rfl) ?_
    refine gX_0_0 X K G q_300 dX6_tool_18 ?_
    refine gX_1_3 X K G q_114 dX6_tool_21 ?_
    refine lv_bipush (v := 8) hx hb dX6_tool_24 (by decide) ?_
    refine lv_icmp_lt (tgt := 35) hx hb dX6_tool_26 (by decide) (fun c4 => ?_) (fun c4 => ?_)
    · have h := it_at c4 h
      refine lv_aload_n hx hb dX6_tool_35 rfl (lv_at hl 0 rfl) ?_
      refine gX_0_0 X K G q_300 dX6_tool_36 ?_
      refine lv_iload_n hx hb dX6_tool_39 rfl (lv_at hl 1 rfl) ?_
      obtain ⟨r5, u6, er5, h⟩ := bnd_at h
      refine cvI (rest := []) X K G (c_X5_addTool er5) q_526 my_X5_addTool ⟨rfl, rfl⟩ ⟨Nat.le_of_ble_eq_true rfl, Nat.le_of_ble_eq_true rfl⟩ ⟨Nat.zero_le _, Nat.zero_le _⟩ 1 5 rfl rfl rfl rfl hl.1 rfl (Nat.le_of_ble_eq_true rfl) dX6_tool_40 (fun H locs G => ?_)
      clear er5
      obtain ⟨rfl, rfl⟩ := pair_at h
      exact reI X G dX6_tool_43
    · have h := if_at c4 h
      refine lv_aload_n hx hb dX6_tool_29 rfl (lv_at hl 0 rfl) ?_
      refine lv_iconst (v := 1) hx hb dX6_tool_30 (by decide) ?_
      obtain ⟨r7, u8, er7, h⟩ := bnd_at h
      refine cvI (rest := []) X K G (c_X6_found er7) q_338 my_X6_found ⟨rfl, rfl⟩ ⟨Nat.le_of_ble_eq_true rfl, Nat.le_of_ble_eq_true rfl⟩ ⟨Nat.zero_le _, Nat.zero_le _⟩ 0 6 rfl rfl rfl rfl hl.1 rfl (Nat.le_of_ble_eq_true rfl) dX6_tool_31 (fun H locs G => ?_)
      clear er7
      obtain ⟨rfl, rfl⟩ := pair_at h
      exact reI X G dX6_tool_34
  · have h := it_at c3 h
    refine lv_aload_n hx hb dX6_tool_11 rfl (lv_at hl 0 rfl) ?_
    refine lv_iconst (v := 0) hx hb dX6_tool_12 (by decide) ?_
    obtain ⟨r9, u10, er9, h⟩ := bnd_at h
    refine cvI (rest := []) X K G (c_X6_found er9) q_338 my_X6_found ⟨rfl, rfl⟩ ⟨Nat.le_of_ble_eq_true rfl, Nat.le_of_ble_eq_true rfl⟩ ⟨Nat.zero_le _, Nat.zero_le _⟩ 0 6 rfl rfl rfl rfl hl.1 rfl (Nat.le_of_ble_eq_true rfl) dX6_tool_13 (fun H locs G => ?_)
    clear er9
    obtain ⟨rfl, rfl⟩ := pair_at h
    exact reI X G dX6_tool_16
noncomputable def f_X5_hasTool (a1 : Int32) (u0 : XS) : Option (Int32 × XS) :=
  bnd (f_X6_within a1 (0 : Int32) ((tTools (xT u0)) - (1 : Int32)) u0) fun r1 u2 =>
  if ¬ (r1 = 0 ∨ r1 = 1) then none else
  some (r1, u2)
set_option maxRecDepth 100000 in
set_option maxHeartbeats 4000000 in
theorem c_X5_hasTool {a1 : Int32} {u0 : XS} {r : Int32} {u' : XS} (h : f_X5_hasTool a1 u0 = some (r, u')) : MI l D cI cZ cQ adK adV A yX5_hasTool cX5_hasTool 2 (some .boolean) { frames := 1, cells := 0, slots := 0, locals := 22 } [.ref (ad 1), .int a1] (wX cI cZ cQ ad) u0 r u' := by
  unfold f_X5_hasTool at h
  refine entI (by decide) (Nat.le_of_ble_eq_true rfl) (fun p e s m below meth c ls X K G hl => ?_)
  have hl : lv_has ls 2 [(0, .ref (ad 1)), (1, .int a1)] := hl
  obtain ⟨hx, hb, -⟩ := id X
  generalize hH : s.heap = H at G
  subst hH
  refine lv_iload_n hx hb dX5_hasTool_0 rfl (lv_at hl 1 rfl) ?_
  refine lv_iconst (v := 0) hx hb dX5_hasTool_1 (by decide) ?_
  refine lv_aload_n hx hb dX5_hasTool_2 rfl (lv_at hl 0 rfl) ?_
  refine gX_1_3 X K G q_112 dX5_hasTool_3 ?_
  refine lv_iconst (v := 1) hx hb dX5_hasTool_6 (by decide) ?_
  refine lv_isub hx hb dX5_hasTool_7 ?_
  obtain ⟨r1, u2, er1, h⟩ := bnd_at h
  refine cnI (rest := []) X K G (c_X6_within er1) K.2.1.2.1 my_X6_within ⟨rfl, rfl⟩ ⟨Nat.le_of_ble_eq_true rfl, Nat.le_of_ble_eq_true rfl⟩ ⟨Nat.zero_le _, Nat.zero_le _⟩ rfl hl.1 rfl (Nat.le_of_ble_eq_true rfl) dX5_hasTool_8 (fun H locs G => ?_)
  clear er1
  obtain ⟨g3, h⟩ := ck_at h
  obtain ⟨rfl, rfl⟩ := pair_at h
  exact reZ X G (Decidable.not_not.mp g3) dX5_hasTool_11
noncomputable def f_X6_days (a1 : Int32) (a2 : Int32) (u0 : XS) : Option (Int32 × XS) :=
  bnd (f_X5_hasTool a1 u0) fun r1 u2 =>
  (if r1 = 0 then
    bnd (f_X6_found (0 : Int32) u2) fun r4 u5 =>
    some (r4, u5)
  else
    bnd (f_X6_within a2 (0 : Int32) (4095 : Int32) u2) fun r6 u7 =>
    (if r6 = 0 then
      bnd (f_X6_found (0 : Int32) u7) fun r13 u14 =>
      some (r13, u14)
    else
      if a1 < 0 ∨ 8 ≤ a1.toNatClampNeg then none else
      nmv ((tDays (xT u7)) a1.toNatClampNeg) fun x10 =>
      if a1 < 0 ∨ 8 ≤ a1.toNatClampNeg then none else
      nmv (sT u7 (uDays (xT u7) (upd (tDays (xT u7)) a1.toNatClampNeg a2))) fun u12 =>
      some (x10, u12)))
set_option maxRecDepth 100000 in
set_option maxHeartbeats 4000000 in
theorem c_X6_days {a1 : Int32} {a2 : Int32} {u0 : XS} {r : Int32} {u' : XS} (h : f_X6_days a1 a2 u0 = some (r, u')) : MI l D cI cZ cQ adK adV A yX6_days cX6_days 4 (some .int) { frames := 2, cells := 0, slots := 0, locals := 43 } [.ref (ad 0), .int a1, .int a2] (wX cI cZ cQ ad) u0 r u' := by
  unfold f_X6_days at h
  refine entI (by decide) (Nat.le_of_ble_eq_true rfl) (fun p e s m below meth c ls X K G hl => ?_)
  have hl : lv_has ls 4 [(0, .ref (ad 0)), (1, .int a1), (2, .int a2)] := hl
  obtain ⟨hx, hb, -⟩ := id X
  generalize hH : s.heap = H at G
  subst hH
  refine lv_aload_n hx hb dX6_days_0 rfl (lv_at hl 0 rfl) ?_
  refine gX_0_0 X K G q_300 dX6_days_1 ?_
  refine lv_iload_n hx hb dX6_days_4 rfl (lv_at hl 1 rfl) ?_
  obtain ⟨r1, u2, er1, h⟩ := bnd_at h
  refine cvI (rest := []) X K G (c_X5_hasTool er1) q_531 my_X5_hasTool ⟨rfl, rfl⟩ ⟨Nat.le_of_ble_eq_true rfl, Nat.le_of_ble_eq_true rfl⟩ ⟨Nat.zero_le _, Nat.zero_le _⟩ 1 5 rfl rfl rfl rfl hl.1 rfl (Nat.le_of_ble_eq_true rfl) dX6_days_5 (fun H locs G => ?_)
  clear er1
  refine lv_if_eq (tgt := 22) hx hb dX6_days_8 (by decide) (fun c3 => ?_) (fun c3 => ?_)
  · have h := it_at c3 h
    refine lv_aload_n hx hb dX6_days_22 rfl (lv_at hl 0 rfl) ?_
    refine lv_iconst (v := 0) hx hb dX6_days_23 (by decide) ?_
    obtain ⟨r4, u5, er4, h⟩ := bnd_at h
    refine cvI (rest := []) X K G (c_X6_found er4) q_338 my_X6_found ⟨rfl, rfl⟩ ⟨Nat.le_of_ble_eq_true rfl, Nat.le_of_ble_eq_true rfl⟩ ⟨Nat.zero_le _, Nat.zero_le _⟩ 0 6 rfl rfl rfl rfl hl.1 rfl (Nat.le_of_ble_eq_true rfl) dX6_days_24 (fun H locs G => ?_)
    clear er4
    obtain ⟨rfl, rfl⟩ := pair_at h
    exact reI X G dX6_days_27
  · have h := if_at c3 h
    refine lv_iload_n hx hb dX6_days_11 rfl (lv_at hl 2 rfl) ?_
    refine lv_iconst (v := 0) hx hb dX6_days_12 (by decide) ?_
    refine lv_sipush (v := 4095) hx hb dX6_days_13 (by decide) ?_
    obtain ⟨r6, u7, er6, h⟩ := bnd_at h
    refine csI (rest := []) X K G (c_X6_within er6) q_335 my_X6_within ⟨rfl, rfl⟩ ⟨Nat.le_of_ble_eq_true rfl, Nat.le_of_ble_eq_true rfl⟩ ⟨Nat.zero_le _, Nat.zero_le _⟩ rfl hl.1 rfl (Nat.le_of_ble_eq_true rfl) dX6_days_16 (fun H locs G => ?_)
    clear er6
    refine lv_if_ne (tgt := 28) hx hb dX6_days_19 (by decide) (fun c8 => ?_) (fun c8 => ?_)
    · have h := if_at c8 h
      refine lv_aload_n hx hb dX6_days_28 rfl (lv_at hl 0 rfl) ?_
      refine gX_0_0 X K G q_300 dX6_days_29 ?_
      refine gX_1_6 X K G q_124 dX6_days_32 ?_
      refine lv_iload_n hx hb dX6_days_35 rfl (lv_at hl 1 rfl) ?_
      obtain ⟨g9, h⟩ := ck_at h
      refine lX_2 X K G g9 dX6_days_36 ?_
      refine lv_topi (fun x10 ex10 => ?_)
      have h := nm_at ex10 h
      refine lv_istore_n (lv' := [(3, .int x10), (0, .ref (ad 0)), (1, .int a1), (2, .int a2)]) hx hb dX6_days_37 rfl hl (by decide) rfl (fun ls hl => ?_)
      refine lv_aload_n hx hb dX6_days_38 rfl (lv_at hl 1 rfl) ?_
      refine gX_0_0 X K G q_300 dX6_days_39 ?_
      refine gX_1_6 X K G q_124 dX6_days_42 ?_
      refine lv_iload_n hx hb dX6_days_45 rfl (lv_at hl 2 rfl) ?_
      refine lv_iload_n hx hb dX6_days_46 rfl (lv_at hl 3 rfl) ?_
      obtain ⟨g11, h⟩ := ck_at h
      refine aX_2 X K G g11 dX6_days_47 (fun H locs G => ?_)
      obtain ⟨u12, eu12⟩ : ∃ z : XS, z = sT u7 (uDays (xT u7) (upd (tDays (xT u7)) a1.toNatClampNeg a2)) := ⟨_, rfl⟩
      have G : wg D A s.heap H locs (wX cI cZ cQ ad u12) := by rw [eu12]; exact G
      have h := nm_at eu12 h
      clear eu12
      refine lv_iload_n hx hb dX6_days_48 rfl (lv_at hl 0 rfl) ?_
      obtain ⟨rfl, rfl⟩ := pair_at h
      exact reI X G dX6_days_49
    · have h := it_at c8 h
      refine lv_aload_n hx hb dX6_days_22 rfl (lv_at hl 0 rfl) ?_
      refine lv_iconst (v := 0) hx hb dX6_days_23 (by decide) ?_
      obtain ⟨r13, u14, er13, h⟩ := bnd_at h
      refine cvI (rest := []) X K G (c_X6_found er13) q_338 my_X6_found ⟨rfl, rfl⟩ ⟨Nat.le_of_ble_eq_true rfl, Nat.le_of_ble_eq_true rfl⟩ ⟨Nat.zero_le _, Nat.zero_le _⟩ 0 6 rfl rfl rfl rfl hl.1 rfl (Nat.le_of_ble_eq_true rfl) dX6_days_24 (fun H locs G => ?_)
      clear er13
      obtain ⟨rfl, rfl⟩ := pair_at h
      exact reI X G dX6_days_27
noncomputable def f_X0_firstDay_L44_44 (v2 : Int32) (v4 : Int32) (v5 : Int32) (v6 : Int32) (v7 : Int32) (u0 : XS) : Option ((Int32 × Int32 × Int32 × Int32 × Int32 × XS) ⊕ ((Int32 × XS) ⊕ (XS))) :=
  (if v5 ≤ v7 then
    some (.inr (.inr u0))
  else
    (if ((v4 >>> (v6 &&& 31)) &&& (1 : Int32)) = 0 then
      (if (v6 + (1 : Int32)) = v5 then
        nmv (v7 + (1 : Int32)) fun x6 =>
        some (.inl (v2, v4, v5, (0 : Int32), x6, u0))
      else
        nmv (v6 + (1 : Int32)) fun x4 =>
        nmv (v7 + (1 : Int32)) fun x5 =>
        some (.inl (v2, v4, v5, x4, x5, u0)))
    else
      some (.inr (.inl (v2 + v7, u0)))))
set_option maxRecDepth 100000 in
set_option maxHeartbeats 4000000 in
theorem b_X0_firstDay_L44_44 (X : cx p s m args meth c cX0_firstDay 8 RX0 (some .int)) (K : kx D cI cZ cQ adK adV A s s.heap) {v2 : Int32} {v4 : Int32} {v5 : Int32} {v6 : Int32} {v7 : Int32} {u0 : XS} (G : wg D A s.heap H locs (wX cI cZ cQ ad u0)) (hl : lv_has ls 8 [(2, .int v2), (4, .int v4), (5, .int v5), (6, .int v6), (7, .int v7)]) {q : ((Int32 × Int32 × Int32 × Int32 × Int32 × XS) ⊕ ((Int32 × XS) ⊕ (XS)))} (h : f_X0_firstDay_L44_44 v2 v4 v5 v6 v7 u0 = some q) (hB : ∀ (v2 : Int32) (v4 : Int32) (v5 : Int32) (v6 : Int32) (v7 : Int32) (u : XS), q = .inl (v2, v4, v5, v6, v7, u) → ∀ (H : Heap) (locs : List Loc) (ls : Array Slot), wg D A s.heap H locs (wX cI cZ cQ ad u) → lv_has ls 8 [(2, .int v2), (4, .int v4), (5, .int v5), (6, .int v6), (7, .int v7)] → W p l e { frames := 0, cells := 0, slots := 0, locals := 0 } s m args below meth c H locs 0 0 Q (F0 m 44 ls [])) (hX : ∀ (u : XS), q = .inr (.inr u) → ∀ (H : Heap) (locs : List Loc) (ls : Array Slot), wg D A s.heap H locs (wX cI cZ cQ ad u) → lv_has ls 8 [] → W p l e { frames := 0, cells := 0, slots := 0, locals := 0 } s m args below meth c H locs 0 0 Q (F0 m 91 ls [])) (hR : ∀ (r : Int32) (u : XS), q = .inr (.inl (r, u)) → Q = (qI D A (wX cI cZ cQ ad) below args s r u)) : W p l e { frames := 0, cells := 0, slots := 0, locals := 0 } s m args below meth c H locs 0 0 Q (F0 m 44 ls []) := by
  unfold f_X0_firstDay_L44_44 at h
  obtain ⟨hx, hb, -⟩ := id X
  refine lv_iload hx hb dX0_firstDay_44 (lv_at hl 4 rfl) ?_
  refine lv_iload hx hb dX0_firstDay_46 (lv_at hl 2 rfl) ?_
  refine lv_icmp_ge (tgt := 91) hx hb dX0_firstDay_48 (by decide) (fun c1 => ?_) (fun c1 => ?_)
  · have h := it_at c1 h
    exact hX _ (Option.some.inj h).symm _ _ _ G (lv_sub hl [] rfl)
  · have h := if_at c1 h
    refine lv_iload hx hb dX0_firstDay_51 (lv_at hl 1 rfl) ?_
    refine lv_iload hx hb dX0_firstDay_53 (lv_at hl 3 rfl) ?_
    refine lv_ishr hx hb dX0_firstDay_55 ?_
    refine lv_iconst (v := 1) hx hb dX0_firstDay_56 (by decide) ?_
    refine lv_iand hx hb dX0_firstDay_57 ?_
    refine lv_if_eq (tgt := 66) hx hb dX0_firstDay_58 (by decide) (fun c2 => ?_) (fun c2 => ?_)
    · have h := it_at c2 h
      refine lv_iload hx hb dX0_firstDay_66 (lv_at hl 3 rfl) ?_
      refine lv_iconst (v := 1) hx hb dX0_firstDay_68 (by decide) ?_
      refine lv_iadd hx hb dX0_firstDay_69 ?_
      refine lv_iload hx hb dX0_firstDay_70 (lv_at hl 2 rfl) ?_
      refine lv_icmp_ne (tgt := 79) hx hb dX0_firstDay_72 (by decide) (fun c3 => ?_) (fun c3 => ?_)
      · have h := if_at c3 h
        refine lv_iload hx hb dX0_firstDay_79 (lv_at hl 3 rfl) ?_
        refine lv_iconst (v := 1) hx hb dX0_firstDay_81 (by decide) ?_
        refine lv_iadd hx hb dX0_firstDay_82 ?_
        refine lv_topi (fun x4 ex4 => ?_)
        have h := nm_at ex4 h
        refine lv_istore (lv' := [(6, .int x4), (2, .int v2), (4, .int v4), (5, .int v5), (7, .int v7)]) hx hb dX0_firstDay_83 hl (by decide) rfl (fun ls hl => ?_)
        obtain ⟨x5, ex5⟩ : ∃ z : Int32, z = v7 + (1 : Int32) := ⟨_, rfl⟩
        have h := nm_at ex5 h
        refine lv_iinc (v := x5) (lv' := [(7, .int x5), (6, .int x4), (2, .int v2), (4, .int v4), (5, .int v5)]) hx hb dX0_firstDay_85 hl (k := 4) rfl (by rw [ex5]; rfl) (by decide) rfl (fun ls hl => ?_)
        refine lv_goto (tgt := 44) hx hb dX0_firstDay_88 (by decide) ?_
        exact hB _ _ _ _ _ _ (Option.some.inj h).symm _ _ _ G (lv_sub hl [2, 3, 4, 1, 0] rfl)
      · have h := it_at c3 h
        refine lv_iconst (v := 0) hx hb dX0_firstDay_75 (by decide) ?_
        refine lv_goto (tgt := 83) hx hb dX0_firstDay_76 (by decide) ?_
        refine lv_istore (lv' := [(6, .int (0 : Int32)), (2, .int v2), (4, .int v4), (5, .int v5), (7, .int v7)]) hx hb dX0_firstDay_83 hl (by decide) rfl (fun ls hl => ?_)
        obtain ⟨x6, ex6⟩ : ∃ z : Int32, z = v7 + (1 : Int32) := ⟨_, rfl⟩
        have h := nm_at ex6 h
        refine lv_iinc (v := x6) (lv' := [(7, .int x6), (6, .int (0 : Int32)), (2, .int v2), (4, .int v4), (5, .int v5)]) hx hb dX0_firstDay_85 hl (k := 4) rfl (by rw [ex6]; rfl) (by decide) rfl (fun ls hl => ?_)
        refine lv_goto (tgt := 44) hx hb dX0_firstDay_88 (by decide) ?_
        exact hB _ _ _ _ _ _ (Option.some.inj h).symm _ _ _ G (lv_sub hl [2, 3, 4, 1, 0] rfl)
    · have h := if_at c2 h
      refine lv_iload_n hx hb dX0_firstDay_61 rfl (lv_at hl 0 rfl) ?_
      refine lv_iload hx hb dX0_firstDay_62 (lv_at hl 4 rfl) ?_
      refine lv_iadd hx hb dX0_firstDay_64 ?_
      rw [hR _ _ (Option.some.inj h).symm]
      exact reI X G dX0_firstDay_65
noncomputable def f_X0_firstDay_L44_44s (q : Int32 × Int32 × Int32 × Int32 × Int32 × XS) : Option ((Int32 × Int32 × Int32 × Int32 × Int32 × XS) ⊕ ((Int32 × XS) ⊕ (XS))) := f_X0_firstDay_L44_44 q.1 q.2.1 q.2.2.1 q.2.2.2.1 q.2.2.2.2.1 q.2.2.2.2.2
set_option maxRecDepth 100000 in
set_option maxHeartbeats 4000000 in
theorem w_X0_firstDay_L44_44 (X : cx p s m args meth c cX0_firstDay 8 RX0 (some .int)) (K : kx D cI cZ cQ adK adV A s s.heap) {e0 : (Int32 × XS) ⊕ (XS)} : ∀ (n : Nat) (v2 : Int32) (v4 : Int32) (v5 : Int32) (v6 : Int32) (v7 : Int32) (u : XS) {H : Heap} {locs : List Loc} {ls : Array Slot}, wh f_X0_firstDay_L44_44s n (v2, v4, v5, v6, v7, u) = some e0 → wg D A s.heap H locs (wX cI cZ cQ ad u) → lv_has ls 8 [(2, .int v2), (4, .int v4), (5, .int v5), (6, .int v6), (7, .int v7)] → (∀ (u : XS), e0 = .inr u → ∀ (H : Heap) (locs : List Loc) (ls : Array Slot), wg D A s.heap H locs (wX cI cZ cQ ad u) → lv_has ls 8 [] → W p l e { frames := 0, cells := 0, slots := 0, locals := 0 } s m args below meth c H locs 0 0 Q (F0 m 91 ls [])) → (∀ (r : Int32) (u : XS), e0 = .inl (r, u) → Q = (qI D A (wX cI cZ cQ ad) below args s r u)) → W p l e { frames := 0, cells := 0, slots := 0, locals := 0 } s m args below meth c H locs 0 0 Q (F0 m 44 ls []) := by
  intro n
  induction n with
  | zero => intro v2 v4 v5 v6 v7 u H locs ls h; cases h
  | succ n ih =>
    intro v2 v4 v5 v6 v7 u H locs ls h G hl hX hR
    obtain ⟨q, h1, h2, h3⟩ := wh_at h
    exact b_X0_firstDay_L44_44 X K G hl (show f_X0_firstDay_L44_44 v2 v4 v5 v6 v7 u = some q from h1) (fun b0 b1 b2 b3 b4 b5 ee H locs ls G hl => ih b0 b1 b2 b3 b4 b5 (h2 _ ee) G hl hX hR) (fun z0 ee => hX z0 (h3 _ ee).symm) (fun r u ee => hR r u (h3 _ ee).symm)
noncomputable def f_X0_firstDay (a1 : Int32) (a2 : Int32) (a3 : Int32) (u0 : XS) : Option (Int32 × XS) :=
  if a1 < 0 ∨ 8 ≤ a1.toNatClampNeg then none else
  nmv ((tDays (xT u0)) a1.toNatClampNeg) fun x2 =>
  nmv (tRound (xT u0)) fun x3 =>
  (if x2 = 0 then
    some ((-1 : Int32), u0)
  else
    (if (1 : Int32) ≤ x3 then
      nmv (a2 + a3) fun x6 =>
      if x3 = 0 then none else
      nmv (x6 - x6 / x3 * x3) fun x7 =>
      bne (wl f_X0_firstDay_L44_44s (a2, x2, x3, x7, (0 : Int32), u0)) (fun a => some a) fun b =>
        nmv b fun u10 =>
        some ((-1 : Int32), u10)
    else
      some ((-1 : Int32), u0)))
set_option maxRecDepth 100000 in
set_option maxHeartbeats 4000000 in
theorem c_X0_firstDay {a1 : Int32} {a2 : Int32} {a3 : Int32} {u0 : XS} {r : Int32} {u' : XS} (h : f_X0_firstDay a1 a2 a3 u0 = some (r, u')) : MI l D cI cZ cQ adK adV A yX0_firstDay cX0_firstDay 8 (some .int) { frames := 0, cells := 0, slots := 0, locals := 0 } [.ref (ad 24), .int a1, .int a2, .int a3] (wX cI cZ cQ ad) u0 r u' := by
  unfold f_X0_firstDay at h
  refine entI (by decide) (Nat.le_of_ble_eq_true rfl) (fun p e s m below meth c ls X K G hl => ?_)
  have hl : lv_has ls 8 [(0, .ref (ad 24)), (1, .int a1), (2, .int a2), (3, .int a3)] := hl
  obtain ⟨hx, hb, -⟩ := id X
  generalize hH : s.heap = H at G
  subst hH
  refine lv_aload_n hx hb dX0_firstDay_0 rfl (lv_at hl 0 rfl) ?_
  refine gX_24_0 X K G q_184 dX0_firstDay_1 ?_
  refine gX_1_6 X K G q_123 dX0_firstDay_4 ?_
  refine lv_iload_n hx hb dX0_firstDay_7 rfl (lv_at hl 1 rfl) ?_
  obtain ⟨g1, h⟩ := ck_at h
  refine lX_2 X K G g1 dX0_firstDay_8 ?_
  refine lv_topi (fun x2 ex2 => ?_)
  have h := nm_at ex2 h
  refine lv_istore (lv' := [(4, .int x2), (0, .ref (ad 24)), (1, .int a1), (2, .int a2), (3, .int a3)]) hx hb dX0_firstDay_9 hl (by decide) rfl (fun ls hl => ?_)
  refine lv_aload_n hx hb dX0_firstDay_11 rfl (lv_at hl 1 rfl) ?_
  refine gX_24_0 X K G q_184 dX0_firstDay_12 ?_
  refine gX_1_0 X K G q_102 dX0_firstDay_15 ?_
  refine lv_topi (fun x3 ex3 => ?_)
  have h := nm_at ex3 h
  refine lv_istore (lv' := [(5, .int x3), (4, .int x2), (0, .ref (ad 24)), (1, .int a1), (2, .int a2), (3, .int a3)]) hx hb dX0_firstDay_18 hl (by decide) rfl (fun ls hl => ?_)
  refine lv_iload hx hb dX0_firstDay_20 (lv_at hl 1 rfl) ?_
  refine lv_if_eq (tgt := 31) hx hb dX0_firstDay_22 (by decide) (fun c4 => ?_) (fun c4 => ?_)
  · have h := it_at c4 h
    refine lv_iconst (v := -1) hx hb dX0_firstDay_31 (by decide) ?_
    obtain ⟨rfl, rfl⟩ := pair_at h
    exact reI X G dX0_firstDay_32
  · have h := if_at c4 h
    refine lv_iload hx hb dX0_firstDay_25 (lv_at hl 0 rfl) ?_
    refine lv_iconst (v := 1) hx hb dX0_firstDay_27 (by decide) ?_
    refine lv_icmp_ge (tgt := 33) hx hb dX0_firstDay_28 (by decide) (fun c5 => ?_) (fun c5 => ?_)
    · have h := it_at c5 h
      refine lv_iload_n hx hb dX0_firstDay_33 rfl (lv_at hl 4 rfl) ?_
      refine lv_iload_n hx hb dX0_firstDay_34 rfl (lv_at hl 5 rfl) ?_
      refine lv_iadd hx hb dX0_firstDay_35 ?_
      refine lv_iload hx hb dX0_firstDay_36 (lv_at hl 0 rfl) ?_
      refine nm2 (fun x6 ex6 => ?_)
      have h := nm_at ex6 h
      obtain ⟨g11, h⟩ := ck_at h
      refine lv_irem hx hb dX0_firstDay_38 g11 ?_
      refine lv_topi (fun x7 ex7 => ?_)
      have h := nm_at ex7 h
      refine lv_istore (lv' := [(6, .int x7), (5, .int x3), (4, .int x2), (0, .ref (ad 24)), (1, .int a1), (2, .int a2), (3, .int a3)]) hx hb dX0_firstDay_39 hl (by decide) rfl (fun ls hl => ?_)
      refine lv_iconst (v := 0) hx hb dX0_firstDay_41 (by decide) ?_
      refine lv_istore (lv' := [(7, .int (0 : Int32)), (6, .int x7), (5, .int x3), (4, .int x2), (0, .ref (ad 24)), (1, .int a1), (2, .int a2), (3, .int a3)]) hx hb dX0_firstDay_42 hl (by decide) rfl (fun ls hl => ?_)
      obtain ⟨q9, hq9, ha, hb1⟩ := bne_at h
      obtain ⟨n8, hn8⟩ := wl_iff.mp hq9
      refine w_X0_firstDay_L44_44 X K n8 _ _ _ _ _ _ hn8 G (lv_sub hl [6, 3, 2, 1, 0] rfl) (fun  u10 ee H locs ls G hl => ?_) (fun r u1 ee => by obtain ⟨rfl, rfl⟩ := pair_at (ha _ ee); rfl)
      have h := hb1 _ ee
      clear ee ha hb1 hq9 hn8
      have h := nm_at (x := u10) rfl h
      refine lv_iconst (v := -1) hx hb dX0_firstDay_91 (by decide) ?_
      obtain ⟨rfl, rfl⟩ := pair_at h
      exact reI X G dX0_firstDay_92
    · have h := if_at c5 h
      refine lv_iconst (v := -1) hx hb dX0_firstDay_31 (by decide) ?_
      obtain ⟨rfl, rfl⟩ := pair_at h
      exact reI X G dX0_firstDay_32
noncomputable def f_X6_may (a1 : Int32) (a2 : Int32) (u0 : XS) : Option (Int32 × XS) :=
  bnd (f_X5_hasTool a1 u0) fun r1 u2 =>
  (if r1 = 0 then
    bnd (f_X6_found (0 : Int32) u2) fun r4 u5 =>
    some (r4, u5)
  else
    bnd (f_X6_within a2 (0 : Int32) (999 : Int32) u2) fun r6 u7 =>
    (if r6 = 0 then
      bnd (f_X6_found (0 : Int32) u7) fun r16 u17 =>
      some (r16, u17)
    else
      bnd (f_X0_firstDay a1 a2 (0 : Int32) u7) fun r9 u10 =>
      (if r9 = a2 then
        some ((2 : Int32), u10)
      else
        (if (tNear (xT u10)) < 0 then
          some ((0 : Int32), u10)
        else
          bnd (f_X0_firstDay a1 a2 (tNear (xT u10)) u10) fun r13 u14 =>
          (if r13 = a2 then
            some ((1 : Int32), u14)
          else
            some ((0 : Int32), u14))))))
set_option maxRecDepth 100000 in
set_option maxHeartbeats 4000000 in
theorem c_X6_may {a1 : Int32} {a2 : Int32} {u0 : XS} {r : Int32} {u' : XS} (h : f_X6_may a1 a2 u0 = some (r, u')) : MI l D cI cZ cQ adK adV A yX6_may cX6_may 3 (some .int) { frames := 2, cells := 0, slots := 0, locals := 43 } [.ref (ad 0), .int a1, .int a2] (wX cI cZ cQ ad) u0 r u' := by
  unfold f_X6_may at h
  refine entI (by decide) (Nat.le_of_ble_eq_true rfl) (fun p e s m below meth c ls X K G hl => ?_)
  have hl : lv_has ls 3 [(0, .ref (ad 0)), (1, .int a1), (2, .int a2)] := hl
  obtain ⟨hx, hb, -⟩ := id X
  generalize hH : s.heap = H at G
  subst hH
  refine lv_aload_n hx hb dX6_may_0 rfl (lv_at hl 0 rfl) ?_
  refine gX_0_0 X K G q_300 dX6_may_1 ?_
  refine lv_iload_n hx hb dX6_may_4 rfl (lv_at hl 1 rfl) ?_
  obtain ⟨r1, u2, er1, h⟩ := bnd_at h
  refine cvI (rest := []) X K G (c_X5_hasTool er1) q_531 my_X5_hasTool ⟨rfl, rfl⟩ ⟨Nat.le_of_ble_eq_true rfl, Nat.le_of_ble_eq_true rfl⟩ ⟨Nat.zero_le _, Nat.zero_le _⟩ 1 5 rfl rfl rfl rfl hl.1 rfl (Nat.le_of_ble_eq_true rfl) dX6_may_5 (fun H locs G => ?_)
  clear er1
  refine lv_if_eq (tgt := 22) hx hb dX6_may_8 (by decide) (fun c3 => ?_) (fun c3 => ?_)
  · have h := it_at c3 h
    refine lv_aload_n hx hb dX6_may_22 rfl (lv_at hl 0 rfl) ?_
    refine lv_iconst (v := 0) hx hb dX6_may_23 (by decide) ?_
    obtain ⟨r4, u5, er4, h⟩ := bnd_at h
    refine cvI (rest := []) X K G (c_X6_found er4) q_338 my_X6_found ⟨rfl, rfl⟩ ⟨Nat.le_of_ble_eq_true rfl, Nat.le_of_ble_eq_true rfl⟩ ⟨Nat.zero_le _, Nat.zero_le _⟩ 0 6 rfl rfl rfl rfl hl.1 rfl (Nat.le_of_ble_eq_true rfl) dX6_may_24 (fun H locs G => ?_)
    clear er4
    obtain ⟨rfl, rfl⟩ := pair_at h
    exact reI X G dX6_may_27
  · have h := if_at c3 h
    refine lv_iload_n hx hb dX6_may_11 rfl (lv_at hl 2 rfl) ?_
    refine lv_iconst (v := 0) hx hb dX6_may_12 (by decide) ?_
    refine lv_sipush (v := 999) hx hb dX6_may_13 (by decide) ?_
    obtain ⟨r6, u7, er6, h⟩ := bnd_at h
    refine csI (rest := []) X K G (c_X6_within er6) q_335 my_X6_within ⟨rfl, rfl⟩ ⟨Nat.le_of_ble_eq_true rfl, Nat.le_of_ble_eq_true rfl⟩ ⟨Nat.zero_le _, Nat.zero_le _⟩ rfl hl.1 rfl (Nat.le_of_ble_eq_true rfl) dX6_may_16 (fun H locs G => ?_)
    clear er6
    refine lv_if_ne (tgt := 28) hx hb dX6_may_19 (by decide) (fun c8 => ?_) (fun c8 => ?_)
    · have h := if_at c8 h
      refine lv_aload_n hx hb dX6_may_28 rfl (lv_at hl 0 rfl) ?_
      refine gX_0_4 X K G q_304 dX6_may_29 ?_
      refine lv_iload_n hx hb dX6_may_32 rfl (lv_at hl 1 rfl) ?_
      refine lv_iload_n hx hb dX6_may_33 rfl (lv_at hl 2 rfl) ?_
      refine lv_iconst (v := 0) hx hb dX6_may_34 (by decide) ?_
      obtain ⟨r9, u10, er9, h⟩ := bnd_at h
      refine cvI (rest := []) X K G (c_X0_firstDay er9) q_539 my_X0_firstDay ⟨rfl, rfl⟩ ⟨Nat.le_of_ble_eq_true rfl, Nat.le_of_ble_eq_true rfl⟩ ⟨Nat.zero_le _, Nat.zero_le _⟩ 24 0 rfl rfl rfl rfl hl.1 rfl (Nat.le_of_ble_eq_true rfl) dX6_may_35 (fun H locs G => ?_)
      clear er9
      refine lv_iload_n hx hb dX6_may_38 rfl (lv_at hl 2 rfl) ?_
      refine lv_icmp_ne (tgt := 44) hx hb dX6_may_39 (by decide) (fun c11 => ?_) (fun c11 => ?_)
      · have h := if_at c11 h
        refine lv_aload_n hx hb dX6_may_44 rfl (lv_at hl 0 rfl) ?_
        refine gX_0_0 X K G q_300 dX6_may_45 ?_
        refine gX_1_1 X K G q_109 dX6_may_48 ?_
        refine lv_if_lt (tgt := 78) hx hb dX6_may_51 (by decide) (fun c12 => ?_) (fun c12 => ?_)
        · have h := it_at c12 h
          refine lv_iconst (v := 0) hx hb dX6_may_78 (by decide) ?_
          obtain ⟨rfl, rfl⟩ := pair_at h
          exact reI X G dX6_may_79
        · have h := if_at c12 h
          refine lv_aload_n hx hb dX6_may_54 rfl (lv_at hl 0 rfl) ?_
          refine gX_0_4 X K G q_304 dX6_may_55 ?_
          refine lv_iload_n hx hb dX6_may_58 rfl (lv_at hl 1 rfl) ?_
          refine lv_iload_n hx hb dX6_may_59 rfl (lv_at hl 2 rfl) ?_
          refine lv_aload_n hx hb dX6_may_60 rfl (lv_at hl 0 rfl) ?_
          refine gX_0_0 X K G q_300 dX6_may_61 ?_
          refine gX_1_1 X K G q_109 dX6_may_64 ?_
          obtain ⟨r13, u14, er13, h⟩ := bnd_at h
          refine cvI (rest := []) X K G (c_X0_firstDay er13) q_539 my_X0_firstDay ⟨rfl, rfl⟩ ⟨Nat.le_of_ble_eq_true rfl, Nat.le_of_ble_eq_true rfl⟩ ⟨Nat.zero_le _, Nat.zero_le _⟩ 24 0 rfl rfl rfl rfl hl.1 rfl (Nat.le_of_ble_eq_true rfl) dX6_may_67 (fun H locs G => ?_)
          clear er13
          refine lv_iload_n hx hb dX6_may_70 rfl (lv_at hl 2 rfl) ?_
          refine lv_icmp_ne (tgt := 78) hx hb dX6_may_71 (by decide) (fun c15 => ?_) (fun c15 => ?_)
          · have h := if_at c15 h
            refine lv_iconst (v := 0) hx hb dX6_may_78 (by decide) ?_
            obtain ⟨rfl, rfl⟩ := pair_at h
            exact reI X G dX6_may_79
          · have h := it_at c15 h
            refine lv_iconst (v := 1) hx hb dX6_may_74 (by decide) ?_
            refine lv_goto (tgt := 79) hx hb dX6_may_75 (by decide) ?_
            obtain ⟨rfl, rfl⟩ := pair_at h
            exact reI X G dX6_may_79
      · have h := it_at c11 h
        refine lv_iconst (v := 2) hx hb dX6_may_42 (by decide) ?_
        obtain ⟨rfl, rfl⟩ := pair_at h
        exact reI X G dX6_may_43
    · have h := it_at c8 h
      refine lv_aload_n hx hb dX6_may_22 rfl (lv_at hl 0 rfl) ?_
      refine lv_iconst (v := 0) hx hb dX6_may_23 (by decide) ?_
      obtain ⟨r16, u17, er16, h⟩ := bnd_at h
      refine cvI (rest := []) X K G (c_X6_found er16) q_338 my_X6_found ⟨rfl, rfl⟩ ⟨Nat.le_of_ble_eq_true rfl, Nat.le_of_ble_eq_true rfl⟩ ⟨Nat.zero_le _, Nat.zero_le _⟩ 0 6 rfl rfl rfl rfl hl.1 rfl (Nat.le_of_ble_eq_true rfl) dX6_may_24 (fun H locs G => ?_)
      clear er16
      obtain ⟨rfl, rfl⟩ := pair_at h
      exact reI X G dX6_may_27
noncomputable def f_X5_addThing (a1 : Int32) (u0 : XS) : Option (Int32 × XS) :=
  (if (tThings (xT u0)) < (8 : Int32) then
    nmv (tThings (xT u0)) fun x2 =>
    if x2 < 0 ∨ 8 ≤ x2.toNatClampNeg then none else
    nmv (sT u0 (uKinds (xT u0) (upd (tKinds (xT u0)) x2.toNatClampNeg a1))) fun u4 =>
    nmv (tThings (xT u4)) fun x5 =>
    if x5 < 0 ∨ 8 ≤ x5.toNatClampNeg then none else
    nmv (sT u4 (uCounts (xT u4) (upd (tCounts (xT u4)) x5.toNatClampNeg (0 : Int32)))) fun u7 =>
    nmv ((tThings (xT u7)) + (1 : Int32)) fun x8 =>
    nmv (sT u7 (uThings (xT u7) x8)) fun u9 =>
    some ((tThings (xT u9)) - (1 : Int32), u9)
  else
    some ((-1 : Int32), u0))
set_option maxRecDepth 100000 in
set_option maxHeartbeats 4000000 in
theorem c_X5_addThing {a1 : Int32} {u0 : XS} {r : Int32} {u' : XS} (h : f_X5_addThing a1 u0 = some (r, u')) : MI l D cI cZ cQ adK adV A yX5_addThing cX5_addThing 2 (some .int) { frames := 0, cells := 0, slots := 0, locals := 0 } [.ref (ad 1), .int a1] (wX cI cZ cQ ad) u0 r u' := by
  unfold f_X5_addThing at h
  refine entI (by decide) (Nat.le_of_ble_eq_true rfl) (fun p e s m below meth c ls X K G hl => ?_)
  have hl : lv_has ls 2 [(0, .ref (ad 1)), (1, .int a1)] := hl
  obtain ⟨hx, hb, -⟩ := id X
  generalize hH : s.heap = H at G
  subst hH
  refine lv_aload_n hx hb dX5_addThing_0 rfl (lv_at hl 0 rfl) ?_
  refine gX_1_4 X K G q_115 dX5_addThing_1 ?_
  refine lv_bipush (v := 8) hx hb dX5_addThing_4 (by decide) ?_
  refine lv_icmp_lt (tgt := 11) hx hb dX5_addThing_6 (by decide) (fun c1 => ?_) (fun c1 => ?_)
  · have h := it_at c1 h
    refine lv_aload_n hx hb dX5_addThing_11 rfl (lv_at hl 0 rfl) ?_
    refine gX_1_7 X K G q_125 dX5_addThing_12 ?_
    refine lv_aload_n hx hb dX5_addThing_15 rfl (lv_at hl 0 rfl) ?_
    refine gX_1_4 X K G q_115 dX5_addThing_16 ?_
    refine lv_iload_n hx hb dX5_addThing_19 rfl (lv_at hl 1 rfl) ?_
    refine nm2 (fun x2 ex2 => ?_)
    have h := nm_at ex2 h
    obtain ⟨g3, h⟩ := ck_at h
    refine aX_3 X K G g3 dX5_addThing_20 (fun H locs G => ?_)
    obtain ⟨u4, eu4⟩ : ∃ z : XS, z = sT u0 (uKinds (xT u0) (upd (tKinds (xT u0)) x2.toNatClampNeg a1)) := ⟨_, rfl⟩
    have G : wg D A s.heap H locs (wX cI cZ cQ ad u4) := by rw [eu4]; exact G
    have h := nm_at eu4 h
    clear eu4
    refine lv_aload_n hx hb dX5_addThing_21 rfl (lv_at hl 0 rfl) ?_
    refine gX_1_8 X K G q_128 dX5_addThing_22 ?_
    refine lv_aload_n hx hb dX5_addThing_25 rfl (lv_at hl 0 rfl) ?_
    refine gX_1_4 X K G q_115 dX5_addThing_26 ?_
    refine lv_iconst (v := 0) hx hb dX5_addThing_29 (by decide) ?_
    refine nm2 (fun x5 ex5 => ?_)
    have h := nm_at ex5 h
    obtain ⟨g6, h⟩ := ck_at h
    refine aX_4 X K G g6 dX5_addThing_30 (fun H locs G => ?_)
    obtain ⟨u7, eu7⟩ : ∃ z : XS, z = sT u4 (uCounts (xT u4) (upd (tCounts (xT u4)) x5.toNatClampNeg (0 : Int32))) := ⟨_, rfl⟩
    have G : wg D A s.heap H locs (wX cI cZ cQ ad u7) := by rw [eu7]; exact G
    have h := nm_at eu7 h
    clear eu7
    refine lv_aload_n hx hb dX5_addThing_31 rfl (lv_at hl 0 rfl) ?_
    refine lv_dup hx hb dX5_addThing_32 rfl ?_
    refine gX_1_4 X K G q_115 dX5_addThing_33 ?_
    refine lv_iconst (v := 1) hx hb dX5_addThing_36 (by decide) ?_
    refine lv_iadd hx hb dX5_addThing_37 ?_
    refine lv_topi (fun x8 ex8 => ?_)
    have h := nm_at ex8 h
    refine pX_1_4 X K G q_115 dX5_addThing_38 (fun H locs G => ?_)
    obtain ⟨u9, eu9⟩ : ∃ z : XS, z = sT u7 (uThings (xT u7) x8) := ⟨_, rfl⟩
    have G : wg D A s.heap H locs (wX cI cZ cQ ad u9) := by rw [eu9]; exact G
    have h := nm_at eu9 h
    clear eu9
    refine lv_aload_n hx hb dX5_addThing_41 rfl (lv_at hl 0 rfl) ?_
    refine gX_1_4 X K G q_115 dX5_addThing_42 ?_
    refine lv_iconst (v := 1) hx hb dX5_addThing_45 (by decide) ?_
    refine lv_isub hx hb dX5_addThing_46 ?_
    obtain ⟨rfl, rfl⟩ := pair_at h
    exact reI X G dX5_addThing_47
  · have h := if_at c1 h
    refine lv_iconst (v := -1) hx hb dX5_addThing_9 (by decide) ?_
    obtain ⟨rfl, rfl⟩ := pair_at h
    exact reI X G dX5_addThing_10
noncomputable def f_X5_hasThing (a1 : Int32) (u0 : XS) : Option (Int32 × XS) :=
  bnd (f_X6_within a1 (0 : Int32) ((tThings (xT u0)) - (1 : Int32)) u0) fun r1 u2 =>
  if ¬ (r1 = 0 ∨ r1 = 1) then none else
  some (r1, u2)
set_option maxRecDepth 100000 in
set_option maxHeartbeats 4000000 in
theorem c_X5_hasThing {a1 : Int32} {u0 : XS} {r : Int32} {u' : XS} (h : f_X5_hasThing a1 u0 = some (r, u')) : MI l D cI cZ cQ adK adV A yX5_hasThing cX5_hasThing 2 (some .boolean) { frames := 1, cells := 0, slots := 0, locals := 22 } [.ref (ad 1), .int a1] (wX cI cZ cQ ad) u0 r u' := by
  unfold f_X5_hasThing at h
  refine entI (by decide) (Nat.le_of_ble_eq_true rfl) (fun p e s m below meth c ls X K G hl => ?_)
  have hl : lv_has ls 2 [(0, .ref (ad 1)), (1, .int a1)] := hl
  obtain ⟨hx, hb, -⟩ := id X
  generalize hH : s.heap = H at G
  subst hH
  refine lv_iload_n hx hb dX5_hasThing_0 rfl (lv_at hl 1 rfl) ?_
  refine lv_iconst (v := 0) hx hb dX5_hasThing_1 (by decide) ?_
  refine lv_aload_n hx hb dX5_hasThing_2 rfl (lv_at hl 0 rfl) ?_
  refine gX_1_4 X K G q_115 dX5_hasThing_3 ?_
  refine lv_iconst (v := 1) hx hb dX5_hasThing_6 (by decide) ?_
  refine lv_isub hx hb dX5_hasThing_7 ?_
  obtain ⟨r1, u2, er1, h⟩ := bnd_at h
  refine cnI (rest := []) X K G (c_X6_within er1) K.2.1.2.1 my_X6_within ⟨rfl, rfl⟩ ⟨Nat.le_of_ble_eq_true rfl, Nat.le_of_ble_eq_true rfl⟩ ⟨Nat.zero_le _, Nat.zero_le _⟩ rfl hl.1 rfl (Nat.le_of_ble_eq_true rfl) dX5_hasThing_8 (fun H locs G => ?_)
  clear er1
  obtain ⟨g3, h⟩ := ck_at h
  obtain ⟨rfl, rfl⟩ := pair_at h
  exact reZ X G (Decidable.not_not.mp g3) dX5_hasThing_11
noncomputable def f_X5_putStepNumber (a1 : Int32) (a2 : Int32) (a3 : Int32) (a4 : Int32) (u0 : XS) : Option (Int32 × XS) :=
  nmv ((((a1 * (8 : Int32)) + a2) * (3 : Int32)) + a3) fun x1 =>
  if x1 < 0 ∨ 192 ≤ x1.toNatClampNeg then none else
  nmv (sT u0 (uNums (xT u0) (upd (tNums (xT u0)) x1.toNatClampNeg a4))) fun u3 =>
  some ((0 : Int32), u3)
set_option maxRecDepth 100000 in
set_option maxHeartbeats 4000000 in
theorem c_X5_putStepNumber {a1 : Int32} {a2 : Int32} {a3 : Int32} {a4 : Int32} {u0 : XS} {r : Int32} {u' : XS} (h : f_X5_putStepNumber a1 a2 a3 a4 u0 = some (r, u')) : MV l D cI cZ cQ adK adV A yX5_putStepNumber cX5_putStepNumber 5 { frames := 0, cells := 0, slots := 0, locals := 0 } [.ref (ad 1), .int a1, .int a2, .int a3, .int a4] (wX cI cZ cQ ad) u0 u' := by
  unfold f_X5_putStepNumber at h
  refine entV (by decide) (Nat.le_of_ble_eq_true rfl) (fun p e s m below meth c ls X K G hl => ?_)
  have hl : lv_has ls 5 [(0, .ref (ad 1)), (1, .int a1), (2, .int a2), (3, .int a3), (4, .int a4)] := hl
  obtain ⟨hx, hb, -⟩ := id X
  generalize hH : s.heap = H at G
  subst hH
  refine lv_aload_n hx hb dX5_putStepNumber_0 rfl (lv_at hl 0 rfl) ?_
  refine gX_1_9 X K G q_132 dX5_putStepNumber_1 ?_
  refine lv_iload_n hx hb dX5_putStepNumber_4 rfl (lv_at hl 1 rfl) ?_
  refine lv_bipush (v := 8) hx hb dX5_putStepNumber_5 (by decide) ?_
  refine lv_imul hx hb dX5_putStepNumber_7 ?_
  refine lv_iload_n hx hb dX5_putStepNumber_8 rfl (lv_at hl 2 rfl) ?_
  refine lv_iadd hx hb dX5_putStepNumber_9 ?_
  refine lv_iconst (v := 3) hx hb dX5_putStepNumber_10 (by decide) ?_
  refine lv_imul hx hb dX5_putStepNumber_11 ?_
  refine lv_iload_n hx hb dX5_putStepNumber_12 rfl (lv_at hl 3 rfl) ?_
  refine lv_iadd hx hb dX5_putStepNumber_13 ?_
  refine lv_iload hx hb dX5_putStepNumber_14 (lv_at hl 4 rfl) ?_
  refine nm2 (fun x1 ex1 => ?_)
  have h := nm_at ex1 h
  obtain ⟨g2, h⟩ := ck_at h
  refine aX_5 X K G g2 dX5_putStepNumber_16 (fun H locs G => ?_)
  obtain ⟨u3, eu3⟩ : ∃ z : XS, z = sT u0 (uNums (xT u0) (upd (tNums (xT u0)) x1.toNatClampNeg a4)) := ⟨_, rfl⟩
  have G : wg D A s.heap H locs (wX cI cZ cQ ad u3) := by rw [eu3]; exact G
  have h := nm_at eu3 h
  clear eu3
  obtain ⟨rfl, rfl⟩ := pair_at h
  exact reV X G dX5_putStepNumber_17
noncomputable def f_X5_addStep (a1 : Int32) (a2 : Int32) (a3 : Int32) (a4 : Int32) (u0 : XS) : Option (Int32 × XS) :=
  bnd (f_X5_hasThing a1 u0) fun r1 u2 =>
  (if r1 = 0 then
    some ((-1 : Int32), u2)
  else
    if a1 < 0 ∨ 8 ≤ a1.toNatClampNeg then none else
    (if ((tCounts (xT u2)) a1.toNatClampNeg) < (8 : Int32) then
      if a1 < 0 ∨ 8 ≤ a1.toNatClampNeg then none else
      nmv ((tCounts (xT u2)) a1.toNatClampNeg) fun x7 =>
      bnd (f_X5_putStepNumber a1 x7 (0 : Int32) a2 u2) fun r8 u9 =>
      bnd (f_X5_putStepNumber a1 x7 (1 : Int32) a3 u9) fun r10 u11 =>
      bnd (f_X5_putStepNumber a1 x7 (2 : Int32) a4 u11) fun r12 u13 =>
      nmv (x7 + (1 : Int32)) fun x14 =>
      if a1 < 0 ∨ 8 ≤ a1.toNatClampNeg then none else
      nmv (sT u13 (uCounts (xT u13) (upd (tCounts (xT u13)) a1.toNatClampNeg x14))) fun u16 =>
      some (x7 + (1 : Int32), u16)
    else
      some ((-1 : Int32), u2)))
set_option maxRecDepth 100000 in
set_option maxHeartbeats 4000000 in
theorem c_X5_addStep {a1 : Int32} {a2 : Int32} {a3 : Int32} {a4 : Int32} {u0 : XS} {r : Int32} {u' : XS} (h : f_X5_addStep a1 a2 a3 a4 u0 = some (r, u')) : MI l D cI cZ cQ adK adV A yX5_addStep cX5_addStep 6 (some .int) { frames := 2, cells := 0, slots := 0, locals := 43 } [.ref (ad 1), .int a1, .int a2, .int a3, .int a4] (wX cI cZ cQ ad) u0 r u' := by
  unfold f_X5_addStep at h
  refine entI (by decide) (Nat.le_of_ble_eq_true rfl) (fun p e s m below meth c ls X K G hl => ?_)
  have hl : lv_has ls 6 [(0, .ref (ad 1)), (1, .int a1), (2, .int a2), (3, .int a3), (4, .int a4)] := hl
  obtain ⟨hx, hb, -⟩ := id X
  generalize hH : s.heap = H at G
  subst hH
  refine lv_aload_n hx hb dX5_addStep_0 rfl (lv_at hl 0 rfl) ?_
  refine lv_iload_n hx hb dX5_addStep_1 rfl (lv_at hl 1 rfl) ?_
  obtain ⟨r1, u2, er1, h⟩ := bnd_at h
  refine cvI (rest := []) X K G (c_X5_hasThing er1) q_504 my_X5_hasThing ⟨rfl, rfl⟩ ⟨Nat.le_of_ble_eq_true rfl, Nat.le_of_ble_eq_true rfl⟩ ⟨Nat.zero_le _, Nat.zero_le _⟩ 1 5 rfl rfl rfl rfl hl.1 rfl (Nat.le_of_ble_eq_true rfl) dX5_addStep_2 (fun H locs G => ?_)
  clear er1
  refine lv_if_eq (tgt := 19) hx hb dX5_addStep_5 (by decide) (fun c3 => ?_) (fun c3 => ?_)
  · have h := it_at c3 h
    refine lv_iconst (v := -1) hx hb dX5_addStep_19 (by decide) ?_
    obtain ⟨rfl, rfl⟩ := pair_at h
    exact reI X G dX5_addStep_20
  · have h := if_at c3 h
    refine lv_aload_n hx hb dX5_addStep_8 rfl (lv_at hl 0 rfl) ?_
    refine gX_1_8 X K G q_128 dX5_addStep_9 ?_
    refine lv_iload_n hx hb dX5_addStep_12 rfl (lv_at hl 1 rfl) ?_
    obtain ⟨g4, h⟩ := ck_at h
    refine lX_4 X K G g4 dX5_addStep_13 ?_
    refine lv_bipush (v := 8) hx hb dX5_addStep_14 (by decide) ?_
    refine lv_icmp_lt (tgt := 21) hx hb dX5_addStep_16 (by decide) (fun c5 => ?_) (fun c5 => ?_)
    · have h := it_at c5 h
      refine lv_aload_n hx hb dX5_addStep_21 rfl (lv_at hl 0 rfl) ?_
      refine gX_1_8 X K G q_128 dX5_addStep_22 ?_
      refine lv_iload_n hx hb dX5_addStep_25 rfl (lv_at hl 1 rfl) ?_
      obtain ⟨g6, h⟩ := ck_at h
      refine lX_4 X K G g6 dX5_addStep_26 ?_
      refine lv_topi (fun x7 ex7 => ?_)
      have h := nm_at ex7 h
      refine lv_istore (lv' := [(5, .int x7), (0, .ref (ad 1)), (1, .int a1), (2, .int a2), (3, .int a3), (4, .int a4)]) hx hb dX5_addStep_27 hl (by decide) rfl (fun ls hl => ?_)
      refine lv_aload_n hx hb dX5_addStep_29 rfl (lv_at hl 1 rfl) ?_
      refine lv_iload_n hx hb dX5_addStep_30 rfl (lv_at hl 2 rfl) ?_
      refine lv_iload hx hb dX5_addStep_31 (lv_at hl 0 rfl) ?_
      refine lv_iconst (v := 0) hx hb dX5_addStep_33 (by decide) ?_
      refine lv_iload_n hx hb dX5_addStep_34 rfl (lv_at hl 3 rfl) ?_
      obtain ⟨r8, u9, er8, h⟩ := bnd_at h
      refine cvV (rest := []) X K G (c_X5_putStepNumber er8) q_509 my_X5_putStepNumber ⟨rfl, rfl⟩ ⟨Nat.le_of_ble_eq_true rfl, Nat.le_of_ble_eq_true rfl⟩ ⟨Nat.zero_le _, Nat.zero_le _⟩ 1 5 rfl rfl rfl rfl hl.1 rfl (Nat.le_of_ble_eq_true rfl) dX5_addStep_35 (fun H locs G => ?_)
      clear er8
      refine lv_aload_n hx hb dX5_addStep_38 rfl (lv_at hl 1 rfl) ?_
      refine lv_iload_n hx hb dX5_addStep_39 rfl (lv_at hl 2 rfl) ?_
      refine lv_iload hx hb dX5_addStep_40 (lv_at hl 0 rfl) ?_
      refine lv_iconst (v := 1) hx hb dX5_addStep_42 (by decide) ?_
      refine lv_iload_n hx hb dX5_addStep_43 rfl (lv_at hl 4 rfl) ?_
      obtain ⟨r10, u11, er10, h⟩ := bnd_at h
      refine cvV (rest := []) X K G (c_X5_putStepNumber er10) q_509 my_X5_putStepNumber ⟨rfl, rfl⟩ ⟨Nat.le_of_ble_eq_true rfl, Nat.le_of_ble_eq_true rfl⟩ ⟨Nat.zero_le _, Nat.zero_le _⟩ 1 5 rfl rfl rfl rfl hl.1 rfl (Nat.le_of_ble_eq_true rfl) dX5_addStep_44 (fun H locs G => ?_)
      clear er10
      refine lv_aload_n hx hb dX5_addStep_47 rfl (lv_at hl 1 rfl) ?_
      refine lv_iload_n hx hb dX5_addStep_48 rfl (lv_at hl 2 rfl) ?_
      refine lv_iload hx hb dX5_addStep_49 (lv_at hl 0 rfl) ?_
      refine lv_iconst (v := 2) hx hb dX5_addStep_51 (by decide) ?_
      refine lv_iload hx hb dX5_addStep_52 (lv_at hl 5 rfl) ?_
      obtain ⟨r12, u13, er12, h⟩ := bnd_at h
      refine cvV (rest := []) X K G (c_X5_putStepNumber er12) q_509 my_X5_putStepNumber ⟨rfl, rfl⟩ ⟨Nat.le_of_ble_eq_true rfl, Nat.le_of_ble_eq_true rfl⟩ ⟨Nat.zero_le _, Nat.zero_le _⟩ 1 5 rfl rfl rfl rfl hl.1 rfl (Nat.le_of_ble_eq_true rfl) dX5_addStep_54 (fun H locs G => ?_)
      clear er12
      refine lv_aload_n hx hb dX5_addStep_57 rfl (lv_at hl 1 rfl) ?_
      refine gX_1_8 X K G q_128 dX5_addStep_58 ?_
      refine lv_iload_n hx hb dX5_addStep_61 rfl (lv_at hl 2 rfl) ?_
      refine lv_iload hx hb dX5_addStep_62 (lv_at hl 0 rfl) ?_
      refine lv_iconst (v := 1) hx hb dX5_addStep_64 (by decide) ?_
      refine lv_iadd hx hb dX5_addStep_65 ?_
      refine lv_topi (fun x14 ex14 => ?_)
      have h := nm_at ex14 h
      obtain ⟨g15, h⟩ := ck_at h
      refine aX_4 X K G g15 dX5_addStep_66 (fun H locs G => ?_)
      obtain ⟨u16, eu16⟩ : ∃ z : XS, z = sT u13 (uCounts (xT u13) (upd (tCounts (xT u13)) a1.toNatClampNeg x14)) := ⟨_, rfl⟩
      have G : wg D A s.heap H locs (wX cI cZ cQ ad u16) := by rw [eu16]; exact G
      have h := nm_at eu16 h
      clear eu16
      refine lv_iload hx hb dX5_addStep_67 (lv_at hl 0 rfl) ?_
      refine lv_iconst (v := 1) hx hb dX5_addStep_69 (by decide) ?_
      refine lv_iadd hx hb dX5_addStep_70 ?_
      obtain ⟨rfl, rfl⟩ := pair_at h
      exact reI X G dX5_addStep_71
    · have h := if_at c5 h
      refine lv_iconst (v := -1) hx hb dX5_addStep_19 (by decide) ?_
      obtain ⟨rfl, rfl⟩ := pair_at h
      exact reI X G dX5_addStep_20
noncomputable def f_X6_thing (a1 : Int32) (a2 : Int32) (a3 : Int32) (u0 : XS) : Option (Int32 × XS) :=
  bnd (f_X6_within a1 (0 : Int32) (6 : Int32) u0) fun r1 u2 =>
  (if r1 = 0 then
    bnd (f_X6_found (0 : Int32) u2) fun r4 u5 =>
    some (r4, u5)
  else
    bnd (f_X5_hasTool a2 u2) fun r6 u7 =>
    (if r6 = 0 then
      bnd (f_X6_found (0 : Int32) u7) fun r9 u10 =>
      some (r9, u10)
    else
      bnd (f_X6_within a3 (1 : Int32) (8 : Int32) u7) fun r11 u12 =>
      (if r11 = 0 then
        bnd (f_X6_found (0 : Int32) u12) fun r21 u22 =>
        some (r21, u22)
      else
        (if (tThings (xT u12)) < (8 : Int32) then
          bnd (f_X5_addThing a1 u12) fun r15 u16 =>
          bnd (f_X5_addStep r15 a2 a3 (99 : Int32) u16) fun r17 u18 =>
          some (r15, u18)
        else
          bnd (f_X6_found (1 : Int32) u12) fun r19 u20 =>
          some (r19, u20)))))
set_option maxRecDepth 100000 in
set_option maxHeartbeats 4000000 in
theorem c_X6_thing {a1 : Int32} {a2 : Int32} {a3 : Int32} {u0 : XS} {r : Int32} {u' : XS} (h : f_X6_thing a1 a2 a3 u0 = some (r, u')) : MI l D cI cZ cQ adK adV A yX6_thing cX6_thing 5 (some .int) { frames := 3, cells := 0, slots := 0, locals := 68 } [.ref (ad 0), .int a1, .int a2, .int a3] (wX cI cZ cQ ad) u0 r u' := by
  unfold f_X6_thing at h
  refine entI (by decide) (Nat.le_of_ble_eq_true rfl) (fun p e s m below meth c ls X K G hl => ?_)
  have hl : lv_has ls 5 [(0, .ref (ad 0)), (1, .int a1), (2, .int a2), (3, .int a3)] := hl
  obtain ⟨hx, hb, -⟩ := id X
  generalize hH : s.heap = H at G
  subst hH
  refine lv_iload_n hx hb dX6_thing_0 rfl (lv_at hl 1 rfl) ?_
  refine lv_iconst (v := 0) hx hb dX6_thing_1 (by decide) ?_
  refine lv_bipush (v := 6) hx hb dX6_thing_2 (by decide) ?_
  obtain ⟨r1, u2, er1, h⟩ := bnd_at h
  refine csI (rest := []) X K G (c_X6_within er1) q_335 my_X6_within ⟨rfl, rfl⟩ ⟨Nat.le_of_ble_eq_true rfl, Nat.le_of_ble_eq_true rfl⟩ ⟨Nat.zero_le _, Nat.zero_le _⟩ rfl hl.1 rfl (Nat.le_of_ble_eq_true rfl) dX6_thing_4 (fun H locs G => ?_)
  clear er1
  refine lv_if_eq (tgt := 31) hx hb dX6_thing_7 (by decide) (fun c3 => ?_) (fun c3 => ?_)
  · have h := it_at c3 h
    refine lv_aload_n hx hb dX6_thing_31 rfl (lv_at hl 0 rfl) ?_
    refine lv_iconst (v := 0) hx hb dX6_thing_32 (by decide) ?_
    obtain ⟨r4, u5, er4, h⟩ := bnd_at h
    refine cvI (rest := []) X K G (c_X6_found er4) q_338 my_X6_found ⟨rfl, rfl⟩ ⟨Nat.le_of_ble_eq_true rfl, Nat.le_of_ble_eq_true rfl⟩ ⟨Nat.zero_le _, Nat.zero_le _⟩ 0 6 rfl rfl rfl rfl hl.1 rfl (Nat.le_of_ble_eq_true rfl) dX6_thing_33 (fun H locs G => ?_)
    clear er4
    obtain ⟨rfl, rfl⟩ := pair_at h
    exact reI X G dX6_thing_36
  · have h := if_at c3 h
    refine lv_aload_n hx hb dX6_thing_10 rfl (lv_at hl 0 rfl) ?_
    refine gX_0_0 X K G q_300 dX6_thing_11 ?_
    refine lv_iload_n hx hb dX6_thing_14 rfl (lv_at hl 2 rfl) ?_
    obtain ⟨r6, u7, er6, h⟩ := bnd_at h
    refine cvI (rest := []) X K G (c_X5_hasTool er6) q_531 my_X5_hasTool ⟨rfl, rfl⟩ ⟨Nat.le_of_ble_eq_true rfl, Nat.le_of_ble_eq_true rfl⟩ ⟨Nat.zero_le _, Nat.zero_le _⟩ 1 5 rfl rfl rfl rfl hl.1 rfl (Nat.le_of_ble_eq_true rfl) dX6_thing_15 (fun H locs G => ?_)
    clear er6
    refine lv_if_eq (tgt := 31) hx hb dX6_thing_18 (by decide) (fun c8 => ?_) (fun c8 => ?_)
    · have h := it_at c8 h
      refine lv_aload_n hx hb dX6_thing_31 rfl (lv_at hl 0 rfl) ?_
      refine lv_iconst (v := 0) hx hb dX6_thing_32 (by decide) ?_
      obtain ⟨r9, u10, er9, h⟩ := bnd_at h
      refine cvI (rest := []) X K G (c_X6_found er9) q_338 my_X6_found ⟨rfl, rfl⟩ ⟨Nat.le_of_ble_eq_true rfl, Nat.le_of_ble_eq_true rfl⟩ ⟨Nat.zero_le _, Nat.zero_le _⟩ 0 6 rfl rfl rfl rfl hl.1 rfl (Nat.le_of_ble_eq_true rfl) dX6_thing_33 (fun H locs G => ?_)
      clear er9
      obtain ⟨rfl, rfl⟩ := pair_at h
      exact reI X G dX6_thing_36
    · have h := if_at c8 h
      refine lv_iload_n hx hb dX6_thing_21 rfl (lv_at hl 3 rfl) ?_
      refine lv_iconst (v := 1) hx hb dX6_thing_22 (by decide) ?_
      refine lv_bipush (v := 8) hx hb dX6_thing_23 (by decide) ?_
      obtain ⟨r11, u12, er11, h⟩ := bnd_at h
      refine csI (rest := []) X K G (c_X6_within er11) q_335 my_X6_within ⟨rfl, rfl⟩ ⟨Nat.le_of_ble_eq_true rfl, Nat.le_of_ble_eq_true rfl⟩ ⟨Nat.zero_le _, Nat.zero_le _⟩ rfl hl.1 rfl (Nat.le_of_ble_eq_true rfl) dX6_thing_25 (fun H locs G => ?_)
      clear er11
      refine lv_if_ne (tgt := 37) hx hb dX6_thing_28 (by decide) (fun c13 => ?_) (fun c13 => ?_)
      · have h := if_at c13 h
        refine lv_aload_n hx hb dX6_thing_37 rfl (lv_at hl 0 rfl) ?_
        refine gX_0_0 X K G q_300 dX6_thing_38 ?_
        refine gX_1_4 X K G q_117 dX6_thing_41 ?_
        refine lv_bipush (v := 8) hx hb dX6_thing_44 (by decide) ?_
        refine lv_icmp_lt (tgt := 55) hx hb dX6_thing_46 (by decide) (fun c14 => ?_) (fun c14 => ?_)
        · have h := it_at c14 h
          refine lv_aload_n hx hb dX6_thing_55 rfl (lv_at hl 0 rfl) ?_
          refine gX_0_0 X K G q_300 dX6_thing_56 ?_
          refine lv_iload_n hx hb dX6_thing_59 rfl (lv_at hl 1 rfl) ?_
          obtain ⟨r15, u16, er15, h⟩ := bnd_at h
          refine cvI (rest := []) X K G (c_X5_addThing er15) q_547 my_X5_addThing ⟨rfl, rfl⟩ ⟨Nat.le_of_ble_eq_true rfl, Nat.le_of_ble_eq_true rfl⟩ ⟨Nat.zero_le _, Nat.zero_le _⟩ 1 5 rfl rfl rfl rfl hl.1 rfl (Nat.le_of_ble_eq_true rfl) dX6_thing_60 (fun H locs G => ?_)
          clear er15
          refine lv_istore (lv' := [(4, .int r15), (0, .ref (ad 0)), (1, .int a1), (2, .int a2), (3, .int a3)]) hx hb dX6_thing_63 hl (by decide) rfl (fun ls hl => ?_)
          refine lv_aload_n hx hb dX6_thing_65 rfl (lv_at hl 1 rfl) ?_
          refine gX_0_0 X K G q_300 dX6_thing_66 ?_
          refine lv_iload hx hb dX6_thing_69 (lv_at hl 0 rfl) ?_
          refine lv_iload_n hx hb dX6_thing_71 rfl (lv_at hl 3 rfl) ?_
          refine lv_iload_n hx hb dX6_thing_72 rfl (lv_at hl 4 rfl) ?_
          refine lv_bipush (v := 99) hx hb dX6_thing_73 (by decide) ?_
          obtain ⟨r17, u18, er17, h⟩ := bnd_at h
          refine cvI (rest := []) X K G (c_X5_addStep er17) q_548 my_X5_addStep ⟨rfl, rfl⟩ ⟨Nat.le_of_ble_eq_true rfl, Nat.le_of_ble_eq_true rfl⟩ ⟨Nat.zero_le _, Nat.zero_le _⟩ 1 5 rfl rfl rfl rfl hl.1 rfl (Nat.le_of_ble_eq_true rfl) dX6_thing_75 (fun H locs G => ?_)
          clear er17
          refine lv_pop hx hb dX6_thing_78 rfl ?_
          refine lv_iload hx hb dX6_thing_79 (lv_at hl 0 rfl) ?_
          obtain ⟨rfl, rfl⟩ := pair_at h
          exact reI X G dX6_thing_81
        · have h := if_at c14 h
          refine lv_aload_n hx hb dX6_thing_49 rfl (lv_at hl 0 rfl) ?_
          refine lv_iconst (v := 1) hx hb dX6_thing_50 (by decide) ?_
          obtain ⟨r19, u20, er19, h⟩ := bnd_at h
          refine cvI (rest := []) X K G (c_X6_found er19) q_338 my_X6_found ⟨rfl, rfl⟩ ⟨Nat.le_of_ble_eq_true rfl, Nat.le_of_ble_eq_true rfl⟩ ⟨Nat.zero_le _, Nat.zero_le _⟩ 0 6 rfl rfl rfl rfl hl.1 rfl (Nat.le_of_ble_eq_true rfl) dX6_thing_51 (fun H locs G => ?_)
          clear er19
          obtain ⟨rfl, rfl⟩ := pair_at h
          exact reI X G dX6_thing_54
      · have h := it_at c13 h
        refine lv_aload_n hx hb dX6_thing_31 rfl (lv_at hl 0 rfl) ?_
        refine lv_iconst (v := 0) hx hb dX6_thing_32 (by decide) ?_
        obtain ⟨r21, u22, er21, h⟩ := bnd_at h
        refine cvI (rest := []) X K G (c_X6_found er21) q_338 my_X6_found ⟨rfl, rfl⟩ ⟨Nat.le_of_ble_eq_true rfl, Nat.le_of_ble_eq_true rfl⟩ ⟨Nat.zero_le _, Nat.zero_le _⟩ 0 6 rfl rfl rfl rfl hl.1 rfl (Nat.le_of_ble_eq_true rfl) dX6_thing_33 (fun H locs G => ?_)
        clear er21
        obtain ⟨rfl, rfl⟩ := pair_at h
        exact reI X G dX6_thing_36
noncomputable def f_X6_step (a1 : Int32) (a2 : Int32) (a3 : Int32) (a4 : Int32) (u0 : XS) : Option (Int32 × XS) :=
  bnd (f_X5_hasThing a1 u0) fun r1 u2 =>
  (if r1 = 0 then
    bnd (f_X6_found (0 : Int32) u2) fun r4 u5 =>
    some (r4, u5)
  else
    bnd (f_X5_hasTool a2 u2) fun r6 u7 =>
    (if r6 = 0 then
      bnd (f_X6_found (0 : Int32) u7) fun r9 u10 =>
      some (r9, u10)
    else
      bnd (f_X6_within a3 (1 : Int32) (8 : Int32) u7) fun r11 u12 =>
      (if r11 = 0 then
        bnd (f_X6_found (0 : Int32) u12) fun r14 u15 =>
        some (r14, u15)
      else
        bnd (f_X6_within a4 (0 : Int32) (99 : Int32) u12) fun r16 u17 =>
        (if r16 = 0 then
          bnd (f_X6_found (0 : Int32) u17) fun r25 u26 =>
          some (r25, u26)
        else
          if a1 < 0 ∨ 8 ≤ a1.toNatClampNeg then none else
          (if ((tCounts (xT u17)) a1.toNatClampNeg) < (8 : Int32) then
            bnd (f_X5_addStep a1 a2 a3 a4 u17) fun r21 u22 =>
            some (r21, u22)
          else
            bnd (f_X6_found (1 : Int32) u17) fun r23 u24 =>
            some (r23, u24))))))
set_option maxRecDepth 100000 in
set_option maxHeartbeats 4000000 in
theorem c_X6_step {a1 : Int32} {a2 : Int32} {a3 : Int32} {a4 : Int32} {u0 : XS} {r : Int32} {u' : XS} (h : f_X6_step a1 a2 a3 a4 u0 = some (r, u')) : MI l D cI cZ cQ adK adV A yX6_step cX6_step 5 (some .int) { frames := 3, cells := 0, slots := 0, locals := 68 } [.ref (ad 0), .int a1, .int a2, .int a3, .int a4] (wX cI cZ cQ ad) u0 r u' := by
  unfold f_X6_step at h
  refine entI (by decide) (Nat.le_of_ble_eq_true rfl) (fun p e s m below meth c ls X K G hl => ?_)
  have hl : lv_has ls 5 [(0, .ref (ad 0)), (1, .int a1), (2, .int a2), (3, .int a3), (4, .int a4)] := hl
  obtain ⟨hx, hb, -⟩ := id X
  generalize hH : s.heap = H at G
  subst hH
  refine lv_aload_n hx hb dX6_step_0 rfl (lv_at hl 0 rfl) ?_
  refine gX_0_0 X K G q_300 dX6_step_1 ?_
  refine lv_iload_n hx hb dX6_step_4 rfl (lv_at hl 1 rfl) ?_
  obtain ⟨r1, u2, er1, h⟩ := bnd_at h
  refine cvI (rest := []) X K G (c_X5_hasThing er1) q_553 my_X5_hasThing ⟨rfl, rfl⟩ ⟨Nat.le_of_ble_eq_true rfl, Nat.le_of_ble_eq_true rfl⟩ ⟨Nat.zero_le _, Nat.zero_le _⟩ 1 5 rfl rfl rfl rfl hl.1 rfl (Nat.le_of_ble_eq_true rfl) dX6_step_5 (fun H locs G => ?_)
  clear er1
  refine lv_if_eq (tgt := 43) hx hb dX6_step_8 (by decide) (fun c3 => ?_) (fun c3 => ?_)
  · have h := it_at c3 h
    refine lv_aload_n hx hb dX6_step_43 rfl (lv_at hl 0 rfl) ?_
    refine lv_iconst (v := 0) hx hb dX6_step_44 (by decide) ?_
    obtain ⟨r4, u5, er4, h⟩ := bnd_at h
    refine cvI (rest := []) X K G (c_X6_found er4) q_338 my_X6_found ⟨rfl, rfl⟩ ⟨Nat.le_of_ble_eq_true rfl, Nat.le_of_ble_eq_true rfl⟩ ⟨Nat.zero_le _, Nat.zero_le _⟩ 0 6 rfl rfl rfl rfl hl.1 rfl (Nat.le_of_ble_eq_true rfl) dX6_step_45 (fun H locs G => ?_)
    clear er4
    obtain ⟨rfl, rfl⟩ := pair_at h
    exact reI X G dX6_step_48
  · have h := if_at c3 h
    refine lv_aload_n hx hb dX6_step_11 rfl (lv_at hl 0 rfl) ?_
    refine gX_0_0 X K G q_300 dX6_step_12 ?_
    refine lv_iload_n hx hb dX6_step_15 rfl (lv_at hl 2 rfl) ?_
    obtain ⟨r6, u7, er6, h⟩ := bnd_at h
    refine cvI (rest := []) X K G (c_X5_hasTool er6) q_531 my_X5_hasTool ⟨rfl, rfl⟩ ⟨Nat.le_of_ble_eq_true rfl, Nat.le_of_ble_eq_true rfl⟩ ⟨Nat.zero_le _, Nat.zero_le _⟩ 1 5 rfl rfl rfl rfl hl.1 rfl (Nat.le_of_ble_eq_true rfl) dX6_step_16 (fun H locs G => ?_)
    clear er6
    refine lv_if_eq (tgt := 43) hx hb dX6_step_19 (by decide) (fun c8 => ?_) (fun c8 => ?_)
    · have h := it_at c8 h
      refine lv_aload_n hx hb dX6_step_43 rfl (lv_at hl 0 rfl) ?_
      refine lv_iconst (v := 0) hx hb dX6_step_44 (by decide) ?_
      obtain ⟨r9, u10, er9, h⟩ := bnd_at h
      refine cvI (rest := []) X K G (c_X6_found er9) q_338 my_X6_found ⟨rfl, rfl⟩ ⟨Nat.le_of_ble_eq_true rfl, Nat.le_of_ble_eq_true rfl⟩ ⟨Nat.zero_le _, Nat.zero_le _⟩ 0 6 rfl rfl rfl rfl hl.1 rfl (Nat.le_of_ble_eq_true rfl) dX6_step_45 (fun H locs G => ?_)
      clear er9
      obtain ⟨rfl, rfl⟩ := pair_at h
      exact reI X G dX6_step_48
    · have h := if_at c8 h
      refine lv_iload_n hx hb dX6_step_22 rfl (lv_at hl 3 rfl) ?_
      refine lv_iconst (v := 1) hx hb dX6_step_23 (by decide) ?_
      refine lv_bipush (v := 8) hx hb dX6_step_24 (by decide) ?_
      obtain ⟨r11, u12, er11, h⟩ := bnd_at h
      refine csI (rest := []) X K G (c_X6_within er11) q_335 my_X6_within ⟨rfl, rfl⟩ ⟨Nat.le_of_ble_eq_true rfl, Nat.le_of_ble_eq_true rfl⟩ ⟨Nat.zero_le _, Nat.zero_le _⟩ rfl hl.1 rfl (Nat.le_of_ble_eq_true rfl) dX6_step_26 (fun H locs G => ?_)
      clear er11
      refine lv_if_eq (tgt := 43) hx hb dX6_step_29 (by decide) (fun c13 => ?_) (fun c13 => ?_)
      · have h := it_at c13 h
        refine lv_aload_n hx hb dX6_step_43 rfl (lv_at hl 0 rfl) ?_
        refine lv_iconst (v := 0) hx hb dX6_step_44 (by decide) ?_
        obtain ⟨r14, u15, er14, h⟩ := bnd_at h
        refine cvI (rest := []) X K G (c_X6_found er14) q_338 my_X6_found ⟨rfl, rfl⟩ ⟨Nat.le_of_ble_eq_true rfl, Nat.le_of_ble_eq_true rfl⟩ ⟨Nat.zero_le _, Nat.zero_le _⟩ 0 6 rfl rfl rfl rfl hl.1 rfl (Nat.le_of_ble_eq_true rfl) dX6_step_45 (fun H locs G => ?_)
        clear er14
        obtain ⟨rfl, rfl⟩ := pair_at h
        exact reI X G dX6_step_48
      · have h := if_at c13 h
        refine lv_iload hx hb dX6_step_32 (lv_at hl 4 rfl) ?_
        refine lv_iconst (v := 0) hx hb dX6_step_34 (by decide) ?_
        refine lv_bipush (v := 99) hx hb dX6_step_35 (by decide) ?_
        obtain ⟨r16, u17, er16, h⟩ := bnd_at h
        refine csI (rest := []) X K G (c_X6_within er16) q_335 my_X6_within ⟨rfl, rfl⟩ ⟨Nat.le_of_ble_eq_true rfl, Nat.le_of_ble_eq_true rfl⟩ ⟨Nat.zero_le _, Nat.zero_le _⟩ rfl hl.1 rfl (Nat.le_of_ble_eq_true rfl) dX6_step_37 (fun H locs G => ?_)
        clear er16
        refine lv_if_ne (tgt := 49) hx hb dX6_step_40 (by decide) (fun c18 => ?_) (fun c18 => ?_)
        · have h := if_at c18 h
          refine lv_aload_n hx hb dX6_step_49 rfl (lv_at hl 0 rfl) ?_
          refine gX_0_0 X K G q_300 dX6_step_50 ?_
          refine gX_1_8 X K G q_131 dX6_step_53 ?_
          refine lv_iload_n hx hb dX6_step_56 rfl (lv_at hl 1 rfl) ?_
          obtain ⟨g19, h⟩ := ck_at h
          refine lX_4 X K G g19 dX6_step_57 ?_
          refine lv_bipush (v := 8) hx hb dX6_step_58 (by decide) ?_
          refine lv_icmp_lt (tgt := 69) hx hb dX6_step_60 (by decide) (fun c20 => ?_) (fun c20 => ?_)
          · have h := it_at c20 h
            refine lv_aload_n hx hb dX6_step_69 rfl (lv_at hl 0 rfl) ?_
            refine gX_0_0 X K G q_300 dX6_step_70 ?_
            refine lv_iload_n hx hb dX6_step_73 rfl (lv_at hl 1 rfl) ?_
            refine lv_iload_n hx hb dX6_step_74 rfl (lv_at hl 2 rfl) ?_
            refine lv_iload_n hx hb dX6_step_75 rfl (lv_at hl 3 rfl) ?_
            refine lv_iload hx hb dX6_step_76 (lv_at hl 4 rfl) ?_
            obtain ⟨r21, u22, er21, h⟩ := bnd_at h
            refine cvI (rest := []) X K G (c_X5_addStep er21) q_548 my_X5_addStep ⟨rfl, rfl⟩ ⟨Nat.le_of_ble_eq_true rfl, Nat.le_of_ble_eq_true rfl⟩ ⟨Nat.zero_le _, Nat.zero_le _⟩ 1 5 rfl rfl rfl rfl hl.1 rfl (Nat.le_of_ble_eq_true rfl) dX6_step_78 (fun H locs G => ?_)
            clear er21
            obtain ⟨rfl, rfl⟩ := pair_at h
            exact reI X G dX6_step_81
          · have h := if_at c20 h
            refine lv_aload_n hx hb dX6_step_63 rfl (lv_at hl 0 rfl) ?_
            refine lv_iconst (v := 1) hx hb dX6_step_64 (by decide) ?_
            obtain ⟨r23, u24, er23, h⟩ := bnd_at h
            refine cvI (rest := []) X K G (c_X6_found er23) q_338 my_X6_found ⟨rfl, rfl⟩ ⟨Nat.le_of_ble_eq_true rfl, Nat.le_of_ble_eq_true rfl⟩ ⟨Nat.zero_le _, Nat.zero_le _⟩ 0 6 rfl rfl rfl rfl hl.1 rfl (Nat.le_of_ble_eq_true rfl) dX6_step_65 (fun H locs G => ?_)
            clear er23
            obtain ⟨rfl, rfl⟩ := pair_at h
            exact reI X G dX6_step_68
        · have h := it_at c18 h
          refine lv_aload_n hx hb dX6_step_43 rfl (lv_at hl 0 rfl) ?_
          refine lv_iconst (v := 0) hx hb dX6_step_44 (by decide) ?_
          obtain ⟨r25, u26, er25, h⟩ := bnd_at h
          refine cvI (rest := []) X K G (c_X6_found er25) q_338 my_X6_found ⟨rfl, rfl⟩ ⟨Nat.le_of_ble_eq_true rfl, Nat.le_of_ble_eq_true rfl⟩ ⟨Nat.zero_le _, Nat.zero_le _⟩ 0 6 rfl rfl rfl rfl hl.1 rfl (Nat.le_of_ble_eq_true rfl) dX6_step_45 (fun H locs G => ?_)
          clear er25
          obtain ⟨rfl, rfl⟩ := pair_at h
          exact reI X G dX6_step_48
noncomputable def f_X5_hasStep (a1 : Int32) (a2 : Int32) (u0 : XS) : Option (Int32 × XS) :=
  bnd (f_X5_hasThing a1 u0) fun r1 u2 =>
  (if r1 = 0 then
    some ((0 : Int32), u2)
  else
    if a1 < 0 ∨ 8 ≤ a1.toNatClampNeg then none else
    bnd (f_X6_within a2 (0 : Int32) (((tCounts (xT u2)) a1.toNatClampNeg) - (1 : Int32)) u2) fun r5 u6 =>
    (if r5 = 0 then
      some ((0 : Int32), u6)
    else
      some ((1 : Int32), u6)))
set_option maxRecDepth 100000 in
set_option maxHeartbeats 4000000 in
theorem c_X5_hasStep {a1 : Int32} {a2 : Int32} {u0 : XS} {r : Int32} {u' : XS} (h : f_X5_hasStep a1 a2 u0 = some (r, u')) : MI l D cI cZ cQ adK adV A yX5_hasStep cX5_hasStep 3 (some .boolean) { frames := 2, cells := 0, slots := 0, locals := 43 } [.ref (ad 1), .int a1, .int a2] (wX cI cZ cQ ad) u0 r u' := by
  unfold f_X5_hasStep at h
  refine entI (by decide) (Nat.le_of_ble_eq_true rfl) (fun p e s m below meth c ls X K G hl => ?_)
  have hl : lv_has ls 3 [(0, .ref (ad 1)), (1, .int a1), (2, .int a2)] := hl
  obtain ⟨hx, hb, -⟩ := id X
  generalize hH : s.heap = H at G
  subst hH
  refine lv_aload_n hx hb dX5_hasStep_0 rfl (lv_at hl 0 rfl) ?_
  refine lv_iload_n hx hb dX5_hasStep_1 rfl (lv_at hl 1 rfl) ?_
  obtain ⟨r1, u2, er1, h⟩ := bnd_at h
  refine cvI (rest := []) X K G (c_X5_hasThing er1) q_504 my_X5_hasThing ⟨rfl, rfl⟩ ⟨Nat.le_of_ble_eq_true rfl, Nat.le_of_ble_eq_true rfl⟩ ⟨Nat.zero_le _, Nat.zero_le _⟩ 1 5 rfl rfl rfl rfl hl.1 rfl (Nat.le_of_ble_eq_true rfl) dX5_hasStep_2 (fun H locs G => ?_)
  clear er1
  refine lv_if_eq (tgt := 28) hx hb dX5_hasStep_5 (by decide) (fun c3 => ?_) (fun c3 => ?_)
  · have h := it_at c3 h
    refine lv_iconst (v := 0) hx hb dX5_hasStep_28 (by decide) ?_
    obtain ⟨rfl, rfl⟩ := pair_at h
    exact reZ X G (Or.inl rfl) dX5_hasStep_29
  · have h := if_at c3 h
    refine lv_iload_n hx hb dX5_hasStep_8 rfl (lv_at hl 2 rfl) ?_
    refine lv_iconst (v := 0) hx hb dX5_hasStep_9 (by decide) ?_
    refine lv_aload_n hx hb dX5_hasStep_10 rfl (lv_at hl 0 rfl) ?_
    refine gX_1_8 X K G q_128 dX5_hasStep_11 ?_
    refine lv_iload_n hx hb dX5_hasStep_14 rfl (lv_at hl 1 rfl) ?_
    obtain ⟨g4, h⟩ := ck_at h
    refine lX_4 X K G g4 dX5_hasStep_15 ?_
    refine lv_iconst (v := 1) hx hb dX5_hasStep_16 (by decide) ?_
    refine lv_isub hx hb dX5_hasStep_17 ?_
    obtain ⟨r5, u6, er5, h⟩ := bnd_at h
    refine cnI (rest := []) X K G (c_X6_within er5) K.2.1.2.1 my_X6_within ⟨rfl, rfl⟩ ⟨Nat.le_of_ble_eq_true rfl, Nat.le_of_ble_eq_true rfl⟩ ⟨Nat.zero_le _, Nat.zero_le _⟩ rfl hl.1 rfl (Nat.le_of_ble_eq_true rfl) dX5_hasStep_18 (fun H locs G => ?_)
    clear er5
    refine lv_if_eq (tgt := 28) hx hb dX5_hasStep_21 (by decide) (fun c7 => ?_) (fun c7 => ?_)
    · have h := it_at c7 h
      refine lv_iconst (v := 0) hx hb dX5_hasStep_28 (by decide) ?_
      obtain ⟨rfl, rfl⟩ := pair_at h
      exact reZ X G (Or.inl rfl) dX5_hasStep_29
    · have h := if_at c7 h
      refine lv_iconst (v := 1) hx hb dX5_hasStep_24 (by decide) ?_
      refine lv_goto (tgt := 29) hx hb dX5_hasStep_25 (by decide) ?_
      obtain ⟨rfl, rfl⟩ := pair_at h
      exact reZ X G (Or.inr rfl) dX5_hasStep_29
noncomputable def f_X5_stepNumber (a1 : Int32) (a2 : Int32) (a3 : Int32) (u0 : XS) : Option (Int32 × XS) :=
  nmv ((((a1 * (8 : Int32)) + a2) * (3 : Int32)) + a3) fun x1 =>
  if x1 < 0 ∨ 192 ≤ x1.toNatClampNeg then none else
  some ((tNums (xT u0)) x1.toNatClampNeg, u0)
set_option maxRecDepth 100000 in
set_option maxHeartbeats 4000000 in
theorem c_X5_stepNumber {a1 : Int32} {a2 : Int32} {a3 : Int32} {u0 : XS} {r : Int32} {u' : XS} (h : f_X5_stepNumber a1 a2 a3 u0 = some (r, u')) : MI l D cI cZ cQ adK adV A yX5_stepNumber cX5_stepNumber 4 (some .int) { frames := 0, cells := 0, slots := 0, locals := 0 } [.ref (ad 1), .int a1, .int a2, .int a3] (wX cI cZ cQ ad) u0 r u' := by
  unfold f_X5_stepNumber at h
  refine entI (by decide) (Nat.le_of_ble_eq_true rfl) (fun p e s m below meth c ls X K G hl => ?_)
  have hl : lv_has ls 4 [(0, .ref (ad 1)), (1, .int a1), (2, .int a2), (3, .int a3)] := hl
  obtain ⟨hx, hb, -⟩ := id X
  generalize hH : s.heap = H at G
  subst hH
  refine lv_aload_n hx hb dX5_stepNumber_0 rfl (lv_at hl 0 rfl) ?_
  refine gX_1_9 X K G q_132 dX5_stepNumber_1 ?_
  refine lv_iload_n hx hb dX5_stepNumber_4 rfl (lv_at hl 1 rfl) ?_
  refine lv_bipush (v := 8) hx hb dX5_stepNumber_5 (by decide) ?_
  refine lv_imul hx hb dX5_stepNumber_7 ?_
  refine lv_iload_n hx hb dX5_stepNumber_8 rfl (lv_at hl 2 rfl) ?_
  refine lv_iadd hx hb dX5_stepNumber_9 ?_
  refine lv_iconst (v := 3) hx hb dX5_stepNumber_10 (by decide) ?_
  refine lv_imul hx hb dX5_stepNumber_11 ?_
  refine lv_iload_n hx hb dX5_stepNumber_12 rfl (lv_at hl 3 rfl) ?_
  refine lv_iadd hx hb dX5_stepNumber_13 ?_
  refine lv_topi (fun x1 ex1 => ?_)
  have h := nm_at ex1 h
  obtain ⟨g2, h⟩ := ck_at h
  refine lX_5 X K G g2 dX5_stepNumber_14 ?_
  obtain ⟨rfl, rfl⟩ := pair_at h
  exact reI X G dX5_stepNumber_15
noncomputable def f_X6_thingOf (a1 : Int32) (a2 : Int32) (a3 : Int32) (u0 : XS) : Option (Int32 × XS) :=
  bnd (f_X5_hasThing a1 u0) fun r1 u2 =>
  (if r1 = 0 then
    bnd (f_X6_found (0 : Int32) u2) fun r20 u21 =>
    some (r20, u21)
  else
    (if a2 = (-1 : Int32) then
      if a1 < 0 ∨ 8 ≤ a1.toNatClampNeg then none else
      some ((tKinds (xT u2)) a1.toNatClampNeg, u2)
    else
      (if a2 = (-2 : Int32) then
        if a1 < 0 ∨ 8 ≤ a1.toNatClampNeg then none else
        some ((tCounts (xT u2)) a1.toNatClampNeg, u2)
      else
        bnd (f_X5_hasStep a1 a2 u2) fun r6 u7 =>
        (if r6 = 0 then
          bnd (f_X6_found (0 : Int32) u7) fun r9 u10 =>
          some (r9, u10)
        else
          bnd (f_X6_within a3 (0 : Int32) (2 : Int32) u7) fun r11 u12 =>
          (if r11 = 0 then
            bnd (f_X6_found (0 : Int32) u12) fun r16 u17 =>
            some (r16, u17)
          else
            bnd (f_X5_stepNumber a1 a2 a3 u12) fun r14 u15 =>
            some (r14, u15))))))
set_option maxRecDepth 100000 in
set_option maxHeartbeats 4000000 in
theorem c_X6_thingOf {a1 : Int32} {a2 : Int32} {a3 : Int32} {u0 : XS} {r : Int32} {u' : XS} (h : f_X6_thingOf a1 a2 a3 u0 = some (r, u')) : MI l D cI cZ cQ adK adV A yX6_thingOf cX6_thingOf 4 (some .int) { frames := 3, cells := 0, slots := 0, locals := 65 } [.ref (ad 0), .int a1, .int a2, .int a3] (wX cI cZ cQ ad) u0 r u' := by
  unfold f_X6_thingOf at h
  refine entI (by decide) (Nat.le_of_ble_eq_true rfl) (fun p e s m below meth c ls X K G hl => ?_)
  have hl : lv_has ls 4 [(0, .ref (ad 0)), (1, .int a1), (2, .int a2), (3, .int a3)] := hl
  obtain ⟨hx, hb, -⟩ := id X
  generalize hH : s.heap = H at G
  subst hH
  refine lv_aload_n hx hb dX6_thingOf_0 rfl (lv_at hl 0 rfl) ?_
  refine gX_0_0 X K G q_300 dX6_thingOf_1 ?_
  refine lv_iload_n hx hb dX6_thingOf_4 rfl (lv_at hl 1 rfl) ?_
  obtain ⟨r1, u2, er1, h⟩ := bnd_at h
  refine cvI (rest := []) X K G (c_X5_hasThing er1) q_553 my_X5_hasThing ⟨rfl, rfl⟩ ⟨Nat.le_of_ble_eq_true rfl, Nat.le_of_ble_eq_true rfl⟩ ⟨Nat.zero_le _, Nat.zero_le _⟩ 1 5 rfl rfl rfl rfl hl.1 rfl (Nat.le_of_ble_eq_true rfl) dX6_thingOf_5 (fun H locs G => ?_)
  clear er1
  refine lv_if_ne (tgt := 17) hx hb dX6_thingOf_8 (by decide) (fun c3 => ?_) (fun c3 => ?_)
  · have h := if_at c3 h
    refine lv_iload_n hx hb dX6_thingOf_17 rfl (lv_at hl 2 rfl) ?_
    refine lv_iconst (v := -1) hx hb dX6_thingOf_18 (by decide) ?_
    refine lv_icmp_ne (tgt := 32) hx hb dX6_thingOf_19 (by decide) (fun c4 => ?_) (fun c4 => ?_)
    · have h := if_at c4 h
      refine lv_iload_n hx hb dX6_thingOf_32 rfl (lv_at hl 2 rfl) ?_
      refine lv_bipush (v := -2) hx hb dX6_thingOf_33 (by decide) ?_
      refine lv_icmp_ne (tgt := 48) hx hb dX6_thingOf_35 (by decide) (fun c5 => ?_) (fun c5 => ?_)
      · have h := if_at c5 h
        refine lv_aload_n hx hb dX6_thingOf_48 rfl (lv_at hl 0 rfl) ?_
        refine gX_0_0 X K G q_300 dX6_thingOf_49 ?_
        refine lv_iload_n hx hb dX6_thingOf_52 rfl (lv_at hl 1 rfl) ?_
        refine lv_iload_n hx hb dX6_thingOf_53 rfl (lv_at hl 2 rfl) ?_
        obtain ⟨r6, u7, er6, h⟩ := bnd_at h
        refine cvI (rest := []) X K G (c_X5_hasStep er6) q_558 my_X5_hasStep ⟨rfl, rfl⟩ ⟨Nat.le_of_ble_eq_true rfl, Nat.le_of_ble_eq_true rfl⟩ ⟨Nat.zero_le _, Nat.zero_le _⟩ 1 5 rfl rfl rfl rfl hl.1 rfl (Nat.le_of_ble_eq_true rfl) dX6_thingOf_54 (fun H locs G => ?_)
        clear er6
        refine lv_if_eq (tgt := 69) hx hb dX6_thingOf_57 (by decide) (fun c8 => ?_) (fun c8 => ?_)
        · have h := it_at c8 h
          refine lv_aload_n hx hb dX6_thingOf_69 rfl (lv_at hl 0 rfl) ?_
          refine lv_iconst (v := 0) hx hb dX6_thingOf_70 (by decide) ?_
          obtain ⟨r9, u10, er9, h⟩ := bnd_at h
          refine cvI (rest := []) X K G (c_X6_found er9) q_338 my_X6_found ⟨rfl, rfl⟩ ⟨Nat.le_of_ble_eq_true rfl, Nat.le_of_ble_eq_true rfl⟩ ⟨Nat.zero_le _, Nat.zero_le _⟩ 0 6 rfl rfl rfl rfl hl.1 rfl (Nat.le_of_ble_eq_true rfl) dX6_thingOf_71 (fun H locs G => ?_)
          clear er9
          obtain ⟨rfl, rfl⟩ := pair_at h
          exact reI X G dX6_thingOf_74
        · have h := if_at c8 h
          refine lv_iload_n hx hb dX6_thingOf_60 rfl (lv_at hl 3 rfl) ?_
          refine lv_iconst (v := 0) hx hb dX6_thingOf_61 (by decide) ?_
          refine lv_iconst (v := 2) hx hb dX6_thingOf_62 (by decide) ?_
          obtain ⟨r11, u12, er11, h⟩ := bnd_at h
          refine csI (rest := []) X K G (c_X6_within er11) q_335 my_X6_within ⟨rfl, rfl⟩ ⟨Nat.le_of_ble_eq_true rfl, Nat.le_of_ble_eq_true rfl⟩ ⟨Nat.zero_le _, Nat.zero_le _⟩ rfl hl.1 rfl (Nat.le_of_ble_eq_true rfl) dX6_thingOf_63 (fun H locs G => ?_)
          clear er11
          refine lv_if_ne (tgt := 75) hx hb dX6_thingOf_66 (by decide) (fun c13 => ?_) (fun c13 => ?_)
          · have h := if_at c13 h
            refine lv_aload_n hx hb dX6_thingOf_75 rfl (lv_at hl 0 rfl) ?_
            refine gX_0_0 X K G q_300 dX6_thingOf_76 ?_
            refine lv_iload_n hx hb dX6_thingOf_79 rfl (lv_at hl 1 rfl) ?_
            refine lv_iload_n hx hb dX6_thingOf_80 rfl (lv_at hl 2 rfl) ?_
            refine lv_iload_n hx hb dX6_thingOf_81 rfl (lv_at hl 3 rfl) ?_
            obtain ⟨r14, u15, er14, h⟩ := bnd_at h
            refine cvI (rest := []) X K G (c_X5_stepNumber er14) q_562 my_X5_stepNumber ⟨rfl, rfl⟩ ⟨Nat.le_of_ble_eq_true rfl, Nat.le_of_ble_eq_true rfl⟩ ⟨Nat.zero_le _, Nat.zero_le _⟩ 1 5 rfl rfl rfl rfl hl.1 rfl (Nat.le_of_ble_eq_true rfl) dX6_thingOf_82 (fun H locs G => ?_)
            clear er14
            obtain ⟨rfl, rfl⟩ := pair_at h
            exact reI X G dX6_thingOf_85
          · have h := it_at c13 h
            refine lv_aload_n hx hb dX6_thingOf_69 rfl (lv_at hl 0 rfl) ?_
            refine lv_iconst (v := 0) hx hb dX6_thingOf_70 (by decide) ?_
            obtain ⟨r16, u17, er16, h⟩ := bnd_at h
            refine cvI (rest := []) X K G (c_X6_found er16) q_338 my_X6_found ⟨rfl, rfl⟩ ⟨Nat.le_of_ble_eq_true rfl, Nat.le_of_ble_eq_true rfl⟩ ⟨Nat.zero_le _, Nat.zero_le _⟩ 0 6 rfl rfl rfl rfl hl.1 rfl (Nat.le_of_ble_eq_true rfl) dX6_thingOf_71 (fun H locs G => ?_)
            clear er16
            obtain ⟨rfl, rfl⟩ := pair_at h
            exact reI X G dX6_thingOf_74
      · have h := it_at c5 h
        refine lv_aload_n hx hb dX6_thingOf_38 rfl (lv_at hl 0 rfl) ?_
        refine gX_0_0 X K G q_300 dX6_thingOf_39 ?_
        refine gX_1_8 X K G q_131 dX6_thingOf_42 ?_
        refine lv_iload_n hx hb dX6_thingOf_45 rfl (lv_at hl 1 rfl) ?_
        obtain ⟨g18, h⟩ := ck_at h
        refine lX_4 X K G g18 dX6_thingOf_46 ?_
        obtain ⟨rfl, rfl⟩ := pair_at h
        exact reI X G dX6_thingOf_47
    · have h := it_at c4 h
      refine lv_aload_n hx hb dX6_thingOf_22 rfl (lv_at hl 0 rfl) ?_
      refine gX_0_0 X K G q_300 dX6_thingOf_23 ?_
      refine gX_1_7 X K G q_127 dX6_thingOf_26 ?_
      refine lv_iload_n hx hb dX6_thingOf_29 rfl (lv_at hl 1 rfl) ?_
      obtain ⟨g19, h⟩ := ck_at h
      refine lX_3 X K G g19 dX6_thingOf_30 ?_
      obtain ⟨rfl, rfl⟩ := pair_at h
      exact reI X G dX6_thingOf_31
  · have h := it_at c3 h
    refine lv_aload_n hx hb dX6_thingOf_11 rfl (lv_at hl 0 rfl) ?_
    refine lv_iconst (v := 0) hx hb dX6_thingOf_12 (by decide) ?_
    obtain ⟨r20, u21, er20, h⟩ := bnd_at h
    refine cvI (rest := []) X K G (c_X6_found er20) q_338 my_X6_found ⟨rfl, rfl⟩ ⟨Nat.le_of_ble_eq_true rfl, Nat.le_of_ble_eq_true rfl⟩ ⟨Nat.zero_le _, Nat.zero_le _⟩ 0 6 rfl rfl rfl rfl hl.1 rfl (Nat.le_of_ble_eq_true rfl) dX6_thingOf_13 (fun H locs G => ?_)
    clear er20
    obtain ⟨rfl, rfl⟩ := pair_at h
    exact reI X G dX6_thingOf_16
noncomputable def f_X6_turn (a1 : Int32) (a2 : Int32) (u0 : XS) : Option (Int32 × XS) :=
  bnd (f_X5_hasThing a1 u0) fun r1 u2 =>
  (if r1 = 0 then
    bnd (f_X6_found (0 : Int32) u2) fun r4 u5 =>
    some (r4, u5)
  else
    bnd (f_X6_within a2 (0 : Int32) (6 : Int32) u2) fun r6 u7 =>
    (if r6 = 0 then
      bnd (f_X6_found (0 : Int32) u7) fun r13 u14 =>
      some (r13, u14)
    else
      if a1 < 0 ∨ 8 ≤ a1.toNatClampNeg then none else
      nmv ((tKinds (xT u7)) a1.toNatClampNeg) fun x10 =>
      if a1 < 0 ∨ 8 ≤ a1.toNatClampNeg then none else
      nmv (sT u7 (uKinds (xT u7) (upd (tKinds (xT u7)) a1.toNatClampNeg a2))) fun u12 =>
      some (x10, u12)))
set_option maxRecDepth 100000 in
set_option maxHeartbeats 4000000 in
theorem c_X6_turn {a1 : Int32} {a2 : Int32} {u0 : XS} {r : Int32} {u' : XS} (h : f_X6_turn a1 a2 u0 = some (r, u')) : MI l D cI cZ cQ adK adV A yX6_turn cX6_turn 4 (some .int) { frames := 2, cells := 0, slots := 0, locals := 43 } [.ref (ad 0), .int a1, .int a2] (wX cI cZ cQ ad) u0 r u' := by
  unfold f_X6_turn at h
  refine entI (by decide) (Nat.le_of_ble_eq_true rfl) (fun p e s m below meth c ls X K G hl => ?_)
  have hl : lv_has ls 4 [(0, .ref (ad 0)), (1, .int a1), (2, .int a2)] := hl
  obtain ⟨hx, hb, -⟩ := id X
  generalize hH : s.heap = H at G
  subst hH
  refine lv_aload_n hx hb dX6_turn_0 rfl (lv_at hl 0 rfl) ?_
  refine gX_0_0 X K G q_300 dX6_turn_1 ?_
  refine lv_iload_n hx hb dX6_turn_4 rfl (lv_at hl 1 rfl) ?_
  obtain ⟨r1, u2, er1, h⟩ := bnd_at h
  refine cvI (rest := []) X K G (c_X5_hasThing er1) q_553 my_X5_hasThing ⟨rfl, rfl⟩ ⟨Nat.le_of_ble_eq_true rfl, Nat.le_of_ble_eq_true rfl⟩ ⟨Nat.zero_le _, Nat.zero_le _⟩ 1 5 rfl rfl rfl rfl hl.1 rfl (Nat.le_of_ble_eq_true rfl) dX6_turn_5 (fun H locs G => ?_)
  clear er1
  refine lv_if_eq (tgt := 21) hx hb dX6_turn_8 (by decide) (fun c3 => ?_) (fun c3 => ?_)
  · have h := it_at c3 h
    refine lv_aload_n hx hb dX6_turn_21 rfl (lv_at hl 0 rfl) ?_
    refine lv_iconst (v := 0) hx hb dX6_turn_22 (by decide) ?_
    obtain ⟨r4, u5, er4, h⟩ := bnd_at h
    refine cvI (rest := []) X K G (c_X6_found er4) q_338 my_X6_found ⟨rfl, rfl⟩ ⟨Nat.le_of_ble_eq_true rfl, Nat.le_of_ble_eq_true rfl⟩ ⟨Nat.zero_le _, Nat.zero_le _⟩ 0 6 rfl rfl rfl rfl hl.1 rfl (Nat.le_of_ble_eq_true rfl) dX6_turn_23 (fun H locs G => ?_)
    clear er4
    obtain ⟨rfl, rfl⟩ := pair_at h
    exact reI X G dX6_turn_26
  · have h := if_at c3 h
    refine lv_iload_n hx hb dX6_turn_11 rfl (lv_at hl 2 rfl) ?_
    refine lv_iconst (v := 0) hx hb dX6_turn_12 (by decide) ?_
    refine lv_bipush (v := 6) hx hb dX6_turn_13 (by decide) ?_
    obtain ⟨r6, u7, er6, h⟩ := bnd_at h
    refine csI (rest := []) X K G (c_X6_within er6) q_335 my_X6_within ⟨rfl, rfl⟩ ⟨Nat.le_of_ble_eq_true rfl, Nat.le_of_ble_eq_true rfl⟩ ⟨Nat.zero_le _, Nat.zero_le _⟩ rfl hl.1 rfl (Nat.le_of_ble_eq_true rfl) dX6_turn_15 (fun H locs G => ?_)
    clear er6
    refine lv_if_ne (tgt := 27) hx hb dX6_turn_18 (by decide) (fun c8 => ?_) (fun c8 => ?_)
    · have h := if_at c8 h
      refine lv_aload_n hx hb dX6_turn_27 rfl (lv_at hl 0 rfl) ?_
      refine gX_0_0 X K G q_300 dX6_turn_28 ?_
      refine gX_1_7 X K G q_127 dX6_turn_31 ?_
      refine lv_iload_n hx hb dX6_turn_34 rfl (lv_at hl 1 rfl) ?_
      obtain ⟨g9, h⟩ := ck_at h
      refine lX_3 X K G g9 dX6_turn_35 ?_
      refine lv_topi (fun x10 ex10 => ?_)
      have h := nm_at ex10 h
      refine lv_istore_n (lv' := [(3, .int x10), (0, .ref (ad 0)), (1, .int a1), (2, .int a2)]) hx hb dX6_turn_36 rfl hl (by decide) rfl (fun ls hl => ?_)
      refine lv_aload_n hx hb dX6_turn_37 rfl (lv_at hl 1 rfl) ?_
      refine gX_0_0 X K G q_300 dX6_turn_38 ?_
      refine gX_1_7 X K G q_127 dX6_turn_41 ?_
      refine lv_iload_n hx hb dX6_turn_44 rfl (lv_at hl 2 rfl) ?_
      refine lv_iload_n hx hb dX6_turn_45 rfl (lv_at hl 3 rfl) ?_
      obtain ⟨g11, h⟩ := ck_at h
      refine aX_3 X K G g11 dX6_turn_46 (fun H locs G => ?_)
      obtain ⟨u12, eu12⟩ : ∃ z : XS, z = sT u7 (uKinds (xT u7) (upd (tKinds (xT u7)) a1.toNatClampNeg a2)) := ⟨_, rfl⟩
      have G : wg D A s.heap H locs (wX cI cZ cQ ad u12) := by rw [eu12]; exact G
      have h := nm_at eu12 h
      clear eu12
      refine lv_iload_n hx hb dX6_turn_47 rfl (lv_at hl 0 rfl) ?_
      obtain ⟨rfl, rfl⟩ := pair_at h
      exact reI X G dX6_turn_48
    · have h := it_at c8 h
      refine lv_aload_n hx hb dX6_turn_21 rfl (lv_at hl 0 rfl) ?_
      refine lv_iconst (v := 0) hx hb dX6_turn_22 (by decide) ?_
      obtain ⟨r13, u14, er13, h⟩ := bnd_at h
      refine cvI (rest := []) X K G (c_X6_found er13) q_338 my_X6_found ⟨rfl, rfl⟩ ⟨Nat.le_of_ble_eq_true rfl, Nat.le_of_ble_eq_true rfl⟩ ⟨Nat.zero_le _, Nat.zero_le _⟩ 0 6 rfl rfl rfl rfl hl.1 rfl (Nat.le_of_ble_eq_true rfl) dX6_turn_23 (fun H locs G => ?_)
      clear er13
      obtain ⟨rfl, rfl⟩ := pair_at h
      exact reI X G dX6_turn_26
end WALK_cls0
